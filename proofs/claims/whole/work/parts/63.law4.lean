/-! the reference's rows for a state as one name; small facts -/
def md_mw : MDu → Nat → Int32 := fun (mw, mh, ms, mp, ml, mb, mm, md, mc, mhi, msw, mmi, mhc, ma, mq, mt) => mw
def md_mh : MDu → Nat → Int32 := fun (mw, mh, ms, mp, ml, mb, mm, md, mc, mhi, msw, mmi, mhc, ma, mq, mt) => mh
def md_ms : MDu → Nat → Nat := fun (mw, mh, ms, mp, ml, mb, mm, md, mc, mhi, msw, mmi, mhc, ma, mq, mt) => ms
def md_mp : MDu → Nat → Nat := fun (mw, mh, ms, mp, ml, mb, mm, md, mc, mhi, msw, mmi, mhc, ma, mq, mt) => mp
def md_mb : MDu → Nat → Nat := fun (mw, mh, ms, mp, ml, mb, mm, md, mc, mhi, msw, mmi, mhc, ma, mq, mt) => mb
def md_mm : MDu → Nat → Nat := fun (mw, mh, ms, mp, ml, mb, mm, md, mc, mhi, msw, mmi, mhc, ma, mq, mt) => mm
def md_hi : MDu → Int32 := fun (mw, mh, ms, mp, ml, mb, mm, md, mc, mhi, msw, mmi, mhc, ma, mq, mt) => mhi
def md_sw : MDu → Int32 := fun (mw, mh, ms, mp, ml, mb, mm, md, mc, mhi, msw, mmi, mhc, ma, mq, mt) => msw
def md_mi : MDu → Int32 := fun (mw, mh, ms, mp, ml, mb, mm, md, mc, mhi, msw, mmi, mhc, ma, mq, mt) => mmi
def md_hc : MDu → Int32 := fun (mw, mh, ms, mp, ml, mb, mm, md, mc, mhi, msw, mmi, mhc, ma, mq, mt) => mhc
theorem sim_pr {wr hm : Nat → Int32} {u : CBu} {la : LAu} {x : MDu} (h : SimS wr hm u la x) : md_ms x 0 = u.1 ∧ md_mp x 0 = u.2.1 ∧ md_mm x 0 = u.2.2.2.2.1 ∧ md_mw x = wr ∧ md_hc x = cb_hc u ∧ (∀ s, s < 16 → md_ml x s = cb_ln u s) ∧ (∀ k, k < u.2.2.2.2.1 → md_mb x k = u.2.2.2.1 (u.2.2.2.2.1 - 1 - k)) ∧ (∀ j, j < 256 → md_dt x j = cb_dt u j) ∧ (∀ a, a < 1024 → md_mh x a = if cb_dt u (a / 4) = true then hm a else wr a) ∧ md_hi x = u.2.2.2.2.2.2.1 ∧ md_sw x = u.2.2.2.2.2.2.2.1 ∧ md_mi x = u.2.2.2.2.2.2.2.2.1 := by
  obtain ⟨sc, pl, ln, bn, n, dt, hi, sw, mi, hc, co⟩ := u
  obtain ⟨mw, mh, ms, mp, ml, mb, mm, md, mc, mhi, msw, mmi, mhc, ma, mq, mt⟩ := x
  exact sim_ln h
theorem mt_thr (k : Nat) (x : MDu) : md_mt (md_thr k x) = k := by
  obtain ⟨mw, mh, ms, mp, ml, mb, mm, md, mc, mhi, msw, mmi, mhc, ma, mq, mt⟩ := x
  rfl
theorem mt_ask (q : Nat) (b : Bool) (x : MDu) : md_mt (md_ask q b x) = md_mt x := (md_ask_mw q b x).2
theorem mt_set (a : Nat) (v : Int32) (x : MDu) : md_mt (md_set a v x) = md_mt x := by
  obtain ⟨mw, mh, ms, mp, ml, mb, mm, md, mc, mhi, msw, mmi, mhc, ma, mq, mt⟩ := x
  have e : md_mt (md_set a v (mw, mh, ms, mp, ml, mb, mm, md, mc, mhi, msw, mmi, mhc, ma, mq, mt)) = mt := rfl
  exact e
theorem mt_steps (a : Nat) (z : Int) (x : MDu) (k : Nat) : md_mt (md_steps a z k x) = md_mt x := md_steps_mt k
theorem mt_throws (w si q : Nat) (x : MDu) : md_mt (md_throws w si q x) = md_mt x := (md_same_throws w si q x).2.2.2
theorem mt_bhs (x : MDu) : ∀ i, md_mt (md_bhs i x) = md_mt x
  | 0 => rfl
  | i + 1 => ((md_same_goes 0 i (md_bhs i x)).2.2.2 : md_mt (md_goes 0 i (md_bhs i x)) = md_mt (md_bhs i x)).trans (mt_bhs x i)
theorem mt_all (x : MDu) : md_mt (md_all x) = md_mt x := by
  unfold md_all
  generalize (256 : Nat) = k
  exact mt_bhs x k
theorem mt_se (w s' p' : Nat) (x : MDu) : md_mt (md_size w s' p' (md_empties w x)) = md_mt x := by
  obtain ⟨mw, mh, ms, mp, ml, mb, mm, md, mc, mhi, msw, mmi, mhc, ma, mq, mt⟩ := x
  have e : md_mt (md_size w s' p' (md_empties w (mw, mh, ms, mp, ml, mb, mm, md, mc, mhi, msw, mmi, mhc, ma, mq, mt))) = mt := rfl
  exact e
theorem mt_zero (w : Nat) (x : MDu) : md_mt (md_zero w x) = md_mt x := by
  obtain ⟨mw, mh, ms, mp, ml, mb, mm, md, mc, mhi, msw, mmi, mhc, ma, mq, mt⟩ := x
  have e : md_mt (md_zero w (mw, mh, ms, mp, ml, mb, mm, md, mc, mhi, msw, mmi, mhc, ma, mq, mt)) = mt := rfl
  exact e
theorem mt_mark (q : Nat) (b : Bool) (x : MDu) : md_mt (md_mark q b x) = md_mt x := by
  obtain ⟨mw, mh, ms, mp, ml, mb, mm, md, mc, mhi, msw, mmi, mhc, ma, mq, mt⟩ := x
  have e : md_mt (md_mark q b (mw, mh, ms, mp, ml, mb, mm, md, mc, mhi, msw, mmi, mhc, ma, mq, mt)) = mt := rfl
  exact e
theorem mt_try (x : MDu) : ∀ k, md_mt (md_try k x) = md_mt x
  | 0 => rfl
  | k + 1 => by
    unfold md_try
    rw [mt_mark]
    exact ((md_same_acc 1 (md_asked x k / 2) (md_try k x)).2.2.2 : md_mt (md_acc 1 (md_asked x k / 2) (md_try k x)) = md_mt (md_try k x)).trans (mt_try x k)
theorem mt_tried (s' p' : Nat) (x : MDu) : md_mt (md_tried s' p' x) = md_mt x := by
  unfold md_tried
  rw [mt_try, mt_zero, mt_se]
theorem updL0 (f : Nat → Int64) (v : Int64) : vp_updL f 0 v 0 = v := by
  unfold vp_updL
  simp
theorem int_split (x : Int32) {N : Nat} (hN : N < 2 ^ 31) : (x < 0 ∨ nI N ≤ x) ∨ ∃ a, a < N ∧ x = nI a := by
  by_cases h0 : x < 0
  · exact Or.inl (Or.inl h0)
  · by_cases h1 : nI N ≤ x
    · exact Or.inl (Or.inr h1)
    · refine Or.inr ⟨x.toInt.toNat, ?_, ?_⟩
      · rw [Int32.le_iff_toInt_le, nI_toInt hN] at h1
        rw [Int32.lt_iff_toInt_lt] at h0
        have z : (0 : Int32).toInt = 0 := rfl
        rw [z] at h0
        omega
      · rw [Int32.lt_iff_toInt_lt] at h0
        have z : (0 : Int32).toInt = 0 := rfl
        rw [z] at h0
        apply Int32.toInt_inj.mp
        have hx : x.toInt < 2 ^ 31 := x.toInt_lt
        rw [nI_toInt (by omega)]
        omega
theorem okS_nat {x y : Int32} (h : okS x y) : ∃ s' p' : Nat, (s' = 1 ∨ s' = 2 ∨ s' = 4 ∨ s' = 8 ∨ s' = 16) ∧ p' ≤ 8 ∧ x = nI s' ∧ y = nI p' := by
  obtain ⟨h1, h2, h3⟩ := h
  have hp : ∃ p' : Nat, p' ≤ 8 ∧ y = nI p' := by
    rcases int_split y (N := 9) (by decide) with (q | q) | ⟨a, ha, e⟩
    · exact absurd h2 (by rw [Int32.not_le]; exact q)
    · rw [Int32.le_iff_toInt_le, nI_toInt (by decide)] at q
      rw [Int32.le_iff_toInt_le] at h3
      have z : (8 : Int32).toInt = 8 := rfl
      rw [z] at h3
      omega
    · exact ⟨a, by omega, e⟩
  obtain ⟨p', hp1, hp2⟩ := hp
  rcases h1 with h | h | h | h | h
  · exact ⟨1, p', by omega, hp1, h, hp2⟩
  · exact ⟨2, p', by omega, hp1, h, hp2⟩
  · exact ⟨4, p', by omega, hp1, h, hp2⟩
  · exact ⟨8, p', by omega, hp1, h, hp2⟩
  · exact ⟨16, p', by omega, hp1, h, hp2⟩
theorem walk_nat {y v : Int32} (h : ¬ (y < -64 ∨ 64 < y ∨ v < 1 ∨ 100 < v)) : ∃ (z : Int) (k : Nat), -64 ≤ z ∧ z ≤ 64 ∧ 1 ≤ k ∧ k ≤ 100 ∧ y = Int32.ofInt z ∧ v = nI k := by
  have h1 : ¬ y < -64 := fun q => h (Or.inl q)
  have h2 : ¬ 64 < y := fun q => h (Or.inr (Or.inl q))
  have h3 : ¬ v < 1 := fun q => h (Or.inr (Or.inr (Or.inl q)))
  have h4 : ¬ 100 < v := fun q => h (Or.inr (Or.inr (Or.inr q)))
  rw [Int32.lt_iff_toInt_lt] at h1 h2 h3 h4
  have e1 : (-64 : Int32).toInt = -64 := by decide
  have e2 : (64 : Int32).toInt = 64 := by decide
  have e3 : (1 : Int32).toInt = 1 := by decide
  have e4 : (100 : Int32).toInt = 100 := by decide
  rw [e1] at h1
  rw [e2] at h2
  rw [e3] at h3
  rw [e4] at h4
  refine ⟨y.toInt, v.toInt.toNat, by omega, by omega, by omega, by omega, (Int32.ofInt_toInt y).symm, ?_⟩
  apply Int32.toInt_inj.mp
  rw [nI_toInt (by omega)]
  omega
theorem mU_read (l : Launch) (D : va_G) (cyI cyZ cyJ : ClassId) (ga : Nat → Nat) (x : MDu) (a : Nat) (hb9 : md_bd 0 x) (hab : md_abd x) (ha : a < 1024) : CtI l yX3_read wsX3_read rmX3_read D (T3 cyI cyZ cyJ) [.ref (ga 0), .int (nI a)] (wMo cyI ga x) (md_mw x a) (wMo cyI ga (md_ask (a / 4) false (md_thr 0 x))) := by
  obtain ⟨mw, mh, ms, mp, ml, mb, mm, md, mc, mhi, msw, mmi, mhc, ma, mq, mt⟩ := x
  unfold wMo
  exact m_read l D cyI cyZ cyJ (ga 0) (ga 1) (ga 2) (ga 3) (ga 4) (ga 5) (ga 6) (ga 7) (ga 8) (ga 9) (ga 10) mw mh ms mp ml mb mm md mc mhi msw mmi mhc ma mq mt a hb9 hab ha
theorem mU_readN (l : Launch) (D : va_G) (cyI cyZ cyJ : ClassId) (ga : Nat → Nat) (x : MDu) (x0 : Int32) (hbad : x0 < 0 ∨ nI 1024 ≤ x0) : CtI l yX3_read wsX3_read rmX3_read D (T3 cyI cyZ cyJ) [.ref (ga 0), .int x0] (wMo cyI ga x) (nI 0) (wMo cyI ga (md_thr 1 x)) := by
  obtain ⟨mw, mh, ms, mp, ml, mb, mm, md, mc, mhi, msw, mmi, mhc, ma, mq, mt⟩ := x
  unfold wMo
  exact m_readN l D cyI cyZ cyJ (ga 0) (ga 1) (ga 2) (ga 3) (ga 4) (ga 5) (ga 6) (ga 7) (ga 8) (ga 9) (ga 10) mw mh ms mp ml mb mm md mc mhi msw mmi mhc ma mq mt x0 hbad
theorem mU_write (l : Launch) (D : va_G) (cyI cyZ cyJ : ClassId) (ga : Nat → Nat) (x : MDu) (a : Nat) (y : Int32) (hb9 : md_bd 0 x) (hab : md_abd x) (ha : a < 1024) : CtI l yX3_write wsX3_write rmX3_write D (T3 cyI cyZ cyJ) [.ref (ga 0), .int (nI a), .int y] (wMo cyI ga x) (md_mw x a) (wMo cyI ga (md_set a y (md_ask (a / 4) true (md_thr 0 x)))) := by
  obtain ⟨mw, mh, ms, mp, ml, mb, mm, md, mc, mhi, msw, mmi, mhc, ma, mq, mt⟩ := x
  unfold wMo
  exact m_write l D cyI cyZ cyJ (ga 0) (ga 1) (ga 2) (ga 3) (ga 4) (ga 5) (ga 6) (ga 7) (ga 8) (ga 9) (ga 10) mw mh ms mp ml mb mm md mc mhi msw mmi mhc ma mq mt a y hb9 hab ha
theorem mU_writeN (l : Launch) (D : va_G) (cyI cyZ cyJ : ClassId) (ga : Nat → Nat) (x : MDu) (x0 y : Int32) (hbad : x0 < 0 ∨ nI 1024 ≤ x0) : CtI l yX3_write wsX3_write rmX3_write D (T3 cyI cyZ cyJ) [.ref (ga 0), .int x0, .int y] (wMo cyI ga x) (nI 0) (wMo cyI ga (md_thr 1 x)) := by
  obtain ⟨mw, mh, ms, mp, ml, mb, mm, md, mc, mhi, msw, mmi, mhc, ma, mq, mt⟩ := x
  unfold wMo
  exact m_writeN l D cyI cyZ cyJ (ga 0) (ga 1) (ga 2) (ga 3) (ga 4) (ga 5) (ga 6) (ga 7) (ga 8) (ga 9) (ga 10) mw mh ms mp ml mb mm md mc mhi msw mmi mhc ma mq mt x0 y hbad
theorem mU_walk (l : Launch) (D : va_G) (cyI cyZ cyJ : ClassId) (ga : Nat → Nat) (x : MDu) (a : Nat) (z : Int) (k : Nat) (hb9 : md_bd 0 x) (hab : md_abd x) (ha : a < 1024) (hz1 : -64 ≤ z) (hz2 : z ≤ 64) (hk1 : 1 ≤ k) (hk2 : k ≤ 100) : CtI l yX3_walk wsX3_walk rmX3_walk D (T3 cyI cyZ cyJ) [.ref (ga 0), .int (nI a), .int (Int32.ofInt z), .int (nI k)] (wMo cyI ga x) (md_co (md_steps a z k (md_thr 0 x)) 0 - md_co x 0) (wMo cyI ga (md_steps a z k (md_thr 0 x))) := by
  obtain ⟨mw, mh, ms, mp, ml, mb, mm, md, mc, mhi, msw, mmi, mhc, ma, mq, mt⟩ := x
  unfold wMo
  exact m_walk l D cyI cyZ cyJ (ga 0) (ga 1) (ga 2) (ga 3) (ga 4) (ga 5) (ga 6) (ga 7) (ga 8) (ga 9) (ga 10) mw mh ms mp ml mb mm md mc mhi msw mmi mhc ma mq mt a z k hb9 hab ha hz1 hz2 hk1 hk2
theorem mU_walkN (l : Launch) (D : va_G) (cyI cyZ cyJ : ClassId) (ga : Nat → Nat) (x : MDu) (x0 y v : Int32) (hbad : x0 < 0 ∨ nI 1024 ≤ x0) : CtI l yX3_walk wsX3_walk rmX3_walk D (T3 cyI cyZ cyJ) [.ref (ga 0), .int x0, .int y, .int v] (wMo cyI ga x) (md_co x 0 - md_co x 0) (wMo cyI ga (md_thr 1 x)) := by
  obtain ⟨mw, mh, ms, mp, ml, mb, mm, md, mc, mhi, msw, mmi, mhc, ma, mq, mt⟩ := x
  unfold wMo
  exact m_walkN l D cyI cyZ cyJ (ga 0) (ga 1) (ga 2) (ga 3) (ga 4) (ga 5) (ga 6) (ga 7) (ga 8) (ga 9) (ga 10) mw mh ms mp ml mb mm md mc mhi msw mmi mhc ma mq mt x0 y v hbad
theorem mU_walkM (l : Launch) (D : va_G) (cyI cyZ cyJ : ClassId) (ga : Nat → Nat) (x : MDu) (a : Nat) (y v : Int32) (ha : a < 1024) (hbad : y < -64 ∨ 64 < y ∨ v < 1 ∨ 100 < v) : CtI l yX3_walk wsX3_walk rmX3_walk D (T3 cyI cyZ cyJ) [.ref (ga 0), .int (nI a), .int y, .int v] (wMo cyI ga x) (md_co x 0 - md_co x 0) (wMo cyI ga (md_thr 2 x)) := by
  obtain ⟨mw, mh, ms, mp, ml, mb, mm, md, mc, mhi, msw, mmi, mhc, ma, mq, mt⟩ := x
  unfold wMo
  exact m_walkM l D cyI cyZ cyJ (ga 0) (ga 1) (ga 2) (ga 3) (ga 4) (ga 5) (ga 6) (ga 7) (ga 8) (ga 9) (ga 10) mw mh ms mp ml mb mm md mc mhi msw mmi mhc ma mq mt a y v ha hbad
theorem mU_bringHome (l : Launch) (D : va_G) (cyI cyZ cyJ : ClassId) (ga : Nat → Nat) (x : MDu)  : CtI l yX3_bringHome wsX3_bringHome rmX3_bringHome D (T3 cyI cyZ cyJ) [.ref (ga 0)] (wMo cyI ga x) (nI (cnt (md_dt x) 256)) (wMo cyI ga (md_all (md_thr 0 x))) := by
  obtain ⟨mw, mh, ms, mp, ml, mb, mm, md, mc, mhi, msw, mmi, mhc, ma, mq, mt⟩ := x
  unfold wMo
  exact m_bringHome l D cyI cyZ cyJ (ga 0) (ga 1) (ga 2) (ga 3) (ga 4) (ga 5) (ga 6) (ga 7) (ga 8) (ga 9) (ga 10) mw mh ms mp ml mb mm md mc mhi msw mmi mhc ma mq mt 
theorem mU_build (l : Launch) (D : va_G) (cyI cyZ cyJ : ClassId) (ga : Nat → Nat) (x : MDu) (s' p' : Nat) (hb9 : md_bd 0 x) (hs : s' = 1 ∨ s' = 2 ∨ s' = 4 ∨ s' = 8 ∨ s' = 16) (hp : p' ≤ 8) : CtI l yX3_build wsX3_build rmX3_build D (T3 cyI cyZ cyJ) [.ref (ga 0), .int (nI s'), .int (nI p')] (wMo cyI ga x) (nI (md_lines x)) (wMo cyI ga (md_size 0 s' p' (md_empties 0 (md_all (md_thr 0 x))))) := by
  obtain ⟨mw, mh, ms, mp, ml, mb, mm, md, mc, mhi, msw, mmi, mhc, ma, mq, mt⟩ := x
  unfold wMo
  exact m_build l D cyI cyZ cyJ (ga 0) (ga 1) (ga 2) (ga 3) (ga 4) (ga 5) (ga 6) (ga 7) (ga 8) (ga 9) (ga 10) mw mh ms mp ml mb mm md mc mhi msw mmi mhc ma mq mt s' p' hb9 hs hp
theorem mU_buildN (l : Launch) (D : va_G) (cyI cyZ cyJ : ClassId) (ga : Nat → Nat) (x : MDu) (x0 y : Int32) (hbad : ¬ okS x0 y) : CtI l yX3_build wsX3_build rmX3_build D (T3 cyI cyZ cyJ) [.ref (ga 0), .int x0, .int y] (wMo cyI ga x) (nI 0) (wMo cyI ga (md_thr 1 x)) := by
  obtain ⟨mw, mh, ms, mp, ml, mb, mm, md, mc, mhi, msw, mmi, mhc, ma, mq, mt⟩ := x
  unfold wMo
  exact m_buildN l D cyI cyZ cyJ (ga 0) (ga 1) (ga 2) (ga 3) (ga 4) (ga 5) (ga 6) (ga 7) (ga 8) (ga 9) (ga 10) mw mh ms mp ml mb mm md mc mhi msw mmi mhc ma mq mt x0 y hbad
theorem mU_cast (l : Launch) (D : va_G) (cyI cyZ cyJ : ClassId) (ga : Nat → Nat) (x : MDu) (k q : Nat) (hb9 : md_bd 0 x) (hk : k < md_ms x 0) (hmlq : md_ml x k = some q) : CtI l yX3_cast wsX3_cast rmX3_cast D (T3 cyI cyZ cyJ) [.ref (ga 0), .int (nI k)] (wMo cyI ga x) (nI q) (wMo cyI ga (md_throws 0 k q (md_thr 0 x))) := by
  obtain ⟨mw, mh, ms, mp, ml, mb, mm, md, mc, mhi, msw, mmi, mhc, ma, mq, mt⟩ := x
  unfold wMo
  exact m_cast l D cyI cyZ cyJ (ga 0) (ga 1) (ga 2) (ga 3) (ga 4) (ga 5) (ga 6) (ga 7) (ga 8) (ga 9) (ga 10) mw mh ms mp ml mb mm md mc mhi msw mmi mhc ma mq mt k q hb9 hk hmlq
theorem mU_castN (l : Launch) (D : va_G) (cyI cyZ cyJ : ClassId) (ga : Nat → Nat) (x : MDu) (x0 : Int32) (hbad : x0 < 0 ∨ nI (md_ms x 0) ≤ x0) : CtI l yX3_cast wsX3_cast rmX3_cast D (T3 cyI cyZ cyJ) [.ref (ga 0), .int x0] (wMo cyI ga x) (nI 0) (wMo cyI ga (md_thr 1 x)) := by
  obtain ⟨mw, mh, ms, mp, ml, mb, mm, md, mc, mhi, msw, mmi, mhc, ma, mq, mt⟩ := x
  unfold wMo
  exact m_castN l D cyI cyZ cyJ (ga 0) (ga 1) (ga 2) (ga 3) (ga 4) (ga 5) (ga 6) (ga 7) (ga 8) (ga 9) (ga 10) mw mh ms mp ml mb mm md mc mhi msw mmi mhc ma mq mt x0 hbad
theorem mU_castM (l : Launch) (D : va_G) (cyI cyZ cyJ : ClassId) (ga : Nat → Nat) (x : MDu) (k : Nat) (hb9 : md_bd 0 x) (hk : k < md_ms x 0) (hmlq : md_ml x k = none) : CtI l yX3_cast wsX3_cast rmX3_cast D (T3 cyI cyZ cyJ) [.ref (ga 0), .int (nI k)] (wMo cyI ga x) (nI 0) (wMo cyI ga (md_thr 2 x)) := by
  obtain ⟨mw, mh, ms, mp, ml, mb, mm, md, mc, mhi, msw, mmi, mhc, ma, mq, mt⟩ := x
  unfold wMo
  exact m_castM l D cyI cyZ cyJ (ga 0) (ga 1) (ga 2) (ga 3) (ga 4) (ga 5) (ga 6) (ga 7) (ga 8) (ga 9) (ga 10) mw mh ms mp ml mb mm md mc mhi msw mmi mhc ma mq mt k hb9 hk hmlq
theorem mU_sets (l : Launch) (D : va_G) (cyI cyZ cyJ : ClassId) (ga : Nat → Nat) (x : MDu)  : CtI l yX3_sets wsX3_sets rmX3_sets D (T3 cyI cyZ cyJ) [.ref (ga 0)] (wMo cyI ga x) (nI (md_ms x 0)) (wMo cyI ga (md_thr 0 x)) := by
  obtain ⟨mw, mh, ms, mp, ml, mb, mm, md, mc, mhi, msw, mmi, mhc, ma, mq, mt⟩ := x
  unfold wMo
  exact m_sets l D cyI cyZ cyJ (ga 0) (ga 1) (ga 2) (ga 3) (ga 4) (ga 5) (ga 6) (ga 7) (ga 8) (ga 9) (ga 10) mw mh ms mp ml mb mm md mc mhi msw mmi mhc ma mq mt 
theorem mU_places (l : Launch) (D : va_G) (cyI cyZ cyJ : ClassId) (ga : Nat → Nat) (x : MDu)  : CtI l yX3_places wsX3_places rmX3_places D (T3 cyI cyZ cyJ) [.ref (ga 0)] (wMo cyI ga x) (nI (md_mp x 0)) (wMo cyI ga (md_thr 0 x)) := by
  obtain ⟨mw, mh, ms, mp, ml, mb, mm, md, mc, mhi, msw, mmi, mhc, ma, mq, mt⟩ := x
  unfold wMo
  exact m_places l D cyI cyZ cyJ (ga 0) (ga 1) (ga 2) (ga 3) (ga 4) (ga 5) (ga 6) (ga 7) (ga 8) (ga 9) (ga 10) mw mh ms mp ml mb mm md mc mhi msw mmi mhc ma mq mt 
theorem mU_sitting (l : Launch) (D : va_G) (cyI cyZ cyJ : ClassId) (ga : Nat → Nat) (x : MDu)  : CtI l yX3_sitting wsX3_sitting rmX3_sitting D (T3 cyI cyZ cyJ) [.ref (ga 0)] (wMo cyI ga x) (nI (md_mm x 0)) (wMo cyI ga (md_thr 0 x)) := by
  obtain ⟨mw, mh, ms, mp, ml, mb, mm, md, mc, mhi, msw, mmi, mhc, ma, mq, mt⟩ := x
  unfold wMo
  exact m_sitting l D cyI cyZ cyJ (ga 0) (ga 1) (ga 2) (ga 3) (ga 4) (ga 5) (ga 6) (ga 7) (ga 8) (ga 9) (ga 10) mw mh ms mp ml mb mm md mc mhi msw mmi mhc ma mq mt 
theorem mU_hits (l : Launch) (D : va_G) (cyI cyZ cyJ : ClassId) (ga : Nat → Nat) (x : MDu)  : CtI l yX3_hits wsX3_hits rmX3_hits D (T3 cyI cyZ cyJ) [.ref (ga 0)] (wMo cyI ga x) (md_hi x) (wMo cyI ga (md_thr 0 x)) := by
  obtain ⟨mw, mh, ms, mp, ml, mb, mm, md, mc, mhi, msw, mmi, mhc, ma, mq, mt⟩ := x
  unfold wMo
  exact m_hits l D cyI cyZ cyJ (ga 0) (ga 1) (ga 2) (ga 3) (ga 4) (ga 5) (ga 6) (ga 7) (ga 8) (ga 9) (ga 10) mw mh ms mp ml mb mm md mc mhi msw mmi mhc ma mq mt 
theorem mU_swaps (l : Launch) (D : va_G) (cyI cyZ cyJ : ClassId) (ga : Nat → Nat) (x : MDu)  : CtI l yX3_swaps wsX3_swaps rmX3_swaps D (T3 cyI cyZ cyJ) [.ref (ga 0)] (wMo cyI ga x) (md_sw x) (wMo cyI ga (md_thr 0 x)) := by
  obtain ⟨mw, mh, ms, mp, ml, mb, mm, md, mc, mhi, msw, mmi, mhc, ma, mq, mt⟩ := x
  unfold wMo
  exact m_swaps l D cyI cyZ cyJ (ga 0) (ga 1) (ga 2) (ga 3) (ga 4) (ga 5) (ga 6) (ga 7) (ga 8) (ga 9) (ga 10) mw mh ms mp ml mb mm md mc mhi msw mmi mhc ma mq mt 
theorem mU_misses (l : Launch) (D : va_G) (cyI cyZ cyJ : ClassId) (ga : Nat → Nat) (x : MDu)  : CtI l yX3_misses wsX3_misses rmX3_misses D (T3 cyI cyZ cyJ) [.ref (ga 0)] (wMo cyI ga x) (md_mi x) (wMo cyI ga (md_thr 0 x)) := by
  obtain ⟨mw, mh, ms, mp, ml, mb, mm, md, mc, mhi, msw, mmi, mhc, ma, mq, mt⟩ := x
  unfold wMo
  exact m_misses l D cyI cyZ cyJ (ga 0) (ga 1) (ga 2) (ga 3) (ga 4) (ga 5) (ga 6) (ga 7) (ga 8) (ga 9) (ga 10) mw mh ms mp ml mb mm md mc mhi msw mmi mhc ma mq mt 
theorem mU_homecomings (l : Launch) (D : va_G) (cyI cyZ cyJ : ClassId) (ga : Nat → Nat) (x : MDu)  : CtI l yX3_homecomings wsX3_homecomings rmX3_homecomings D (T3 cyI cyZ cyJ) [.ref (ga 0)] (wMo cyI ga x) (md_hc x) (wMo cyI ga (md_thr 0 x)) := by
  obtain ⟨mw, mh, ms, mp, ml, mb, mm, md, mc, mhi, msw, mmi, mhc, ma, mq, mt⟩ := x
  unfold wMo
  exact m_homecomings l D cyI cyZ cyJ (ga 0) (ga 1) (ga 2) (ga 3) (ga 4) (ga 5) (ga 6) (ga 7) (ga 8) (ga 9) (ga 10) mw mh ms mp ml mb mm md mc mhi msw mmi mhc ma mq mt 
theorem mU_cost (l : Launch) (D : va_G) (cyI cyZ cyJ : ClassId) (ga : Nat → Nat) (x : MDu)  : CtI l yX3_cost wsX3_cost rmX3_cost D (T3 cyI cyZ cyJ) [.ref (ga 0)] (wMo cyI ga x) (md_co x 0) (wMo cyI ga (md_thr 0 x)) := by
  obtain ⟨mw, mh, ms, mp, ml, mb, mm, md, mc, mhi, msw, mmi, mhc, ma, mq, mt⟩ := x
  unfold wMo
  exact m_cost l D cyI cyZ cyJ (ga 0) (ga 1) (ga 2) (ga 3) (ga 4) (ga 5) (ga 6) (ga 7) (ga 8) (ga 9) (ga 10) mw mh ms mp ml mb mm md mc mhi msw mmi mhc ma mq mt 
theorem mU_lineIn (l : Launch) (D : va_G) (cyI cyZ cyJ : ClassId) (ga : Nat → Nat) (x : MDu) (k : Nat) (hb9 : md_bd 0 x) (hk : k < md_ms x 0) : CtI l yX3_lineIn wsX3_lineIn rmX3_lineIn D (T3 cyI cyZ cyJ) [.ref (ga 0), .int (nI k)] (wMo cyI ga x) (oI (md_ml x k)) (wMo cyI ga (md_thr 0 x)) := by
  obtain ⟨mw, mh, ms, mp, ml, mb, mm, md, mc, mhi, msw, mmi, mhc, ma, mq, mt⟩ := x
  unfold wMo
  exact m_lineIn l D cyI cyZ cyJ (ga 0) (ga 1) (ga 2) (ga 3) (ga 4) (ga 5) (ga 6) (ga 7) (ga 8) (ga 9) (ga 10) mw mh ms mp ml mb mm md mc mhi msw mmi mhc ma mq mt k hb9 hk
theorem mU_lineInN (l : Launch) (D : va_G) (cyI cyZ cyJ : ClassId) (ga : Nat → Nat) (x : MDu) (x0 : Int32) (hbad : x0 < 0 ∨ nI (md_ms x 0) ≤ x0) : CtI l yX3_lineIn wsX3_lineIn rmX3_lineIn D (T3 cyI cyZ cyJ) [.ref (ga 0), .int x0] (wMo cyI ga x) (nI 0) (wMo cyI ga (md_thr 1 x)) := by
  obtain ⟨mw, mh, ms, mp, ml, mb, mm, md, mc, mhi, msw, mmi, mhc, ma, mq, mt⟩ := x
  unfold wMo
  exact m_lineInN l D cyI cyZ cyJ (ga 0) (ga 1) (ga 2) (ga 3) (ga 4) (ga 5) (ga 6) (ga 7) (ga 8) (ga 9) (ga 10) mw mh ms mp ml mb mm md mc mhi msw mmi mhc ma mq mt x0 hbad
theorem mU_lineOnBench (l : Launch) (D : va_G) (cyI cyZ cyJ : ClassId) (ga : Nat → Nat) (x : MDu) (k : Nat) (hm8 : md_mm x 0 ≤ 8) (hk : k < md_mm x 0) : CtI l yX3_lineOnBench wsX3_lineOnBench rmX3_lineOnBench D (T3 cyI cyZ cyJ) [.ref (ga 0), .int (nI k)] (wMo cyI ga x) (nI (md_mb x k)) (wMo cyI ga (md_thr 0 x)) := by
  obtain ⟨mw, mh, ms, mp, ml, mb, mm, md, mc, mhi, msw, mmi, mhc, ma, mq, mt⟩ := x
  unfold wMo
  exact m_lineOnBench l D cyI cyZ cyJ (ga 0) (ga 1) (ga 2) (ga 3) (ga 4) (ga 5) (ga 6) (ga 7) (ga 8) (ga 9) (ga 10) mw mh ms mp ml mb mm md mc mhi msw mmi mhc ma mq mt k hm8 hk
theorem mU_lineOnBenchN (l : Launch) (D : va_G) (cyI cyZ cyJ : ClassId) (ga : Nat → Nat) (x : MDu) (x0 : Int32) (hbad : x0 < 0 ∨ nI (md_mm x 0) ≤ x0) : CtI l yX3_lineOnBench wsX3_lineOnBench rmX3_lineOnBench D (T3 cyI cyZ cyJ) [.ref (ga 0), .int x0] (wMo cyI ga x) (nI 0) (wMo cyI ga (md_thr 1 x)) := by
  obtain ⟨mw, mh, ms, mp, ml, mb, mm, md, mc, mhi, msw, mmi, mhc, ma, mq, mt⟩ := x
  unfold wMo
  exact m_lineOnBenchN l D cyI cyZ cyJ (ga 0) (ga 1) (ga 2) (ga 3) (ga 4) (ga 5) (ga 6) (ga 7) (ga 8) (ga 9) (ga 10) mw mh ms mp ml mb mm md mc mhi msw mmi mhc ma mq mt x0 hbad
theorem mU_placeOf (l : Launch) (D : va_G) (cyI cyZ cyJ : ClassId) (ga : Nat → Nat) (x : MDu) (q : Nat) (hb9 : md_bd 0 x) (hq : q < 256) : CtI l yX3_placeOf wsX3_placeOf rmX3_placeOf D (T3 cyI cyZ cyJ) [.ref (ga 0), .int (nI q)] (wMo cyI ga x) (nI (md_where q x)) (wMo cyI ga (md_thr 0 x)) := by
  obtain ⟨mw, mh, ms, mp, ml, mb, mm, md, mc, mhi, msw, mmi, mhc, ma, mq, mt⟩ := x
  unfold wMo
  exact m_placeOf l D cyI cyZ cyJ (ga 0) (ga 1) (ga 2) (ga 3) (ga 4) (ga 5) (ga 6) (ga 7) (ga 8) (ga 9) (ga 10) mw mh ms mp ml mb mm md mc mhi msw mmi mhc ma mq mt q hb9 hq
theorem mU_placeOfN (l : Launch) (D : va_G) (cyI cyZ cyJ : ClassId) (ga : Nat → Nat) (x : MDu) (x0 : Int32) (hbad : x0 < 0 ∨ nI 256 ≤ x0) : CtI l yX3_placeOf wsX3_placeOf rmX3_placeOf D (T3 cyI cyZ cyJ) [.ref (ga 0), .int x0] (wMo cyI ga x) (nI 0) (wMo cyI ga (md_thr 1 x)) := by
  obtain ⟨mw, mh, ms, mp, ml, mb, mm, md, mc, mhi, msw, mmi, mhc, ma, mq, mt⟩ := x
  unfold wMo
  exact m_placeOfN l D cyI cyZ cyJ (ga 0) (ga 1) (ga 2) (ga 3) (ga 4) (ga 5) (ga 6) (ga 7) (ga 8) (ga 9) (ga 10) mw mh ms mp ml mb mm md mc mhi msw mmi mhc ma mq mt x0 hbad
theorem mU_isDirty (l : Launch) (D : va_G) (cyI cyZ cyJ : ClassId) (ga : Nat → Nat) (x : MDu) (q : Nat) (hq : q < 256) : CtI l yX3_isDirty wsX3_isDirty rmX3_isDirty D (T3 cyI cyZ cyJ) [.ref (ga 0), .int (nI q)] (wMo cyI ga x) (bI (md_dt x q)) (wMo cyI ga (md_thr 0 x)) := by
  obtain ⟨mw, mh, ms, mp, ml, mb, mm, md, mc, mhi, msw, mmi, mhc, ma, mq, mt⟩ := x
  unfold wMo
  exact m_isDirty l D cyI cyZ cyJ (ga 0) (ga 1) (ga 2) (ga 3) (ga 4) (ga 5) (ga 6) (ga 7) (ga 8) (ga 9) (ga 10) mw mh ms mp ml mb mm md mc mhi msw mmi mhc ma mq mt q hq
theorem mU_isDirtyN (l : Launch) (D : va_G) (cyI cyZ cyJ : ClassId) (ga : Nat → Nat) (x : MDu) (x0 : Int32) (hbad : x0 < 0 ∨ nI 256 ≤ x0) : CtI l yX3_isDirty wsX3_isDirty rmX3_isDirty D (T3 cyI cyZ cyJ) [.ref (ga 0), .int x0] (wMo cyI ga x) (bI false) (wMo cyI ga (md_thr 1 x)) := by
  obtain ⟨mw, mh, ms, mp, ml, mb, mm, md, mc, mhi, msw, mmi, mhc, ma, mq, mt⟩ := x
  unfold wMo
  exact m_isDirtyN l D cyI cyZ cyJ (ga 0) (ga 1) (ga 2) (ga 3) (ga 4) (ga 5) (ga 6) (ga 7) (ga 8) (ga 9) (ga 10) mw mh ms mp ml mb mm md mc mhi msw mmi mhc ma mq mt x0 hbad
theorem mU_dirty (l : Launch) (D : va_G) (cyI cyZ cyJ : ClassId) (ga : Nat → Nat) (x : MDu)  : CtI l yX3_dirty wsX3_dirty rmX3_dirty D (T3 cyI cyZ cyJ) [.ref (ga 0)] (wMo cyI ga x) (nI (cnt (md_dt x) 256)) (wMo cyI ga (md_thr 0 x)) := by
  obtain ⟨mw, mh, ms, mp, ml, mb, mm, md, mc, mhi, msw, mmi, mhc, ma, mq, mt⟩ := x
  unfold wMo
  exact m_dirty l D cyI cyZ cyJ (ga 0) (ga 1) (ga 2) (ga 3) (ga 4) (ga 5) (ga 6) (ga 7) (ga 8) (ga 9) (ga 10) mw mh ms mp ml mb mm md mc mhi msw mmi mhc ma mq mt 
theorem mU_atHome (l : Launch) (D : va_G) (cyI cyZ cyJ : ClassId) (ga : Nat → Nat) (x : MDu) (a : Nat) (ha : a < 1024) : CtI l yX3_atHome wsX3_atHome rmX3_atHome D (T3 cyI cyZ cyJ) [.ref (ga 0), .int (nI a)] (wMo cyI ga x) (md_mh x a) (wMo cyI ga (md_thr 0 x)) := by
  obtain ⟨mw, mh, ms, mp, ml, mb, mm, md, mc, mhi, msw, mmi, mhc, ma, mq, mt⟩ := x
  unfold wMo
  exact m_atHome l D cyI cyZ cyJ (ga 0) (ga 1) (ga 2) (ga 3) (ga 4) (ga 5) (ga 6) (ga 7) (ga 8) (ga 9) (ga 10) mw mh ms mp ml mb mm md mc mhi msw mmi mhc ma mq mt a ha
theorem mU_atHomeN (l : Launch) (D : va_G) (cyI cyZ cyJ : ClassId) (ga : Nat → Nat) (x : MDu) (x0 : Int32) (hbad : x0 < 0 ∨ nI 1024 ≤ x0) : CtI l yX3_atHome wsX3_atHome rmX3_atHome D (T3 cyI cyZ cyJ) [.ref (ga 0), .int x0] (wMo cyI ga x) (nI 0) (wMo cyI ga (md_thr 1 x)) := by
  obtain ⟨mw, mh, ms, mp, ml, mb, mm, md, mc, mhi, msw, mmi, mhc, ma, mq, mt⟩ := x
  unfold wMo
  exact m_atHomeN l D cyI cyZ cyJ (ga 0) (ga 1) (ga 2) (ga 3) (ga 4) (ga 5) (ga 6) (ga 7) (ga 8) (ga 9) (ga 10) mw mh ms mp ml mb mm md mc mhi msw mmi mhc ma mq mt x0 hbad
theorem mU_peek (l : Launch) (D : va_G) (cyI cyZ cyJ : ClassId) (ga : Nat → Nat) (x : MDu) (a : Nat) (ha : a < 1024) : CtI l yX3_peek wsX3_peek rmX3_peek D (T3 cyI cyZ cyJ) [.ref (ga 0), .int (nI a)] (wMo cyI ga x) (md_mw x a) (wMo cyI ga (md_thr 0 x)) := by
  obtain ⟨mw, mh, ms, mp, ml, mb, mm, md, mc, mhi, msw, mmi, mhc, ma, mq, mt⟩ := x
  unfold wMo
  exact m_peek l D cyI cyZ cyJ (ga 0) (ga 1) (ga 2) (ga 3) (ga 4) (ga 5) (ga 6) (ga 7) (ga 8) (ga 9) (ga 10) mw mh ms mp ml mb mm md mc mhi msw mmi mhc ma mq mt a ha
theorem mU_peekN (l : Launch) (D : va_G) (cyI cyZ cyJ : ClassId) (ga : Nat → Nat) (x : MDu) (x0 : Int32) (hbad : x0 < 0 ∨ nI 1024 ≤ x0) : CtI l yX3_peek wsX3_peek rmX3_peek D (T3 cyI cyZ cyJ) [.ref (ga 0), .int x0] (wMo cyI ga x) (nI 0) (wMo cyI ga (md_thr 1 x)) := by
  obtain ⟨mw, mh, ms, mp, ml, mb, mm, md, mc, mhi, msw, mmi, mhc, ma, mq, mt⟩ := x
  unfold wMo
  exact m_peekN l D cyI cyZ cyJ (ga 0) (ga 1) (ga 2) (ga 3) (ga 4) (ga 5) (ga 6) (ga 7) (ga 8) (ga 9) (ga 10) mw mh ms mp ml mb mm md mc mhi msw mmi mhc ma mq mt x0 hbad
theorem mU_wouldCost (l : Launch) (D : va_G) (cyI cyZ cyJ : ClassId) (ga : Nat → Nat) (x : MDu) (s' p' : Nat) (hab : md_abd x) (hs : s' = 1 ∨ s' = 2 ∨ s' = 4 ∨ s' = 8 ∨ s' = 16) (hp : p' ≤ 8) : CtI l yX3_wouldCost wsX3_wouldCost rmX3_wouldCost D (T3 cyI cyZ cyJ) [.ref (ga 0), .int (nI s'), .int (nI p')] (wMo cyI ga x) (md_co (md_tried s' p' (md_thr 0 x)) 1) (wMo cyI ga (md_tried s' p' (md_thr 0 x))) := by
  obtain ⟨mw, mh, ms, mp, ml, mb, mm, md, mc, mhi, msw, mmi, mhc, ma, mq, mt⟩ := x
  unfold wMo
  exact m_wouldCost l D cyI cyZ cyJ (ga 0) (ga 1) (ga 2) (ga 3) (ga 4) (ga 5) (ga 6) (ga 7) (ga 8) (ga 9) (ga 10) mw mh ms mp ml mb mm md mc mhi msw mmi mhc ma mq mt s' p' hab hs hp
theorem mU_wouldCostN (l : Launch) (D : va_G) (cyI cyZ cyJ : ClassId) (ga : Nat → Nat) (x : MDu) (x0 y : Int32) (hbad : ¬ okS x0 y) : CtI l yX3_wouldCost wsX3_wouldCost rmX3_wouldCost D (T3 cyI cyZ cyJ) [.ref (ga 0), .int x0, .int y] (wMo cyI ga x) (nI 0) (wMo cyI ga (md_thr 1 x)) := by
  obtain ⟨mw, mh, ms, mp, ml, mb, mm, md, mc, mhi, msw, mmi, mhc, ma, mq, mt⟩ := x
  unfold wMo
  exact m_wouldCostN l D cyI cyZ cyJ (ga 0) (ga 1) (ga 2) (ga 3) (ga 4) (ga 5) (ga 6) (ga 7) (ga 8) (ga 9) (ga 10) mw mh ms mp ml mb mm md mc mhi msw mmi mhc ma mq mt x0 y hbad
theorem mU_bestPlaces (l : Launch) (D : va_G) (cyI cyZ cyJ : ClassId) (ga : Nat → Nat) (x : MDu) (hab : md_abd x) (hms : md_ms x 0 = 1 ∨ md_ms x 0 = 2 ∨ md_ms x 0 = 4 ∨ md_ms x 0 = 8 ∨ md_ms x 0 = 16) : CtI l yX3_bestPlaces wsX3_bestPlaces rmX3_bestPlaces D (T3 cyI cyZ cyJ) [.ref (ga 0)] (wMo cyI ga x) (nI (md_best (md_ms x 0) 8 (md_thr 0 x)).1) (wMo cyI ga ((md_best (md_ms x 0) 8 (md_thr 0 x)).2.2)) := by
  obtain ⟨mw, mh, ms, mp, ml, mb, mm, md, mc, mhi, msw, mmi, mhc, ma, mq, mt⟩ := x
  have hms0 : ms 0 = 1 ∨ ms 0 = 2 ∨ ms 0 = 4 ∨ ms 0 = 8 ∨ ms 0 = 16 := hms
  have e : md_ms (mw, mh, ms, mp, ml, mb, mm, md, mc, mhi, msw, mmi, mhc, ma, mq, mt) 0 = ms 0 := rfl
  rw [e]
  unfold wMo
  exact m_bestPlaces l D cyI cyZ cyJ (ga 0) (ga 1) (ga 2) (ga 3) (ga 4) (ga 5) (ga 6) (ga 7) (ga 8) (ga 9) (ga 10) mw mh ms mp ml mb mm md mc mhi msw mmi mhc ma mq mt hab hms

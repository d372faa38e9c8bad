/-- the two loops, side by side: both end, with one answer, in one state -/
theorem sd_loop (c b : Int32) (o fa fb : Nat → Int32) (ax gx tx ay gy ty : Int32) (hax : (ax = 0 ∨ ax = 1 ∨ ax = 2 ∨ ax = 3 ∨ ax = 4)) (hay : (ay = 0 ∨ ay = 1 ∨ ay = 2 ∨ ay = 3 ∨ ay = 4)) (hz : ∀ d p : Int32, sd_z ax gx tx d p = sd_y ay gy ty d p) (hc : c.toInt ≤ 20) (hP : sd_P o fa fb) :
    ∀ m n : Nat, n + m = 150 → ∀ (d p s e w : Int32) (rg mm bk : Nat → Int32), (0 ≤ d.toInt ∧ d.toInt ≤ 6) → ∃ (r d' p' s' e' : Int32) (rg' mm' bk' : Nat → Int32), (0 ≤ d'.toInt ∧ d'.toInt ≤ 6) ∧ (0 ≤ r.toInt ∧ r.toInt ≤ 6) ∧
      (∀ post : Int32 → SX → Prop, post r (c, b, d', p', s', e', r, o, fa, fb, rg', mm', bk') → wX_run_30 post ax gx tx (m + 1 + 1) (sd_fnd n (sd_halt c d p e o) (sd_z ax gx tx d p) (sd_br b p)) (nI (n + 1)) c b d p s e w o fa fb rg mm bk) ∧
      (∀ post : Int32 → SY → Prop, post r (c, b, d', p', s', e', r, o, fa, fb, rg', mm', bk') → wY_run_24 post ay gy ty (m + 1 + 1) 1 (nI n) c b d p s e 3 o fa fb rg mm bk) := by
  intro m
  induction m with
  | zero =>
    intro n hn d p s e w rg mm bk hd
    have h5 : ¬ (150 : Int32) < nI n := by rw [← sd_n150]; exact nI_nlt (by omega) (by decide)
    have hf : ¬ sd_fnd n (sd_halt c d p e o) (sd_z ax gx tx d p) (sd_br b p) = 0 := fun q => by have := (sd_f0 (by omega) q).2.1; omega
    refine ⟨sd_fnd n (sd_halt c d p e o) (sd_z ax gx tx d p) (sd_br b p), d, p, s, e, rg, mm, bk, hd, sd_fr (sd_hr c d p e o), fun post h => br_f hf h, fun post h => sd_dY hay h5 (sd_Y1 (by omega) hc (by rw [← hz]; exact hf) ?_)⟩
    rw [← hz]
    exact br_c (fun _ => h) (fun _ => br_t rfl h)
  | succ m ih =>
    intro n hn d p s e w rg mm bk hd
    have h5 : ¬ (150 : Int32) < nI n := by rw [← sd_n150]; exact nI_nlt (by omega) (by decide)
    by_cases hf : sd_fnd n (sd_halt c d p e o) (sd_z ax gx tx d p) (sd_br b p) = 0
    · obtain ⟨hh, hl, _⟩ := sd_f0 (by omega) hf
      obtain ⟨d1, p1, e1, rg1, mm1, bk1, hd1, CX, CY⟩ := sd_carry b s rg mm bk hc hd hP hh
      obtain ⟨r, d', p', s', e', rg', mm', bk', hd', hr, hX, hY⟩ := ih (n + 1) (by omega) d1 p1 (s + 1) e1 w rg1 mm1 bk1 hd1
      have h6 : ¬ (150 : Int32) < nI (n + 1) := by rw [← sd_n150]; exact nI_nlt (by omega) (by decide)
      refine ⟨r, d', p', s', e', rg', mm', bk', hd', hr, fun post h => br_t hf (br_f h6 (CX w _ ?_)), fun post h => sd_dY hay h5 (sd_Y0 (by omega) hc (by rw [← hz]; exact hf) CY (hY post h))⟩
      refine sd_aX hc hax (by omega) (by omega) fun y ey => ?_
      rw [ey, nI_1]
      exact hX post h
    · refine ⟨sd_fnd n (sd_halt c d p e o) (sd_z ax gx tx d p) (sd_br b p), d, p, s, e, rg, mm, bk, hd, sd_fr (sd_hr c d p e o), fun post h => br_f hf h, fun post h => sd_dY hay h5 (sd_Y1 (by omega) hc (by rw [← hz]; exact hf) ?_)⟩
      rw [← hz]
      exact br_c (fun _ => h) (fun _ => br_t rfl h)
theorem sd_fn0 (hl z br : Int32) : sd_fnd 0 hl z br = hl := by
  unfold sd_fnd
  by_cases h : hl = 0
  · rw [if_pos h, if_pos rfl, h]
  · rw [if_neg h]
theorem sd_n1 : nI (0 + 1) = 1 := by decide +kernel
theorem sd_456 {w : Int32} (h : 4 ≤ w.toInt) (h2 : w.toInt ≤ 6) : w = 4 ∨ w = 5 ∨ w = 6 := by
  have h : w.toInt = 4 ∨ w.toInt = 5 ∨ w.toInt = 6 := by omega
  rcases h with h | h | h
  · exact Or.inl (sd_of _ _ (h.trans sd_t4.symm))
  · exact Or.inr (Or.inl (sd_of _ _ (h.trans sd_t5.symm)))
  · exact Or.inr (Or.inr (sd_of _ _ (h.trans sd_t6.symm)))
/-- a command on a target that can't go on any more -/
theorem sd_over {c b d p s e w : Int32} {o fa fb rg mm bk : Nat → Int32} {a g a' g' t' : Int32} (h : 4 ≤ w.toInt) (h2 : w.toInt ≤ 6) :
    (∀ post : Int32 → SX → Prop, post w (c, b, d, p, s, e, w, o, fa, fb, rg, mm, bk) → wpX_run post (c, b, d, p, s, e, w, o, fa, fb, rg, mm, bk) a g) ∧ (∀ post : Int32 → SY → Prop, post w (c, b, d, p, s, e, w, o, fa, fb, rg, mm, bk) → wpY_run post (c, b, d, p, s, e, w, o, fa, fb, rg, mm, bk) a' g' t') := by
  have h4 : ¬ w < 4 := sd_nlt (by rw [sd_t4]; exact h)
  refine ⟨fun post q => ?_, fun post q => br_f h4 q⟩
  rcases sd_456 h h2 with rfl | rfl | rfl
  · exact br_f (by decide) (br_t rfl (br_f (by decide) (q)))
  · exact br_f (by decide) (br_f (by decide) (br_t rfl (br_f (by decide) (q))))
  · exact br_t rfl (br_f (by decide) (q))
theorem sd_ne {w k : Int32} (h : w.toInt ≠ k.toInt) : ¬ w = k := fun q => h (by rw [q])
/-- a command of one aim -/
theorem sd_run {c b d p s e w : Int32} {o fa fb rg mm bk : Nat → Int32} (ax gx ay gy ty : Int32) (hax : (ax = 0 ∨ ax = 1 ∨ ax = 2 ∨ ax = 3 ∨ ax = 4)) (hay : (ay = 0 ∨ ay = 1 ∨ ay = 2 ∨ ay = 3 ∨ ay = 4)) (hz : ∀ d' p' : Int32, sd_z ax gx d d' p' = sd_y ay gy ty d' p') (I : sd_Inv (c, b, d, p, s, e, w, o, fa, fb, rg, mm, bk)) :
    ∃ (r : Int32) (u' : SX), sd_Inv u' ∧ (∀ post : Int32 → SX → Prop, post r u' → wpX_run post (c, b, d, p, s, e, w, o, fa, fb, rg, mm, bk) ax gx) ∧ (∀ post : Int32 → SY → Prop, post r u' → wpY_run post (c, b, d, p, s, e, w, o, fa, fb, rg, mm, bk) ay gy ty) := by
  have I0 := I
  obtain ⟨hc, hd, hw, hP⟩ := I
  by_cases h : 4 ≤ w.toInt
  · obtain ⟨hX, hY⟩ := sd_over (c := c) (b := b) (d := d) (p := p) (s := s) (e := e) (w := w) (o := o) (fa := fa) (fb := fb) (rg := rg) (mm := mm) (bk := bk) (a := ax) (g := gx) (a' := ay) (g' := gy) (t' := ty) h hw.2
    exact ⟨w, (c, b, d, p, s, e, w, o, fa, fb, rg, mm, bk), I0, hX, hY⟩
  · obtain ⟨r, d', p', s', e', rg', mm', bk', hd', hr, hX, hY⟩ := sd_loop c b o fa fb ax gx d ay gy ty hax hay hz hc.2 hP 150 0 rfl d p s e w rg mm bk hd
    rw [sd_fn0, sd_n1] at hX
    rw [nI_0] at hY
    have h4 : w < 4 := sd_lt (by rw [sd_t4]; omega)
    have n4 : ¬ w = 4 := sd_ne (by rw [sd_t4]; omega)
    have n5 : ¬ w = 5 := sd_ne (by rw [sd_t5]; omega)
    have n6 : ¬ w = 6 := sd_ne (by rw [sd_t6]; omega)
    exact ⟨r, (c, b, d', p', s', e', r, o, fa, fb, rg', mm', bk'), ⟨hc, hd', hr, hP⟩, fun post q => br_f n6 (br_f n4 (br_f n5 (br_t rfl (sd_hX hc.2 ⟨_, hX post q⟩)))), fun post q => br_t h4 ⟨_, hY post q⟩⟩
/-- a command that carries nothing out: any aims -/
theorem sd_runH {c b d p s e w : Int32} {o fa fb rg mm bk : Nat → Int32} (ax gx ay gy ty : Int32) (hay : (ay = 0 ∨ ay = 1 ∨ ay = 2 ∨ ay = 3 ∨ ay = 4)) (hh : ¬ sd_halt c d p e o = 0) (I : sd_Inv (c, b, d, p, s, e, w, o, fa, fb, rg, mm, bk)) :
    ∃ (r : Int32) (u' : SX), sd_Inv u' ∧ (∀ post : Int32 → SX → Prop, post r u' → wpX_run post (c, b, d, p, s, e, w, o, fa, fb, rg, mm, bk) ax gx) ∧ (∀ post : Int32 → SY → Prop, post r u' → wpY_run post (c, b, d, p, s, e, w, o, fa, fb, rg, mm, bk) ay gy ty) := by
  have I0 := I
  obtain ⟨hc, hd, hw, hP⟩ := I
  by_cases h : 4 ≤ w.toInt
  · obtain ⟨hX, hY⟩ := sd_over (c := c) (b := b) (d := d) (p := p) (s := s) (e := e) (w := w) (o := o) (fa := fa) (fb := fb) (rg := rg) (mm := mm) (bk := bk) (a := ax) (g := gx) (a' := ay) (g' := gy) (t' := ty) h hw.2
    exact ⟨w, (c, b, d, p, s, e, w, o, fa, fb, rg, mm, bk), I0, hX, hY⟩
  · have h4 : w < 4 := sd_lt (by rw [sd_t4]; omega)
    have n4 : ¬ w = 4 := sd_ne (by rw [sd_t4]; omega)
    have n5 : ¬ w = 5 := sd_ne (by rw [sd_t5]; omega)
    have n6 : ¬ w = 6 := sd_ne (by rw [sd_t6]; omega)
    have hr : 0 ≤ (sd_halt c d p e o).toInt ∧ (sd_halt c d p e o).toInt ≤ 6 := by
      rcases sd_hr c d p e o with q | q | q | q <;> rw [q] <;> decide
    refine ⟨sd_halt c d p e o, (c, b, d, p, s, e, sd_halt c d p e o, o, fa, fb, rg, mm, bk), ⟨hc, hd, hr, hP⟩, fun post q => br_f n6 (br_f n4 (br_f n5 (br_t rfl (sd_hX hc.2 ⟨1, br_f hh q⟩)))), fun post q => br_t h4 ⟨2, sd_dY hay (by decide) (sd_93h hc.2 hh ?_)⟩⟩
    exact br_c (fun _ => q) (fun _ => br_t rfl q)
theorem sd_z10 (g t t' d p : Int32) : sd_z 1 g t d p = sd_y 0 g t' d p := by
  unfold sd_z sd_y
  rw [if_pos rfl, if_pos rfl]
theorem sd_z04 (g t t' d p : Int32) : sd_z 0 g t d p = sd_y 4 g t' d p := by
  unfold sd_z sd_y
  rw [if_neg (show ¬ ((0 : Int32) = 1) from by decide), if_neg (show ¬ ((0 : Int32) = 2) from by decide), if_neg (show ¬ ((0 : Int32) = 3) from by decide), if_neg (show ¬ ((0 : Int32) = 4) from by decide), if_neg (show ¬ ((4 : Int32) = 0) from by decide), if_neg (show ¬ ((4 : Int32) = 1) from by decide), if_neg (show ¬ ((4 : Int32) = 2) from by decide), if_neg (show ¬ ((4 : Int32) = 3) from by decide)]
theorem sd_z41 (g t t' d p : Int32) : sd_z 4 g t d p = sd_y 1 g t' d p := by
  unfold sd_z sd_y
  rw [if_neg (show ¬ ((4 : Int32) = 1) from by decide), if_neg (show ¬ ((4 : Int32) = 2) from by decide), if_neg (show ¬ ((4 : Int32) = 3) from by decide), if_pos rfl, if_neg (show ¬ ((1 : Int32) = 0) from by decide), if_pos rfl]
theorem sd_z32 (g t d p : Int32) : sd_z 3 g t d p = sd_y 2 g t d p := by
  show (if t ≤ d then (0 : Int32) else 1) = if d < t then 1 else 0
  by_cases h : t ≤ d
  · rw [if_pos h, if_neg (sd_nlt (sd_xle h))]
  · rw [if_neg h, if_pos (sd_lt (sd_xnle h))]
theorem sd_z23 (g t d p : Int32) : sd_z 2 g t d p = sd_y 3 g t d p := by
  show (if d = t then (if p = g then (1 : Int32) else 0) else 0) = if p = g then (if d = t then 1 else 0) else 0
  by_cases h : d = t
  · rw [if_pos h, if_pos h]
  · rw [if_neg h, if_neg h, ite_self]

/-- whether Y's aim is reached -/
def sd_y (a g t d p : Int32) : Int32 :=
  if a = 0 then 1
  else if a = 1 then (if p = g then 1 else 0)
  else if a = 2 then (if d < t then 1 else 0)
  else if a = 3 then (if p = g then (if d = t then 1 else 0) else 0) else 0
theorem sd_dY {c b d p s e w : Int32} {o fa fb rg mm bk : Nat → Int32} {post : Int32 → SY → Prop} {a g t x5 : Int32} {n : Nat} (ha : a = 0 ∨ a = 1 ∨ a = 2 ∨ a = 3 ∨ a = 4) (h5 : ¬ 150 < x5) (h : wY_run_93 post (wY_run_24 post a g t n) a g t x5 (sd_y a g t d p) c b d p s e w o fa fb rg mm bk) : wY_run_24 post a g t (n + 1) 1 x5 c b d p s e w o fa fb rg mm bk := by
  rcases ha with rfl | rfl | rfl | rfl | rfl
  · exact br_f h5 (br_f (by decide) (br_t rfl (h)))
  · have e2 : sd_y 1 g t d p = if p = g then 1 else 0 := rfl
    rw [e2] at h
    refine br_f h5 (br_f (by decide) (br_f (by decide) (br_t rfl (?_))))
    by_cases h1 : p = g
    · rw [if_pos h1] at h
      exact br_t h1 (h)
    · rw [if_neg h1] at h
      exact br_f h1 (br_f (by decide) (br_f (by decide) (h)))
  · have e2 : sd_y 2 g t d p = if d < t then 1 else 0 := rfl
    rw [e2] at h
    refine br_f h5 (br_f (by decide) (br_f (by decide) (br_f (by decide) (br_t rfl (?_)))))
    by_cases h1 : d < t
    · rw [if_pos h1] at h
      exact br_t h1 (h)
    · rw [if_neg h1] at h
      exact br_f h1 (br_f (by decide) (h))
  · have e2 : sd_y 3 g t d p = if p = g then (if d = t then 1 else 0) else 0 := rfl
    rw [e2] at h
    refine br_f h5 (br_f (by decide) (br_f (by decide) (br_f (by decide) (br_f (by decide) (br_t rfl (?_))))))
    by_cases h1 : p = g
    · rw [if_pos h1] at h
      by_cases h2 : d = t
      · rw [if_pos h2] at h
        exact br_t h1 (br_t h2 (h))
      · rw [if_neg h2] at h
        exact br_t h1 (br_f h2 (h))
    · rw [if_neg h1] at h
      exact br_f h1 (h)
  · exact br_f h5 (br_f (by decide) (br_f (by decide) (br_f (by decide) (br_f (by decide) (br_f (by decide) (h))))))
theorem sd_93h {c b d p s e w : Int32} {o fa fb rg mm bk : Nat → Int32} {post : Int32 → SY → Prop} {J : Int32 → Int32 → Int32 → Int32 → Int32 → Int32 → Int32 → Int32 → Int32 → (Nat → Int32) → (Nat → Int32) → (Nat → Int32) → (Nat → Int32) → (Nat → Int32) → (Nat → Int32) → Prop} {a g t x5 z : Int32} (hc : c.toInt ≤ 20) (hh : ¬ sd_halt c d p e o = 0) (h : J 0 (x5 + 1) c b d p s e (sd_halt c d p e o) o fa fb rg mm bk) : wY_run_93 post J a g t x5 z c b d p s e w o fa fb rg mm bk := by
  unfold sd_halt at h hh
  by_cases he : e = 0
  · rw [if_pos he] at h hh
    by_cases h0 : p < 0
    · rw [if_pos h0] at h
      refine br_t he (br_t h0 (br_t rfl (fun y ey => ?_)))
      subst ey
      exact h
    · rw [if_neg h0] at h hh
      by_cases h1 : c ≤ p
      · rw [if_pos h1] at h
        refine br_t he (br_f h0 (br_t h1 (br_t rfl (fun y ey => ?_))))
        subst ey
        exact h
      · rw [if_neg h1] at h hh
        have hi := sd_inP hc h0 h1
        by_cases h7 : o p.toNatClampNeg = 7
        · rw [if_pos h7] at h hh
          by_cases hd : d < 6
          · exact absurd (if_pos hd) hh
          · rw [if_neg hd] at h
            have h6 : (6 : Int32) ≤ d := sd_le (sd_xnlt hd)
            refine br_t he (br_f h0 (br_f h1 (br_f (by decide) (br_f h0 (br_f h1 (br_f (by decide) (⟨hi, br_t h7 (br_t h6 (br_f (by decide) (fun y ey => ?_)))⟩)))))))
            subst ey
            exact h
        · rw [if_neg h7] at h hh
          by_cases h8 : o p.toNatClampNeg = 8
          · rw [if_pos h8] at h hh
            by_cases hd : 0 < d
            · exact absurd (if_pos hd) hh
            · rw [if_neg hd] at h
              refine br_t he (br_f h0 (br_f h1 (br_f (by decide) (br_f h0 (br_f h1 (br_f (by decide) (⟨hi, br_f h7 (br_t h8 (br_f hd (br_f (by decide) (fun y ey => ?_))))⟩)))))))
              subst ey
              exact h
          · exact absurd (if_neg h8) hh
  · rw [if_neg he] at h
    refine br_f he (fun y ey => ?_)
    subst ey
    exact h
theorem sd_93g {c b d p s e w : Int32} {o fa fb rg mm bk : Nat → Int32} {post : Int32 → SY → Prop} {J : Int32 → Int32 → Int32 → Int32 → Int32 → Int32 → Int32 → Int32 → Int32 → (Nat → Int32) → (Nat → Int32) → (Nat → Int32) → (Nat → Int32) → (Nat → Int32) → (Nat → Int32) → Prop} {a g t x5 z : Int32} (hc : c.toInt ≤ 20) (hh : sd_halt c d p e o = 0) (h : (x5 ≤ 0 → wY_run_162 post J a g t 0 x5 c b d p s e w o fa fb rg mm bk) ∧ (¬ x5 ≤ 0 → (z = 0 → wY_run_162 post J a g t 0 x5 c b d p s e w o fa fb rg mm bk) ∧ (¬ z = 0 → J 0 (x5 + 1) c b d p s e 1 o fa fb rg mm bk))) : wY_run_93 post J a g t x5 z c b d p s e w o fa fb rg mm bk := by
  obtain ⟨he, h0, h1, h7, h8⟩ := sd_h0 hh
  have hi := sd_inP hc h0 h1
  have g : (x5 ≤ 0 → wY_run_162 post J a g t 0 x5 c b d p s e w o fa fb rg mm bk) ∧ (¬ x5 ≤ 0 → (z = 0 → wY_run_162 post J a g t 0 x5 c b d p s e w o fa fb rg mm bk) ∧ (¬ z = 0 → ∀ y : Int32, y = x5 + 1 → J 0 y c b d p s e 1 o fa fb rg mm bk)) := ⟨h.1, fun q => ⟨(h.2 q).1, fun q2 y ey => by rw [ey]; exact (h.2 q).2 q2⟩⟩
  by_cases c7 : o p.toNatClampNeg = 7
  · have h6 : ¬ (6 : Int32) ≤ d := sd_nle (sd_xlt (h7 c7))
    have c8 : ¬ o p.toNatClampNeg = 8 := by rw [c7]; decide
    exact br_t he (br_f h0 (br_f h1 (br_f (by decide) (br_f h0 (br_f h1 (br_f (by decide) (⟨hi, br_t c7 (br_f h6 (br_f c8 (br_t rfl (g))))⟩)))))))
  · by_cases c8 : o p.toNatClampNeg = 8
    · exact br_t he (br_f h0 (br_f h1 (br_f (by decide) (br_f h0 (br_f h1 (br_f (by decide) (⟨hi, br_f c7 (br_t c8 (br_t (h8 c8) (br_t rfl (g))))⟩)))))))
    · exact br_t he (br_f h0 (br_f h1 (br_f (by decide) (br_f h0 (br_f h1 (br_f (by decide) (⟨hi, br_f c7 (br_f c8 (br_t rfl (g)))⟩)))))))
theorem sd_n0 {n : Nat} (h : 0 < n) (h2 : n ≤ 150) : ¬ nI n ≤ 0 := nI_nle h (by omega)
theorem sd_p20 {c p : Int32} (hc : c.toInt ≤ 20) (h1 : ¬ c ≤ p) : ¬ (20 : Int32) ≤ p := sd_nle (by have := sd_xnle h1; rw [sd_t20]; omega)
/-- Y's turn where it ends the run -/
theorem sd_Y1 {c b d p s e : Int32} {o fa fb rg mm bk : Nat → Int32} {post : Int32 → SY → Prop} {J : Int32 → Int32 → Int32 → Int32 → Int32 → Int32 → Int32 → Int32 → Int32 → (Nat → Int32) → (Nat → Int32) → (Nat → Int32) → (Nat → Int32) → (Nat → Int32) → (Nat → Int32) → Prop} {a g t z : Int32} {n : Nat} (hn : n ≤ 150) (hc : c.toInt ≤ 20) (hf : ¬ sd_fnd n (sd_halt c d p e o) z (sd_br b p) = 0) (h : J 0 (nI (n + 1)) c b d p s e (sd_fnd n (sd_halt c d p e o) z (sd_br b p)) o fa fb rg mm bk) : wY_run_93 post J a g t (nI n) z c b d p s e 3 o fa fb rg mm bk := by
  unfold sd_fnd at h hf
  by_cases hh : sd_halt c d p e o = 0
  · rw [if_pos hh] at h hf
    by_cases n0 : n = 0
    · exact absurd (if_pos n0) hf
    · rw [if_neg n0] at h hf
      have x0 := sd_n0 (n := n) (by omega) hn
      by_cases hz : z = 0
      · rw [if_pos hz] at h hf
        obtain ⟨he, h0, h1, h7, h8⟩ := sd_h0 hh
        have hp := sd_p20 hc h1
        refine sd_93g hc hh (br_f x0 (br_t hz (br_f x0 (br_f hp ?_))))
        by_cases hb : sd_br b p = 0
        · rw [if_pos hb] at h hf
          have hb1 : ¬ ((b >>> (p &&& 31)) &&& 1) = 1 := fun q => absurd (q.symm.trans hb) (by decide)
          by_cases hl : n < 150
          · exact absurd (if_pos hl) hf
          · rw [if_neg hl] at h
            have hx : (150 : Int32) ≤ nI n := by rw [← sd_n150]; exact nI_le (by omega) (by omega)
            refine br_f hb1 (br_t hx fun y ey => ?_)
            rw [ey, nI_1]
            exact h
        · rw [if_neg hb] at h
          have hb1 : ((b >>> (p &&& 31)) &&& 1) = 1 := (sd_and1 (b >>> (p &&& 31))).resolve_left hb
          refine br_t hb1 fun y ey => ?_
          rw [ey, nI_1]
          exact h
      · rw [if_neg hz] at h
        refine sd_93g hc hh (br_f x0 (br_f hz ?_))
        rw [nI_1]
        exact h
  · rw [if_neg hh] at h
    refine sd_93h hc hh ?_
    rw [nI_1]
    exact h
theorem sd_f0 {n : Nat} {hl z br : Int32} (hn : n ≤ 150) (hf : sd_fnd n hl z br = 0) : hl = 0 ∧ n < 150 ∧ (n = 0 ∨ z = 0 ∧ br = 0) := by
  unfold sd_fnd at hf
  by_cases hh : hl = 0
  · rw [if_pos hh] at hf
    by_cases n0 : n = 0
    · exact ⟨hh, by omega, Or.inl n0⟩
    · rw [if_neg n0] at hf
      by_cases hz : z = 0
      · rw [if_pos hz] at hf
        by_cases hb : br = 0
        · rw [if_pos hb] at hf
          by_cases hl : n < 150
          · exact ⟨hh, hl, Or.inr ⟨hz, hb⟩⟩
          · rw [if_neg hl] at hf
            exact absurd hf (by decide)
        · rw [if_neg hb] at hf
          exact absurd hf (by decide)
      · rw [if_neg hz] at hf
        exact absurd hf (by decide)
  · rw [if_neg hh] at hf
    exact absurd hf hh
theorem sd_fr {n : Nat} {hl z br : Int32} (h : hl = 0 ∨ hl = 4 ∨ hl = 5 ∨ hl = 6) : 0 ≤ (sd_fnd n hl z br).toInt ∧ (sd_fnd n hl z br).toInt ≤ 6 := by
  unfold sd_fnd
  by_cases hh : hl = 0
  · rw [if_pos hh]
    repeat' split
    all_goals decide
  · rw [if_neg hh]
    rcases h with rfl | rfl | rfl | rfl <;> decide
/-- Y's turn where it carries an instruction out -/
theorem sd_Y0 {c b d p s e : Int32} {o fa fb rg mm bk : Nat → Int32} {d' p' s' e' : Int32} {rg' mm' bk' : Nat → Int32} {post : Int32 → SY → Prop} {J : Int32 → Int32 → Int32 → Int32 → Int32 → Int32 → Int32 → Int32 → Int32 → (Nat → Int32) → (Nat → Int32) → (Nat → Int32) → (Nat → Int32) → (Nat → Int32) → (Nat → Int32) → Prop} {a g t z : Int32} {n : Nat} (hn : n ≤ 150) (hc : c.toInt ≤ 20) (hf : sd_fnd n (sd_halt c d p e o) z (sd_br b p) = 0)
    (hC : ∀ (w : Int32) (post : SY → Prop), post (c, b, d', p', s', e', w, o, fa, fb, rg', mm', bk') → wpY_carryOut post (c, b, d, p, s, e, w, o, fa, fb, rg, mm, bk) (o p.toNatClampNeg) (fa p.toNatClampNeg &&& 3) (fb p.toNatClampNeg))
    (h : J 1 (nI (n + 1)) c b d' p' s' e' 3 o fa fb rg' mm' bk') : wY_run_93 post J a g t (nI n) z c b d p s e 3 o fa fb rg mm bk := by
  obtain ⟨hh, hl, hq⟩ := sd_f0 hn hf
  obtain ⟨he, h0, h1, h7, h8⟩ := sd_h0 hh
  have hi := sd_inP hc h0 h1
  have hx : ¬ (150 : Int32) ≤ nI n := by rw [← sd_n150]; exact nI_ge hl (by decide)
  have K : wY_run_199 post J a g t 0 (nI n) c b d p s e 3 o fa fb rg mm bk := br_f hx ⟨hi, hi, hi, hC 3 _ (fun y ey => by rw [ey, nI_1]; exact h)⟩
  by_cases n0 : n = 0
  · have x0 : nI n ≤ 0 := by rw [n0, nI_0]; decide
    exact sd_93g hc hh (br_t x0 (br_t x0 K))
  · have x0 := sd_n0 (n := n) (by omega) hn
    obtain ⟨hz, hb⟩ := hq.resolve_left n0
    have hb1 : ¬ ((b >>> (p &&& 31)) &&& 1) = 1 := fun q => absurd (q.symm.trans hb) (by decide)
    exact sd_93g hc hh (br_f x0 (br_t hz (br_f x0 (br_f (sd_p20 hc h1) (br_f hb1 K)))))

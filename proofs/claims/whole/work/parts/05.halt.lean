/-- why the machine can't go on: 0, or ENDED, LOST, FAULTED -/
def sd_halt (c d p e : Int32) (o : Nat → Int32) : Int32 :=
  if e = 0 then
    if p < 0 then 4 else if c ≤ p then 4
    else if o p.toNatClampNeg = 7 then (if d < 6 then 0 else 5)
    else if o p.toNatClampNeg = 8 then (if 0 < d then 0 else 5) else 0
  else 6
theorem sd_inP {c p : Int32} (hc : c.toInt ≤ 20) (h0 : ¬ p < 0) (h1 : ¬ c ≤ p) : vp_in p 20 :=
  sd_in (by have := sd_xnlt h0; rw [sd_t0] at this; exact this) (by have := sd_xnle h1; omega)
theorem sd_hX {c b d p s e w : Int32} {o fa fb rg mm bk : Nat → Int32} {post : Int32 → Prop} (hc : c.toInt ≤ 20) (h : post (sd_halt c d p e o)) : wpX_haltReason post (c, b, d, p, s, e, w, o, fa, fb, rg, mm, bk) := by
  unfold sd_halt at h
  by_cases he : e = 0
  · rw [if_pos he] at h
    by_cases h0 : p < 0
    · rw [if_pos h0] at h
      exact br_t he (br_t h0 (br_t rfl (h)))
    · rw [if_neg h0] at h
      by_cases h1 : c ≤ p
      · rw [if_pos h1] at h
        exact br_t he (br_f h0 (br_t h1 (br_t rfl (h))))
      · rw [if_neg h1] at h
        have hi := sd_inP hc h0 h1
        refine br_t he (br_f h0 (br_f h1 (br_f (by decide) (⟨hi, fun x ex => ?_⟩))))
        subst ex
        by_cases h7 : o p.toNatClampNeg = 7
        · have h8 : ¬ o p.toNatClampNeg = 8 := by rw [h7]; decide
          rw [if_pos h7] at h
          by_cases hd : d < 6
          · rw [if_pos hd] at h
            exact br_t h7 (br_t hd (br_f h8 (h)))
          · rw [if_neg hd] at h
            exact br_t h7 (br_f hd (h))
        · rw [if_neg h7] at h
          by_cases h8 : o p.toNatClampNeg = 8
          · rw [if_pos h8] at h
            by_cases hd : 0 < d
            · rw [if_pos hd] at h
              exact br_f h7 (br_t h8 (br_t hd (h)))
            · rw [if_neg hd] at h
              exact br_f h7 (br_t h8 (br_f hd (h)))
          · rw [if_neg h8] at h
            exact br_f h7 (br_f h8 (h))
  · rw [if_neg he] at h
    exact br_f he (h)
theorem sd_hr (c d p e : Int32) (o : Nat → Int32) : sd_halt c d p e o = 0 ∨ sd_halt c d p e o = 4 ∨ sd_halt c d p e o = 5 ∨ sd_halt c d p e o = 6 := by
  unfold sd_halt
  repeat' split
  all_goals simp
/-- where nothing halts it: the place is in the program, and the stack serves -/
theorem sd_h0 {c d p e : Int32} {o : Nat → Int32} (h : sd_halt c d p e o = 0) : e = 0 ∧ ¬ p < 0 ∧ ¬ c ≤ p ∧ (o p.toNatClampNeg = 7 → d < 6) ∧ (o p.toNatClampNeg = 8 → 0 < d) := by
  unfold sd_halt at h
  by_cases he : e = 0
  · rw [if_pos he] at h
    by_cases h0 : p < 0
    · rw [if_pos h0] at h
      exact absurd h (by decide)
    · rw [if_neg h0] at h
      by_cases h1 : c ≤ p
      · rw [if_pos h1] at h
        exact absurd h (by decide)
      · rw [if_neg h1] at h
        refine ⟨he, h0, h1, fun h7 => ?_, fun h8 => ?_⟩
        · rw [if_pos h7] at h
          by_cases hd : d < 6
          · exact hd
          · rw [if_neg hd] at h
            exact absurd h (by decide)
        · have h7 : ¬ o p.toNatClampNeg = 7 := by rw [h8]; decide
          rw [if_neg h7, if_pos h8] at h
          by_cases hd : 0 < d
          · exact hd
          · rw [if_neg hd] at h
            exact absurd h (by decide)
  · rw [if_neg he] at h
    exact absurd h (by decide)
/-- whether X's aim is reached -/
def sd_z (a g t d p : Int32) : Int32 :=
  if a = 1 then 1
  else if a = 2 then (if d = t then (if p = g then 1 else 0) else 0)
  else if a = 3 then (if t ≤ d then 0 else 1)
  else if a = 4 then (if p = g then 1 else 0) else 0
theorem sd_zX {c b d p s e w : Int32} {o fa fb rg mm bk : Nat → Int32} {post : Int32 → Prop} {a g t : Int32} (ha : a = 0 ∨ a = 1 ∨ a = 2 ∨ a = 3 ∨ a = 4) (h : post (sd_z a g t d p)) : wpX_isReached post (c, b, d, p, s, e, w, o, fa, fb, rg, mm, bk) a g t := by
  rcases ha with rfl | rfl | rfl | rfl | rfl
  · exact br_f (by decide) (br_f (by decide) (br_t rfl (h)))
  · exact br_f (by decide) (br_f (by decide) (br_f (by decide) (br_t rfl (h))))
  · have e2 : sd_z 2 g t d p = if d = t then (if p = g then 1 else 0) else 0 := rfl
    rw [e2] at h
    refine br_f (by decide) (br_f (by decide) (br_f (by decide) (br_f (by decide) (br_t rfl (?_)))))
    by_cases h1 : d = t
    · rw [if_pos h1] at h
      by_cases h2 : p = g
      · rw [if_pos h2] at h
        exact br_t h1 (br_t h2 (h))
      · rw [if_neg h2] at h
        exact br_t h1 (br_f h2 (h))
    · rw [if_neg h1] at h
      exact br_f h1 (h)
  · have e2 : sd_z 3 g t d p = if t ≤ d then 0 else 1 := rfl
    rw [e2] at h
    refine br_f (by decide) (br_f (by decide) (br_f (by decide) (br_f (by decide) (br_f (by decide) (br_t rfl (?_))))))
    by_cases h1 : t ≤ d
    · rw [if_pos h1] at h
      exact br_t h1 (h)
    · rw [if_neg h1] at h
      exact br_f h1 (h)
  · have e2 : sd_z 4 g t d p = if p = g then 1 else 0 := rfl
    rw [e2] at h
    refine br_f (by decide) (br_f (by decide) (br_f (by decide) (br_f (by decide) (br_f (by decide) (br_f (by decide) (br_t rfl (?_)))))))
    by_cases h1 : p = g
    · rw [if_pos h1] at h
      exact br_t h1 (h)
    · rw [if_neg h1] at h
      exact br_f h1 (h)
/-- what was found after n instructions -/
def sd_fnd (n : Nat) (hl z br : Int32) : Int32 :=
  if hl = 0 then
    if n = 0 then 0
    else if z = 0 then (if br = 0 then (if n < 150 then 0 else 3) else 2) else 1
  else hl
/-- the breakpoint's bit at the place -/
def sd_br (b p : Int32) : Int32 := (b >>> (p &&& 31)) &&& 1
theorem sd_n150 : nI 150 = 150 := by decide +kernel
theorem sd_aX {c b d p s e w : Int32} {o fa fb rg mm bk : Nat → Int32} {post : Int32 → Prop} {a g t : Int32} {n : Nat} (hc : c.toInt ≤ 20) (ha : a = 0 ∨ a = 1 ∨ a = 2 ∨ a = 3 ∨ a = 4) (hn : 0 < n) (hn2 : n ≤ 150) (h : post (sd_fnd n (sd_halt c d p e o) (sd_z a g t d p) (sd_br b p))) : wpX_reasonAfter post (c, b, d, p, s, e, w, o, fa, fb, rg, mm, bk) (nI n) a g t := by
  unfold wpX_reasonAfter
  refine sd_hX hc ?_
  unfold sd_fnd at h
  by_cases hh : sd_halt c d p e o = 0
  · rw [if_pos hh, if_neg (by omega)] at h
    refine br_t hh (sd_zX ha ?_)
    by_cases hz : sd_z a g t d p = 0
    · rw [if_pos hz] at h
      refine br_t hz ?_
      by_cases hb : sd_br b p = 0
      · rw [if_pos hb] at h
        refine br_t hb (br_t rfl (?_))
        by_cases hl : n < 150
        · rw [if_pos hl] at h
          exact br_t (by rw [← sd_n150]; exact nI_lt hl (by decide)) h
        · rw [if_neg hl] at h
          exact br_f (by rw [← sd_n150]; exact nI_nlt (by omega) (by omega)) h
      · rw [if_neg hb] at h
        exact br_f hb (br_f (by decide) (h))
    · rw [if_neg hz] at h
      exact br_f hz h
  · rw [if_neg hh] at h
    exact br_f hh h

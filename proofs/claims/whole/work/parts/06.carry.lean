/-- one instruction carried out alike on both sides, whatever reasons they keep -/
def sd_C (c b d p s e : Int32) (o fa fb rg mm bk : Nat → Int32) : Prop := ∃ (d' p' e' : Int32) (rg' mm' bk' : Nat → Int32), (0 ≤ d'.toInt ∧ d'.toInt ≤ 6) ∧
  (∀ (w : Int32) (post : SX → Prop), post (c, b, d', p', s + 1, e', w, o, fa, fb, rg', mm', bk') → wpX_carryOut post (c, b, d, p, s, e, w, o, fa, fb, rg, mm, bk)) ∧
  (∀ (w : Int32) (post : SY → Prop), post (c, b, d', p', s + 1, e', w, o, fa, fb, rg', mm', bk') → wpY_carryOut post (c, b, d, p, s, e, w, o, fa, fb, rg, mm, bk) (o p.toNatClampNeg) (fa p.toNatClampNeg &&& 3) (fb p.toNatClampNeg))
theorem sd_c0 (c b d p s e : Int32) (o fa fb rg mm bk : Nat → Int32) (hp : vp_in p 20) (hd : 0 ≤ d.toInt ∧ d.toInt ≤ 6) (ha : 0 ≤ (fa p.toNatClampNeg).toInt ∧ (fa p.toNatClampNeg).toInt ≤ 3) (hk : o p.toNatClampNeg = 0) : sd_C c b d p s e o fa fb rg mm bk := by
  have hm : (fa p.toNatClampNeg) &&& 3 = (fa p.toNatClampNeg) := sd_and3 ha.1 ha.2
  have hA : vp_in (fa p.toNatClampNeg) 4 := sd_in ha.1 (by omega)
  refine ⟨d, p + 1, e, upd rg (fa p.toNatClampNeg).toNatClampNeg (fb p.toNatClampNeg), mm, bk, hd, fun w post h => ?_, fun w post h => ?_⟩
  · refine ⟨hp, fun x1 e1 => ⟨hp, fun x2 e2 => ⟨hp, fun x3 e3 => fun y ey => ?_⟩⟩⟩
    obtain rfl := e1.trans hk
    subst e2 e3 ey
    refine br_f (by decide) (br_f (by decide) (br_f (by decide) (br_t rfl (⟨hA, fun r er q eq => ?_⟩))))
    subst er eq
    exact h
  · rw [hk, hm]
    intro y ey x4 e4
    subst ey e4
    refine br_t rfl (⟨hA, fun r er => ?_⟩)
    subst er
    exact h
theorem sd_c1 (c b d p s e : Int32) (o fa fb rg mm bk : Nat → Int32) (hp : vp_in p 20) (hd : 0 ≤ d.toInt ∧ d.toInt ≤ 6) (ha : 0 ≤ (fa p.toNatClampNeg).toInt ∧ (fa p.toNatClampNeg).toInt ≤ 3) (hk : o p.toNatClampNeg = 1) (hb : 0 ≤ (fb p.toNatClampNeg).toInt ∧ (fb p.toNatClampNeg).toInt ≤ 3) : sd_C c b d p s e o fa fb rg mm bk := by
  have hm : (fa p.toNatClampNeg) &&& 3 = (fa p.toNatClampNeg) := sd_and3 ha.1 ha.2
  have hA : vp_in (fa p.toNatClampNeg) 4 := sd_in ha.1 (by omega)
  have hB : vp_in (fb p.toNatClampNeg) 4 := sd_in hb.1 (by omega)
  have hbm : (fb p.toNatClampNeg) &&& 3 = (fb p.toNatClampNeg) := sd_and3 hb.1 hb.2
  refine ⟨d, p + 1, e, upd rg (fa p.toNatClampNeg).toNatClampNeg (rg (fa p.toNatClampNeg).toNatClampNeg + rg (fb p.toNatClampNeg).toNatClampNeg), mm, bk, hd, fun w post h => ?_, fun w post h => ?_⟩
  · refine ⟨hp, fun x1 e1 => ⟨hp, fun x2 e2 => ⟨hp, fun x3 e3 => fun y ey => ?_⟩⟩⟩
    obtain rfl := e1.trans hk
    subst e2 e3 ey
    refine br_f (by decide) (br_f (by decide) (br_f (by decide) (br_f (by decide) (br_t rfl (⟨hA, hB, hA, fun r er q eq => ?_⟩)))))
    subst er eq
    exact h
  · rw [hk, hm]
    intro y ey x4 e4
    subst ey e4
    refine br_f (by decide) (br_t rfl (⟨hA, (by rw [hbm]; exact hB), hA, fun r er => ?_⟩))
    subst er
    rw [hbm]
    exact h
theorem sd_c2 (c b d p s e : Int32) (o fa fb rg mm bk : Nat → Int32) (hp : vp_in p 20) (hd : 0 ≤ d.toInt ∧ d.toInt ≤ 6) (ha : 0 ≤ (fa p.toNatClampNeg).toInt ∧ (fa p.toNatClampNeg).toInt ≤ 3) (hk : o p.toNatClampNeg = 2) (hb : 0 ≤ (fb p.toNatClampNeg).toInt ∧ (fb p.toNatClampNeg).toInt ≤ 3) : sd_C c b d p s e o fa fb rg mm bk := by
  have hm : (fa p.toNatClampNeg) &&& 3 = (fa p.toNatClampNeg) := sd_and3 ha.1 ha.2
  have hA : vp_in (fa p.toNatClampNeg) 4 := sd_in ha.1 (by omega)
  have hB : vp_in (fb p.toNatClampNeg) 4 := sd_in hb.1 (by omega)
  have hbm : (fb p.toNatClampNeg) &&& 3 = (fb p.toNatClampNeg) := sd_and3 hb.1 hb.2
  refine ⟨d, p + 1, e, upd rg (fa p.toNatClampNeg).toNatClampNeg (rg (fa p.toNatClampNeg).toNatClampNeg - rg (fb p.toNatClampNeg).toNatClampNeg), mm, bk, hd, fun w post h => ?_, fun w post h => ?_⟩
  · refine ⟨hp, fun x1 e1 => ⟨hp, fun x2 e2 => ⟨hp, fun x3 e3 => fun y ey => ?_⟩⟩⟩
    obtain rfl := e1.trans hk
    subst e2 e3 ey
    refine br_f (by decide) (br_f (by decide) (br_f (by decide) (br_f (by decide) (br_f (by decide) (br_t rfl (⟨hA, hB, hA, fun r er q eq => ?_⟩))))))
    subst er eq
    exact h
  · rw [hk, hm]
    intro y ey x4 e4
    subst ey e4
    refine br_f (by decide) (br_f (by decide) (br_t rfl (⟨hA, (by rw [hbm]; exact hB), hA, fun r er => ?_⟩)))
    subst er
    rw [hbm]
    exact h
theorem sd_c3 (c b d p s e : Int32) (o fa fb rg mm bk : Nat → Int32) (hp : vp_in p 20) (hd : 0 ≤ d.toInt ∧ d.toInt ≤ 6) (ha : 0 ≤ (fa p.toNatClampNeg).toInt ∧ (fa p.toNatClampNeg).toInt ≤ 3) (hk : o p.toNatClampNeg = 3) (hb : 0 ≤ (fb p.toNatClampNeg).toInt ∧ (fb p.toNatClampNeg).toInt ≤ 3) : sd_C c b d p s e o fa fb rg mm bk := by
  have hm : (fa p.toNatClampNeg) &&& 3 = (fa p.toNatClampNeg) := sd_and3 ha.1 ha.2
  have hA : vp_in (fa p.toNatClampNeg) 4 := sd_in ha.1 (by omega)
  have hB : vp_in (fb p.toNatClampNeg) 4 := sd_in hb.1 (by omega)
  have hbm : (fb p.toNatClampNeg) &&& 3 = (fb p.toNatClampNeg) := sd_and3 hb.1 hb.2
  refine ⟨d, p + 1, e, upd rg (fa p.toNatClampNeg).toNatClampNeg (mm (rg (fb p.toNatClampNeg).toNatClampNeg &&& 7).toNatClampNeg), mm, bk, hd, fun w post h => ?_, fun w post h => ?_⟩
  · refine ⟨hp, fun x1 e1 => ⟨hp, fun x2 e2 => ⟨hp, fun x3 e3 => fun y ey => ?_⟩⟩⟩
    obtain rfl := e1.trans hk
    subst e2 e3 ey
    refine br_f (by decide) (br_f (by decide) (br_f (by decide) (br_f (by decide) (br_f (by decide) (br_f (by decide) (br_t rfl (⟨hB, sd_and7 _, hA, fun r er q eq => ?_⟩)))))))
    subst er eq
    exact h
  · rw [hk, hm]
    intro y ey x4 e4
    subst ey e4
    refine br_f (by decide) (br_f (by decide) (br_f (by decide) (br_t rfl (⟨(by rw [hbm]; exact hB), sd_and7 _, hA, fun r er => ?_⟩))))
    subst er
    rw [hbm]
    exact h
theorem sd_c4 (c b d p s e : Int32) (o fa fb rg mm bk : Nat → Int32) (hp : vp_in p 20) (hd : 0 ≤ d.toInt ∧ d.toInt ≤ 6) (ha : 0 ≤ (fa p.toNatClampNeg).toInt ∧ (fa p.toNatClampNeg).toInt ≤ 3) (hk : o p.toNatClampNeg = 4) (hb : 0 ≤ (fb p.toNatClampNeg).toInt ∧ (fb p.toNatClampNeg).toInt ≤ 3) : sd_C c b d p s e o fa fb rg mm bk := by
  have hm : (fa p.toNatClampNeg) &&& 3 = (fa p.toNatClampNeg) := sd_and3 ha.1 ha.2
  have hA : vp_in (fa p.toNatClampNeg) 4 := sd_in ha.1 (by omega)
  have hB : vp_in (fb p.toNatClampNeg) 4 := sd_in hb.1 (by omega)
  have hbm : (fb p.toNatClampNeg) &&& 3 = (fb p.toNatClampNeg) := sd_and3 hb.1 hb.2
  refine ⟨d, p + 1, e, rg, upd mm (rg (fb p.toNatClampNeg).toNatClampNeg &&& 7).toNatClampNeg (rg (fa p.toNatClampNeg).toNatClampNeg), bk, hd, fun w post h => ?_, fun w post h => ?_⟩
  · refine ⟨hp, fun x1 e1 => ⟨hp, fun x2 e2 => ⟨hp, fun x3 e3 => fun y ey => ?_⟩⟩⟩
    obtain rfl := e1.trans hk
    subst e2 e3 ey
    refine br_f (by decide) (br_f (by decide) (br_f (by decide) (br_f (by decide) (br_f (by decide) (br_f (by decide) (br_f (by decide) (br_t rfl (⟨hB, hA, sd_and7 _, fun r er q eq => ?_⟩))))))))
    subst er eq
    exact h
  · rw [hk, hm]
    intro y ey x4 e4
    subst ey e4
    refine br_f (by decide) (br_f (by decide) (br_f (by decide) (br_f (by decide) (br_t rfl (⟨(by rw [hbm]; exact hB), hA, sd_and7 _, fun r er => ?_⟩)))))
    subst er
    rw [hbm]
    exact h
theorem sd_c5 (c b d p s e : Int32) (o fa fb rg mm bk : Nat → Int32) (hp : vp_in p 20) (hd : 0 ≤ d.toInt ∧ d.toInt ≤ 6) (ha : 0 ≤ (fa p.toNatClampNeg).toInt ∧ (fa p.toNatClampNeg).toInt ≤ 3) (hk : o p.toNatClampNeg = 5) : sd_C c b d p s e o fa fb rg mm bk := by
  have hm : (fa p.toNatClampNeg) &&& 3 = (fa p.toNatClampNeg) := sd_and3 ha.1 ha.2
  have hA : vp_in (fa p.toNatClampNeg) 4 := sd_in ha.1 (by omega)
  by_cases hz : rg (fa p.toNatClampNeg).toNatClampNeg = 0
  · refine ⟨d, (fb p.toNatClampNeg), e, rg, mm, bk, hd, fun w post h => ?_, fun w post h => ?_⟩
    · refine ⟨hp, fun x1 e1 => ⟨hp, fun x2 e2 => ⟨hp, fun x3 e3 => fun y ey => ?_⟩⟩⟩
      obtain rfl := e1.trans hk
      subst e2 e3 ey
      exact br_t (by decide) (br_f (by decide) (br_f (by decide) (br_f (by decide) (br_t rfl (⟨hA, br_t hz h⟩)))))
    · rw [hk, hm]
      intro y ey x4 e4
      subst ey e4
      exact br_f (by decide) (br_f (by decide) (br_f (by decide) (br_f (by decide) (br_f (by decide) (br_t rfl (⟨hA, br_t hz h⟩))))))
  · refine ⟨d, p + 1, e, rg, mm, bk, hd, fun w post h => ?_, fun w post h => ?_⟩
    · refine ⟨hp, fun x1 e1 => ⟨hp, fun x2 e2 => ⟨hp, fun x3 e3 => fun y ey => ?_⟩⟩⟩
      obtain rfl := e1.trans hk
      subst e2 e3 ey
      exact br_t (by decide) (br_f (by decide) (br_f (by decide) (br_f (by decide) (br_t rfl (⟨hA, br_f hz h⟩)))))
    · rw [hk, hm]
      intro y ey x4 e4
      subst ey e4
      exact br_f (by decide) (br_f (by decide) (br_f (by decide) (br_f (by decide) (br_f (by decide) (br_t rfl (⟨hA, br_f hz h⟩))))))
theorem sd_c6 (c b d p s e : Int32) (o fa fb rg mm bk : Nat → Int32) (hp : vp_in p 20) (hd : 0 ≤ d.toInt ∧ d.toInt ≤ 6) (ha : 0 ≤ (fa p.toNatClampNeg).toInt ∧ (fa p.toNatClampNeg).toInt ≤ 3) (hk : o p.toNatClampNeg = 6) : sd_C c b d p s e o fa fb rg mm bk := by
  have hm : (fa p.toNatClampNeg) &&& 3 = (fa p.toNatClampNeg) := sd_and3 ha.1 ha.2
  have hA : vp_in (fa p.toNatClampNeg) 4 := sd_in ha.1 (by omega)
  refine ⟨d, (fb p.toNatClampNeg), e, rg, mm, bk, hd, fun w post h => ?_, fun w post h => ?_⟩
  · refine ⟨hp, fun x1 e1 => ⟨hp, fun x2 e2 => ⟨hp, fun x3 e3 => fun y ey => ?_⟩⟩⟩
    obtain rfl := e1.trans hk
    subst e2 e3 ey
    exact br_t (by decide) (br_f (by decide) (br_f (by decide) (br_f (by decide) (br_f (by decide) (br_t rfl (h))))))
  · rw [hk, hm]
    intro y ey x4 e4
    subst ey e4
    exact br_f (by decide) (br_f (by decide) (br_f (by decide) (br_f (by decide) (br_f (by decide) (br_f (by decide) (br_t rfl (h)))))))
theorem sd_c7 (c b d p s e : Int32) (o fa fb rg mm bk : Nat → Int32) (hp : vp_in p 20) (hd : 0 ≤ d.toInt ∧ d.toInt ≤ 6) (ha : 0 ≤ (fa p.toNatClampNeg).toInt ∧ (fa p.toNatClampNeg).toInt ≤ 3) (hk : o p.toNatClampNeg = 7) (h7 : d < 6) : sd_C c b d p s e o fa fb rg mm bk := by
  have hm : (fa p.toNatClampNeg) &&& 3 = (fa p.toNatClampNeg) := sd_and3 ha.1 ha.2
  have hA : vp_in (fa p.toNatClampNeg) 4 := sd_in ha.1 (by omega)
  have h6 : d.toInt < 6 := by have := sd_xlt h7; rw [sd_t6] at this; exact this
  have hi : vp_in d 6 := sd_in hd.1 h6
  have g0 : ¬ d < 0 := sd_nlt (by rw [sd_t0]; exact hd.1)
  have g6 : ¬ (6 : Int32) ≤ d := sd_nle (by rw [sd_t6]; exact h6)
  have hs := sd_inc hd.1 (by omega)
  refine ⟨d + 1, (fb p.toNatClampNeg), e, rg, mm, upd bk d.toNatClampNeg (p + 1), ⟨by omega, by omega⟩, fun w post h => ?_, fun w post h => ?_⟩
  · refine ⟨hp, fun x1 e1 => ⟨hp, fun x2 e2 => ⟨hp, fun x3 e3 => fun y ey => ?_⟩⟩⟩
    obtain rfl := e1.trans hk
    subst e2 e3 ey
    refine br_t (by decide) (br_f (by decide) (br_f (by decide) (br_f (by decide) (br_f (by decide) (br_f (by decide) (br_t rfl (⟨hi, fun r er q eq => ?_⟩)))))))
    subst er eq
    exact h
  · rw [hk, hm]
    intro y ey x4 e4
    subst ey e4
    refine br_f (by decide) (br_f (by decide) (br_f (by decide) (br_f (by decide) (br_f (by decide) (br_f (by decide) (br_f (by decide) (br_t rfl (br_f g0 (br_f g6 (⟨hi, fun r er q eq => ?_⟩))))))))))
    subst er eq
    exact h
theorem sd_c8 (c b d p s e : Int32) (o fa fb rg mm bk : Nat → Int32) (hp : vp_in p 20) (hd : 0 ≤ d.toInt ∧ d.toInt ≤ 6) (ha : 0 ≤ (fa p.toNatClampNeg).toInt ∧ (fa p.toNatClampNeg).toInt ≤ 3) (hk : o p.toNatClampNeg = 8) (h8 : 0 < d) : sd_C c b d p s e o fa fb rg mm bk := by
  have hm : (fa p.toNatClampNeg) &&& 3 = (fa p.toNatClampNeg) := sd_and3 ha.1 ha.2
  have hA : vp_in (fa p.toNatClampNeg) 4 := sd_in ha.1 (by omega)
  have h0 : 0 < d.toInt := by have := sd_xlt h8; rw [sd_t0] at this; exact this
  have hs := sd_dec hd.1
  have hi : vp_in (d - 1) 6 := sd_in (by omega) (by omega)
  have g0 : ¬ d ≤ 0 := sd_nle (by rw [sd_t0]; exact h0)
  have g6 : ¬ (6 : Int32) < d := sd_nlt (by rw [sd_t6]; exact hd.2)
  refine ⟨d - 1, bk (d - 1).toNatClampNeg, e, rg, mm, bk, ⟨by omega, by omega⟩, fun w post h => ?_, fun w post h => ?_⟩
  · refine ⟨hp, fun x1 e1 => ⟨hp, fun x2 e2 => ⟨hp, fun x3 e3 => fun y ey => ?_⟩⟩⟩
    obtain rfl := e1.trans hk
    subst e2 e3 ey
    refine br_t (by decide) (br_f (by decide) (br_f (by decide) (br_f (by decide) (br_f (by decide) (br_f (by decide) (br_f (by decide) (br_t rfl (fun r er => ?_))))))))
    subst er
    exact ⟨hi, h⟩
  · rw [hk, hm]
    intro y ey x4 e4
    subst ey e4
    refine br_f (by decide) (br_f (by decide) (br_f (by decide) (br_f (by decide) (br_f (by decide) (br_f (by decide) (br_f (by decide) (br_f (by decide) (br_t rfl (br_f g0 (br_f g6 (fun r er => ?_)))))))))))
    subst er
    refine ⟨hi, fun q eq => ?_⟩
    subst eq
    exact h
theorem sd_c9 (c b d p s e : Int32) (o fa fb rg mm bk : Nat → Int32) (hp : vp_in p 20) (hd : 0 ≤ d.toInt ∧ d.toInt ≤ 6) (ha : 0 ≤ (fa p.toNatClampNeg).toInt ∧ (fa p.toNatClampNeg).toInt ≤ 3) (hk : o p.toNatClampNeg = 9) : sd_C c b d p s e o fa fb rg mm bk := by
  have hm : (fa p.toNatClampNeg) &&& 3 = (fa p.toNatClampNeg) := sd_and3 ha.1 ha.2
  have hA : vp_in (fa p.toNatClampNeg) 4 := sd_in ha.1 (by omega)
  refine ⟨d, rg (fa p.toNatClampNeg).toNatClampNeg, e, rg, mm, bk, hd, fun w post h => ?_, fun w post h => ?_⟩
  · refine ⟨hp, fun x1 e1 => ⟨hp, fun x2 e2 => ⟨hp, fun x3 e3 => fun y ey => ?_⟩⟩⟩
    obtain rfl := e1.trans hk
    subst e2 e3 ey
    exact br_t (by decide) (br_f (by decide) (br_f (by decide) (br_f (by decide) (br_f (by decide) (br_f (by decide) (br_f (by decide) (br_f (by decide) (br_t rfl (⟨hA, h⟩)))))))))
  · rw [hk, hm]
    intro y ey x4 e4
    subst ey e4
    refine br_f (by decide) (br_f (by decide) (br_f (by decide) (br_f (by decide) (br_f (by decide) (br_f (by decide) (br_f (by decide) (br_f (by decide) (br_f (by decide) (br_t rfl (⟨hA, fun q eq => ?_⟩))))))))))
    subst eq
    exact h
theorem sd_c10 (c b d p s e : Int32) (o fa fb rg mm bk : Nat → Int32) (hp : vp_in p 20) (hd : 0 ≤ d.toInt ∧ d.toInt ≤ 6) (ha : 0 ≤ (fa p.toNatClampNeg).toInt ∧ (fa p.toNatClampNeg).toInt ≤ 3) (hk : o p.toNatClampNeg = 10) : sd_C c b d p s e o fa fb rg mm bk := by
  have hm : (fa p.toNatClampNeg) &&& 3 = (fa p.toNatClampNeg) := sd_and3 ha.1 ha.2
  have hA : vp_in (fa p.toNatClampNeg) 4 := sd_in ha.1 (by omega)
  refine ⟨d, p, 1, rg, mm, bk, hd, fun w post h => ?_, fun w post h => ?_⟩
  · refine ⟨hp, fun x1 e1 => ⟨hp, fun x2 e2 => ⟨hp, fun x3 e3 => fun y ey => ?_⟩⟩⟩
    obtain rfl := e1.trans hk
    subst e2 e3 ey
    exact br_t (by decide) (br_t rfl (h))
  · rw [hk, hm]
    intro y ey x4 e4
    subst ey e4
    exact br_f (by decide) (br_f (by decide) (br_f (by decide) (br_f (by decide) (br_f (by decide) (br_f (by decide) (br_f (by decide) (br_f (by decide) (br_f (by decide) (br_f (by decide) (br_t rfl (h)))))))))))
theorem sd_carry {c d p e : Int32} {o fa fb : Nat → Int32} (b s : Int32) (rg mm bk : Nat → Int32) (hc : c.toInt ≤ 20) (hd : 0 ≤ d.toInt ∧ d.toInt ≤ 6) (hP : sd_P o fa fb) (hh : sd_halt c d p e o = 0) : sd_C c b d p s e o fa fb rg mm bk := by
  obtain ⟨_, h0, h1, h7, h8⟩ := sd_h0 hh
  have hp := sd_inP hc h0 h1
  obtain ⟨ho, ha, hb⟩ := hP p.toNatClampNeg
  rcases sd_ops ho.1 ho.2 with hk | hk | hk | hk | hk | hk | hk | hk | hk | hk | hk
  · exact sd_c0 c b d p s e o fa fb rg mm bk hp hd ha hk
  · exact sd_c1 c b d p s e o fa fb rg mm bk hp hd ha hk (hb (by rw [hk, sd_t1]; decide) (by rw [hk, sd_t1]; decide))
  · exact sd_c2 c b d p s e o fa fb rg mm bk hp hd ha hk (hb (by rw [hk, sd_t2]; decide) (by rw [hk, sd_t2]; decide))
  · exact sd_c3 c b d p s e o fa fb rg mm bk hp hd ha hk (hb (by rw [hk, sd_t3]; decide) (by rw [hk, sd_t3]; decide))
  · exact sd_c4 c b d p s e o fa fb rg mm bk hp hd ha hk (hb (by rw [hk, sd_t4]; decide) (by rw [hk, sd_t4]; decide))
  · exact sd_c5 c b d p s e o fa fb rg mm bk hp hd ha hk
  · exact sd_c6 c b d p s e o fa fb rg mm bk hp hd ha hk
  · exact sd_c7 c b d p s e o fa fb rg mm bk hp hd ha hk (h7 hk)
  · exact sd_c8 c b d p s e o fa fb rg mm bk hp hd ha hk (h8 hk)
  · exact sd_c9 c b d p s e o fa fb rg mm bk hp hd ha hk
  · exact sd_c10 c b d p s e o fa fb rg mm bk hp hd ha hk

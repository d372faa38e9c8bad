theorem i_vc_step {k : Nat} {u : SX} {v : SY} (I : i_Rel k u v) (hk : k + 4 ≤ 2048) : wpX_step (fun r u' => wpY_step (fun r' v' => r' = r ∧ i_Rel (k + 4) u' v') v) u := by
  obtain ⟨rfl, I⟩ := I
  obtain ⟨c, b, d, p, s, e, w, o, fa, fb, rg, mm, bk⟩ := v
  obtain ⟨r, ⟨c', b', d', p', s', e', w', o', fa', fb', rg', mm', bk'⟩, J, hX, hY⟩ := sd_run 1 0 0 0 0 (by decide) (by decide) (fun _ _ => sd_z10 _ _ _ _ _) I
  unfold wpX_step wpY_step
  exact hX _ (hY _ ⟨rfl, rfl, J⟩)
theorem i_vc_stepOut {k : Nat} {u : SX} {v : SY} (I : i_Rel k u v) (hk : k + 4 ≤ 2048) : wpX_stepOut (fun r u' => wpY_stepOut (fun r' v' => r' = r ∧ i_Rel (k + 4) u' v') v) u := by
  obtain ⟨rfl, I⟩ := I
  obtain ⟨c, b, d, p, s, e, w, o, fa, fb, rg, mm, bk⟩ := v
  obtain ⟨r, ⟨c', b', d', p', s', e', w', o', fa', fb', rg', mm', bk'⟩, J, hX, hY⟩ := sd_run 3 0 2 0 d (by decide) (by decide) (fun _ _ => sd_z32 _ _ _ _) I
  unfold wpX_stepOut wpY_stepOut
  exact hX _ (hY _ ⟨rfl, rfl, J⟩)
theorem i_vc_go {k : Nat} {u : SX} {v : SY} (I : i_Rel k u v) (hk : k + 4 ≤ 2048) : wpX_go (fun r u' => wpY_go (fun r' v' => r' = r ∧ i_Rel (k + 4) u' v') v) u := by
  obtain ⟨rfl, I⟩ := I
  obtain ⟨c, b, d, p, s, e, w, o, fa, fb, rg, mm, bk⟩ := v
  obtain ⟨r, ⟨c', b', d', p', s', e', w', o', fa', fb', rg', mm', bk'⟩, J, hX, hY⟩ := sd_run 0 0 4 0 0 (by decide) (by decide) (fun _ _ => sd_z04 _ _ _ _ _) I
  unfold wpX_go wpY_go
  exact hX _ (hY _ ⟨rfl, rfl, J⟩)
theorem i_vc_goTo {k : Nat} {u : SX} {v : SY} (I : i_Rel k u v) (hk : k + 4 ≤ 2048) (v1 : Int32) : wpX_goTo (fun r u' => wpY_goTo (fun r' v' => r' = r ∧ i_Rel (k + 4) u' v') v v1) u v1 := by
  obtain ⟨rfl, I⟩ := I
  obtain ⟨c, b, d, p, s, e, w, o, fa, fb, rg, mm, bk⟩ := v
  obtain ⟨r, ⟨c', b', d', p', s', e', w', o', fa', fb', rg', mm', bk'⟩, J, hX, hY⟩ := sd_run 4 v1 1 v1 0 (by decide) (by decide) (fun _ _ => sd_z41 _ _ _ _ _) I
  unfold wpX_goTo wpY_goTo
  exact hX _ (hY _ ⟨rfl, rfl, J⟩)
theorem i_vc_stepOver {k : Nat} {u : SX} {v : SY} (I : i_Rel k u v) (hk : k + 4 ≤ 2048) : wpX_stepOver (fun r u' => wpY_stepOver (fun r' v' => r' = r ∧ i_Rel (k + 4) u' v') v) u := by
  obtain ⟨rfl, I⟩ := I
  obtain ⟨c, b, d, p, s, e, w, o, fa, fb, rg, mm, bk⟩ := v
  have hc : c.toInt ≤ 20 := I.1.2
  unfold wpX_stepOver wpY_stepOver
  obtain ⟨r, ⟨c', b', d', p', s', e', w', o', fa', fb', rg', mm', bk'⟩, J, hX, hY⟩ := sd_run 1 0 0 0 0 (by decide) (by decide) (fun _ _ => sd_z10 _ _ _ _ _) I
  by_cases h0 : p < 0
  · exact br_t h0 (br_t rfl (br_t rfl (hX _ (br_t h0 (br_t rfl (br_f (by decide) (br_t rfl (hY _ ⟨rfl, rfl, J⟩))))))))
  · by_cases h1 : c ≤ p
    · exact br_f h0 (br_t h1 (br_t rfl (br_t rfl (hX _ (br_f h0 (br_t h1 (br_t rfl (br_f (by decide) (br_t rfl (hY _ ⟨rfl, rfl, J⟩))))))))))
    · have hi := sd_inP hc h0 h1
      by_cases h7 : o p.toNatClampNeg = 7
      · by_cases hd : d < 6
        · have h6 : ¬ (6 : Int32) ≤ d := sd_nle (sd_xlt hd)
          obtain ⟨r, ⟨c', b', d', p', s', e', w', o', fa', fb', rg', mm', bk'⟩, J, hX, hY⟩ := sd_run 2 (p + 1) 3 (p + 1) d (by decide) (by decide) (fun _ _ => sd_z23 _ _ _ _) I
          exact br_f h0 (br_f h1 (br_f (by decide) (⟨hi, br_t h7 (br_f (by decide) (hX _ (br_f h0 (br_f h1 (br_f (by decide) (⟨hi, br_t h7 (br_f h6 (br_f (by decide) (hY _ ⟨rfl, rfl, J⟩)))⟩))))))⟩)))
        · have h6 : (6 : Int32) ≤ d := sd_le (sd_xnlt hd)
          have hh : ¬ sd_halt c d p e o = 0 := fun q => hd ((sd_h0 q).2.2.2.1 h7)
          obtain ⟨r, ⟨c', b', d', p', s', e', w', o', fa', fb', rg', mm', bk'⟩, J, hX, hY⟩ := sd_runH 2 (p + 1) 0 0 0 (by decide) hh I
          exact br_f h0 (br_f h1 (br_f (by decide) (⟨hi, br_t h7 (br_f (by decide) (hX _ (br_f h0 (br_f h1 (br_f (by decide) (⟨hi, br_t h7 (br_t h6 (br_t rfl (hY _ ⟨rfl, rfl, J⟩)))⟩))))))⟩)))
      · exact br_f h0 (br_f h1 (br_f (by decide) (⟨hi, br_f h7 (br_t rfl (hX _ (br_f h0 (br_f h1 (br_f (by decide) (⟨hi, br_f h7 (br_t rfl (hY _ ⟨rfl, rfl, J⟩))⟩))))))⟩)))

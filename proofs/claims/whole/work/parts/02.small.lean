theorem i_up {k : Nat} {u : SX} {v : SY} (h : i_Rel k u v) : i_Rel (k + 4) u v := h
theorem i_vc0 : wpX_init (fun u => wpY_init (fun v => i_Rel 0 u v)) := ⟨rfl, ⟨by decide, by decide⟩, ⟨by decide, by decide⟩, ⟨by decide, by decide⟩, sd_P0⟩
theorem i_vc_length {k : Nat} {u : SX} {v : SY} (I : i_Rel k u v) (hk : k + 4 ≤ 2048) : wpX_length (fun r => wpY_length (fun r' => r' = r ∧ i_Rel (k + 4) u v) v) u := by
  obtain ⟨rfl, I⟩ := I
  exact ⟨rfl, rfl, I⟩
theorem i_vc_breakpoints {k : Nat} {u : SX} {v : SY} (I : i_Rel k u v) (hk : k + 4 ≤ 2048) : wpX_breakpoints (fun r => wpY_breakpoints (fun r' => r' = r ∧ i_Rel (k + 4) u v) v) u := by
  obtain ⟨rfl, I⟩ := I
  exact ⟨rfl, rfl, I⟩
theorem i_vc_reason {k : Nat} {u : SX} {v : SY} (I : i_Rel k u v) (hk : k + 4 ≤ 2048) : wpX_reason (fun r => wpY_reason (fun r' => r' = r ∧ i_Rel (k + 4) u v) v) u := by
  obtain ⟨rfl, I⟩ := I
  exact ⟨rfl, rfl, I⟩
theorem i_vc_position {k : Nat} {u : SX} {v : SY} (I : i_Rel k u v) (hk : k + 4 ≤ 2048) : wpX_position (fun r => wpY_position (fun r' => r' = r ∧ i_Rel (k + 4) u v) v) u := by
  obtain ⟨rfl, I⟩ := I
  exact ⟨rfl, rfl, I⟩
theorem i_vc_depth {k : Nat} {u : SX} {v : SY} (I : i_Rel k u v) (hk : k + 4 ≤ 2048) : wpX_depth (fun r => wpY_depth (fun r' => r' = r ∧ i_Rel (k + 4) u v) v) u := by
  obtain ⟨rfl, I⟩ := I
  exact ⟨rfl, rfl, I⟩
theorem i_vc_steps {k : Nat} {u : SX} {v : SY} (I : i_Rel k u v) (hk : k + 4 ≤ 2048) : wpX_steps (fun r => wpY_steps (fun r' => r' = r ∧ i_Rel (k + 4) u v) v) u := by
  obtain ⟨rfl, I⟩ := I
  exact ⟨rfl, rfl, I⟩
theorem i_vc_codeAt {k : Nat} {u : SX} {v : SY} (I : i_Rel k u v) (hk : k + 4 ≤ 2048) (v1 : Int32) : wpX_codeAt (fun r => wpY_codeAt (fun r' => r' = r ∧ i_Rel (k + 4) u v) v v1) u v1 := by
  obtain ⟨rfl, I⟩ := I
  obtain ⟨c, b, d, p, s, e, w, o, fa, fb, rg, mm, bk⟩ := v
  have hc : c.toInt ≤ 20 := I.1.2
  by_cases h0 : v1 < 0
  · exact br_t h0 (br_t rfl (br_t h0 ⟨rfl, rfl, I⟩))
  · by_cases h1 : c ≤ v1
    · have h2 : ¬ v1 < c := sd_nlt (sd_xle h1)
      exact br_f h0 (br_t h1 (br_t rfl (br_f h0 (br_f h2 ⟨rfl, rfl, I⟩))))
    · have h2 : v1 < c := sd_lt (sd_xnle h1)
      have hi : vp_in v1 20 := sd_in (by have := sd_xnlt h0; rw [sd_t0] at this; exact this) (by have := sd_xnle h1; omega)
      exact br_f h0 (br_f h1 (br_f (by decide) ⟨hi, hi, br_f h0 (br_t h2 ⟨hi, hi, rfl, rfl, I⟩)⟩))
theorem i_vc_breakAt {k : Nat} {u : SX} {v : SY} (I : i_Rel k u v) (hk : k + 4 ≤ 2048) (v1 : Int32) (v2 : Int32) : wpX_breakAt (fun r u' => wpY_breakAt (fun r' v' => r' = r ∧ i_Rel (k + 4) u' v') v v1 (lw_bz v2)) u v1 (lw_bz v2) := by
  obtain ⟨rfl, I⟩ := I
  obtain ⟨c, b, d, p, s, e, w, o, fa, fb, rg, mm, bk⟩ := v
  generalize lw_bz v2 = z
  by_cases h0 : v1 < 0
  · exact br_t h0 (br_t h0 ⟨rfl, rfl, I⟩)
  · by_cases h1 : v1 < 20
    · have h2 : v1 ≤ 19 := sd_le (by have := sd_xlt h1; rw [sd_t20] at this; rw [sd_t19]; omega)
      by_cases hz : z = 0
      · refine br_f h0 (br_t h1 fun x ex => br_t hz fun y ey => br_f h0 (br_t h2 (br_t hz fun y' ey' => ?_)))
        subst ex ey ey'
        exact ⟨rfl, rfl, I⟩
      · refine br_f h0 (br_t h1 fun x ex => br_f hz fun y ey => br_f h0 (br_t h2 (br_f hz fun y' ey' => ?_)))
        subst ex ey ey'
        exact ⟨rfl, rfl, I⟩
    · have h2 : ¬ v1 ≤ 19 := sd_nle (by have := sd_xnlt h1; rw [sd_t20] at this; rw [sd_t19]; omega)
      exact br_f h0 (br_f h1 (br_f h0 (br_f h2 ⟨rfl, rfl, I⟩)))
theorem i_vc_peek {k : Nat} {u : SX} {v : SY} (I : i_Rel k u v) (hk : k + 4 ≤ 2048) (v1 : Int32) : wpX_peek (fun r => wpY_peek (fun r' => r' = r ∧ i_Rel (k + 4) u v) v v1) u v1 := by
  obtain ⟨rfl, I⟩ := I
  obtain ⟨c, b, d, p, s, e, w, o, fa, fb, rg, mm, bk⟩ := v
  have hd : 0 ≤ d.toInt ∧ d.toInt ≤ 6 := I.2.1
  by_cases h0 : v1 < 0
  · have h8 : v1 < 8 := sd_lt (by have := sd_xlt h0; rw [sd_t0] at this; rw [sd_t8]; omega)
    have h16 : v1 < 16 := sd_lt (by have := sd_xlt h0; rw [sd_t0] at this; rw [sd_t16]; omega)
    exact br_t h0 (br_t rfl (br_t h8 (br_t h16 (br_t h0 (br_t h8 (br_t h16 ⟨rfl, rfl, I⟩))))))
  · have g0 : 0 ≤ v1.toInt := by have := sd_xnlt h0; rw [sd_t0] at this; exact this
    by_cases h4 : v1.toInt ≤ 3
    · have h4X : ¬ (4 : Int32) ≤ v1 := sd_nle (by rw [sd_t4]; omega)
      have h4Y : ¬ (3 : Int32) < v1 := sd_nlt (by rw [sd_t3]; omega)
      have hi : vp_in v1 4 := sd_in g0 (by omega)
      exact br_f h0 (br_f h4X (br_f (by decide) ⟨hi, br_f h0 (br_f h4Y ⟨hi, rfl, rfl, I⟩)⟩))
    · have h4X : (4 : Int32) ≤ v1 := sd_le (by rw [sd_t4]; omega)
      have h4Y : (3 : Int32) < v1 := sd_lt (by rw [sd_t3]; omega)
      by_cases h8 : v1 < 8
      · have h16 : v1 < 16 := sd_lt (by have := sd_xlt h8; rw [sd_t8] at this; rw [sd_t16]; omega)
        exact br_f h0 (br_t h4X (br_t rfl (br_t h8 (br_t h16 (br_f h0 (br_t h4Y (br_t h8 (br_t h16 ⟨rfl, rfl, I⟩))))))))
      · have g8 : 8 ≤ v1.toInt := by have := sd_xnlt h8; rw [sd_t8] at this; exact this
        by_cases h16 : v1 < 16
        · have g16 : v1.toInt < 16 := by have := sd_xlt h16; rw [sd_t16] at this; exact this
          have h16X : ¬ (16 : Int32) ≤ v1 := sd_nle (by rw [sd_t16]; omega)
          have h16Y : ¬ (15 : Int32) < v1 := sd_nlt (by rw [sd_t15]; omega)
          have hi : vp_in (v1 - 8) 8 := sd_in (by rw [sd_s8 g0]; omega) (by rw [sd_s8 g0]; omega)
          exact br_f h0 (br_t h4X (br_t rfl (br_f h8 (br_f h16X ⟨hi, br_f h0 (br_t h4Y (br_f h8 (br_f h16Y ⟨hi, rfl, rfl, I⟩)))⟩))))
        · have g16 : 16 ≤ v1.toInt := by have := sd_xnlt h16; rw [sd_t16] at this; exact this
          have h16X : (16 : Int32) ≤ v1 := sd_le (by rw [sd_t16]; omega)
          have h16Y : (15 : Int32) < v1 := sd_lt (by rw [sd_t15]; omega)
          by_cases hs : v1.toInt < 16 + d.toInt
          · have hX : ¬ (16 + d) ≤ v1 := sd_nle (by rw [sd_a16 hd.1 (by omega)]; omega)
            have hY : ¬ d ≤ (v1 - 16) := sd_nle (by rw [sd_s16 g0]; omega)
            have h22 : ¬ (22 : Int32) ≤ v1 := sd_nle (by rw [sd_t22]; omega)
            have hi : vp_in (v1 - 16) 6 := sd_in (by rw [sd_s16 g0]; omega) (by rw [sd_s16 g0]; omega)
            exact br_f h0 (br_t h4X (br_t rfl (br_f h8 (br_t h16X (br_f h16 (br_f hX ⟨hi, br_f h0 (br_t h4Y (br_f h8 (br_t h16Y (br_f h16 (br_f hY (br_f h22 ⟨hi, rfl, rfl, I⟩))))))⟩))))))
          · have hX : (16 + d) ≤ v1 := sd_le (by rw [sd_a16 hd.1 (by omega)]; omega)
            have hY : d ≤ (v1 - 16) := sd_le (by rw [sd_s16 g0]; omega)
            exact br_f h0 (br_t h4X (br_t rfl (br_f h8 (br_t h16X (br_f h16 (br_t hX (br_f h0 (br_t h4Y (br_f h8 (br_t h16Y (br_f h16 (br_t hY ⟨rfl, rfl, I⟩))))))))))))

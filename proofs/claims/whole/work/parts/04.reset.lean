theorem sd_n4 : nI 4 = 4 := by decide +kernel
theorem sd_n8 : nI 8 = 8 := by decide +kernel
theorem sd_r8 (c b d p s e w : Int32) (o fa fb rg bk : Nat → Int32) : ∀ m j : Nat, j + m = 8 → ∀ mm : Nat → Int32, ∃ mm' : Nat → Int32,
    (∀ post : SX → Prop, post (c, b, 0, 0, 0, 0, 0, o, fa, fb, rg, mm', bk) → wX_reset_22 post c b d p s e w (m + 1) (nI j) o fa fb rg mm bk) ∧
    (∀ post : SY → Prop, post (c, b, 0, 0, 0, 0, 0, o, fa, fb, rg, mm', bk) → wY_reset_22 post c b d p s e w (m + 1) (nI j) o fa fb rg mm bk) := by
  intro m
  induction m with
  | zero =>
    intro j hj mm
    have h : (8 : Int32) ≤ nI j := by rw [← sd_n8]; exact nI_le (by omega) (by omega)
    exact ⟨mm, fun _ hp => br_t h hp, fun _ hp => br_t h hp⟩
  | succ m ih =>
    intro j hj mm
    have h : ¬ (8 : Int32) ≤ nI j := by rw [← sd_n8]; exact nI_ge (by omega) (by omega)
    have hi : vp_in (nI j) 8 := vp_in_nI (by omega) (by omega)
    obtain ⟨mm', hX, hY⟩ := ih (j + 1) (by omega) (upd mm (nI j).toNatClampNeg 0)
    refine ⟨mm', fun post hp => br_f h ⟨hi, fun a ea x ex => ?_⟩, fun post hp => br_f h ⟨hi, fun a ea x ex => ?_⟩⟩
    · rw [ea, ex, nI_1]; exact hX post hp
    · rw [ea, ex, nI_1]; exact hY post hp
theorem sd_r4 (c b d p s e w : Int32) (o fa fb mm bk : Nat → Int32) : ∀ m j : Nat, j + m = 4 → ∀ rg : Nat → Int32, ∃ rg' mm' : Nat → Int32,
    (∀ post : SX → Prop, post (c, b, 0, 0, 0, 0, 0, o, fa, fb, rg', mm', bk) → wX_reset_2 post c b d p s e w (m + 1) (nI j) o fa fb rg mm bk) ∧
    (∀ post : SY → Prop, post (c, b, 0, 0, 0, 0, 0, o, fa, fb, rg', mm', bk) → wY_reset_2 post c b d p s e w (m + 1) (nI j) o fa fb rg mm bk) := by
  intro m
  induction m with
  | zero =>
    intro j hj rg
    have h : (4 : Int32) ≤ nI j := by rw [← sd_n4]; exact nI_le (by omega) (by omega)
    obtain ⟨mm', hX, hY⟩ := sd_r8 c b d p s e w o fa fb rg bk 8 0 rfl mm
    rw [nI_0] at hX hY
    exact ⟨rg, mm', fun _ hp => br_t h ⟨9, hX _ hp⟩, fun _ hp => br_t h ⟨9, hY _ hp⟩⟩
  | succ m ih =>
    intro j hj rg
    have h : ¬ (4 : Int32) ≤ nI j := by rw [← sd_n4]; exact nI_ge (by omega) (by omega)
    have hi : vp_in (nI j) 4 := vp_in_nI (by omega) (by omega)
    obtain ⟨rg', mm', hX, hY⟩ := ih (j + 1) (by omega) (upd rg (nI j).toNatClampNeg 0)
    refine ⟨rg', mm', fun post hp => br_f h ⟨hi, fun a ea x ex => ?_⟩, fun post hp => br_f h ⟨hi, fun a ea x ex => ?_⟩⟩
    · rw [ea, ex, nI_1]; exact hX post hp
    · rw [ea, ex, nI_1]; exact hY post hp
theorem i_vc_reset {k : Nat} {u : SX} {v : SY} (I : i_Rel k u v) (hk : k + 4 ≤ 2048) : wpX_reset (fun u' => wpY_reset (fun v' => i_Rel (k + 4) u' v') v) u := by
  obtain ⟨rfl, I⟩ := I
  obtain ⟨c, b, d, p, s, e, w, o, fa, fb, rg, mm, bk⟩ := v
  obtain ⟨hc, hd, hw, hP⟩ := I
  obtain ⟨rg', mm', hX, hY⟩ := sd_r4 c b d p s e w o fa fb mm bk 4 0 rfl rg
  rw [nI_0] at hX hY
  exact ⟨5, hX _ ⟨5, hY _ ⟨rfl, hc, ⟨by decide, by decide⟩, ⟨by decide, by decide⟩, hP⟩⟩⟩

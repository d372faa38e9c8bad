theorem sd_store {k : Nat} (c b d p s e w : Int32) (o fa fb rg mm bk : Nat → Int32) (x y z : Int32) (I : sd_Inv (c, b, d, p, s, e, w, o, fa, fb, rg, mm, bk)) (hc : c.toInt < 20) (hx : 0 ≤ x.toInt ∧ x.toInt ≤ 10) (hy : 0 ≤ y.toInt ∧ y.toInt ≤ 3) (hz : 1 ≤ x.toInt → x.toInt ≤ 4 → 0 ≤ z.toInt ∧ z.toInt ≤ 3) :
    ∃ r u', (∀ post : Int32 → SX → Prop, post r u' → wX_emit_51 post x y z c b d p s e w o fa fb rg mm bk) ∧ (∀ post : Int32 → SY → Prop, post r u' → wY_emit_55 post x y z c b d p s e w o fa fb rg mm bk) ∧ i_Rel k u' u' := by
  obtain ⟨⟨c0, c1⟩, hd, hw, hP⟩ := I
  have hi : vp_in c 20 := sd_in c0 (by omega)
  have he : (c + 1 - 1) = c := Int32.add_sub_cancel c 1
  have hs := sd_inc c0 (by omega)
  refine ⟨c, (c + 1, b, d, p, s, e, w, upd o c.toNatClampNeg x, upd fa c.toNatClampNeg y, upd fb c.toNatClampNeg z, rg, mm, bk), fun post h => ?_, fun post h => ?_, rfl, ⟨by omega, by omega⟩, hd, hw, sd_Pu hP _ x y z hx hy hz⟩
  · refine ⟨hi, fun q1 e1 => ⟨hi, fun q2 e2 => ⟨hi, fun q3 e3 => fun q4 e4 => ?_⟩⟩⟩
    subst e1 e2 e3 e4
    exact h
  · refine ⟨hi, fun q1 e1 => ⟨hi, fun q2 e2 => ⟨hi, fun q3 e3 => fun q4 e4 => ?_⟩⟩⟩
    subst e1 e2 e3 e4
    rw [he]
    exact h
theorem i_vc_emit {k : Nat} {u : SX} {v : SY} (I : i_Rel k u v) (hk : k + 4 ≤ 2048) (v1 : Int32) (v2 : Int32) (v3 : Int32) : wpX_emit (fun r u' => wpY_emit (fun r' v' => r' = r ∧ i_Rel (k + 4) u' v') v v1 v2 v3) u v1 v2 v3 := by
  obtain ⟨rfl, I⟩ := I
  obtain ⟨c, b, d, p, s, e, w, o, fa, fb, rg, mm, bk⟩ := v
  by_cases hc : c < 20
  · have gc : c.toInt < 20 := by have := sd_xlt hc; rw [sd_t20] at this; exact this
    by_cases h0 : v1 < 0
    · exact br_t hc (br_t h0 (br_t hc (br_t h0 (⟨rfl, rfl, I⟩))))
    · have g0 : 0 ≤ v1.toInt := by have := sd_xnlt h0; rw [sd_t0] at this; exact this
      by_cases h10 : v1 ≤ 10
      · have g10 : v1.toInt ≤ 10 := by have := sd_xle h10; rw [sd_t10] at this; exact this
        by_cases a0 : v2 < 0
        · exact br_t hc (br_f h0 (br_t h10 (br_t a0 (br_t rfl (br_t hc (br_f h0 (br_t h10 (br_t a0 (⟨rfl, rfl, I⟩)))))))))
        · have ga : 0 ≤ v2.toInt := by have := sd_xnlt a0; rw [sd_t0] at this; exact this
          by_cases a3 : (3 : Int32) < v2
          · have a4 : (4 : Int32) ≤ v2 := sd_le (by have := sd_xlt a3; rw [sd_t3] at this; rw [sd_t4]; omega)
            exact br_t hc (br_f h0 (br_t h10 (br_f a0 (br_t a4 (br_t rfl (br_t hc (br_f h0 (br_t h10 (br_f a0 (br_t a3 (⟨rfl, rfl, I⟩)))))))))))
          · have ga3 : v2.toInt ≤ 3 := by have := sd_xnlt a3; rw [sd_t3] at this; exact this
            have a4 : ¬ (4 : Int32) ≤ v2 := sd_nle (by rw [sd_t4]; omega)
            by_cases o1 : v1 < 1
            · have g1 : v1.toInt < 1 := by have := sd_xlt o1; rw [sd_t1] at this; exact this
              obtain ⟨r, u', hX, hY, hR⟩ := sd_store (k := k + 4) c b d p s e w o fa fb rg mm bk v1 v2 v3 I gc ⟨g0, g10⟩ ⟨ga, ga3⟩ (fun z => by omega)
              exact br_t hc (br_f h0 (br_t h10 (br_f a0 (br_f a4 (br_f (by decide) (br_t o1 (br_t rfl (hX _ (br_t hc (br_f h0 (br_t h10 (br_f a0 (br_f a3 (br_t o1 (hY _ ⟨rfl, hR⟩)))))))))))))))
            · by_cases o4 : (4 : Int32) < v1
              · have g4 : 4 < v1.toInt := by have := sd_xlt o4; rw [sd_t4] at this; exact this
                obtain ⟨r, u', hX, hY, hR⟩ := sd_store (k := k + 4) c b d p s e w o fa fb rg mm bk v1 v2 v3 I gc ⟨g0, g10⟩ ⟨ga, ga3⟩ (fun _ z => by omega)
                exact br_t hc (br_f h0 (br_t h10 (br_f a0 (br_f a4 (br_f (by decide) (br_f o1 (br_t o4 (br_t rfl (hX _ (br_t hc (br_f h0 (br_t h10 (br_f a0 (br_f a3 (br_f o1 (br_t o4 (hY _ ⟨rfl, hR⟩)))))))))))))))))
              · by_cases b0 : v3 < 0
                · exact br_t hc (br_f h0 (br_t h10 (br_f a0 (br_f a4 (br_f (by decide) (br_f o1 (br_f o4 (br_f (by decide) (br_t b0 (br_t rfl (br_t hc (br_f h0 (br_t h10 (br_f a0 (br_f a3 (br_f o1 (br_f o4 (br_t b0 (⟨rfl, rfl, I⟩)))))))))))))))))))
                · have gb : 0 ≤ v3.toInt := by have := sd_xnlt b0; rw [sd_t0] at this; exact this
                  by_cases b3 : v3 ≤ 3
                  · have gb3 : v3.toInt ≤ 3 := by have := sd_xle b3; rw [sd_t3] at this; exact this
                    have b4 : ¬ (4 : Int32) ≤ v3 := sd_nle (by rw [sd_t4]; omega)
                    obtain ⟨r, u', hX, hY, hR⟩ := sd_store (k := k + 4) c b d p s e w o fa fb rg mm bk v1 v2 v3 I gc ⟨g0, g10⟩ ⟨ga, ga3⟩ (fun _ _ => ⟨gb, gb3⟩)
                    exact br_t hc (br_f h0 (br_t h10 (br_f a0 (br_f a4 (br_f (by decide) (br_f o1 (br_f o4 (br_f (by decide) (br_f b0 (br_f b4 (br_f (by decide) (hX _ (br_t hc (br_f h0 (br_t h10 (br_f a0 (br_f a3 (br_f o1 (br_f o4 (br_f b0 (br_t b3 (hY _ ⟨rfl, hR⟩))))))))))))))))))))))
                  · have b4 : (4 : Int32) ≤ v3 := sd_le (by have := sd_xnle b3; rw [sd_t3] at this; rw [sd_t4]; omega)
                    exact br_t hc (br_f h0 (br_t h10 (br_f a0 (br_f a4 (br_f (by decide) (br_f o1 (br_f o4 (br_f (by decide) (br_f b0 (br_t b4 (br_t rfl (br_t hc (br_f h0 (br_t h10 (br_f a0 (br_f a3 (br_f o1 (br_f o4 (br_f b0 (br_f b3 (⟨rfl, rfl, I⟩)))))))))))))))))))))
      · exact br_t hc (br_f h0 (br_f h10 (br_t hc (br_f h0 (br_f h10 (⟨rfl, rfl, I⟩))))))
  · exact br_f hc (br_f hc (⟨rfl, rfl, I⟩))

section
/-! rows pasted from kit/rows: pk_tn, pk_and, pk_andE, pk_andIn -/
theorem pk_tn {n : Nat} (h : n < 2 ^ 32) : (nI n).toBitVec.toNat = n := Nat.mod_eq_of_lt h
theorem pk_and (x : Int32) {m : Int32} (k : Nat) (hm : m.toBitVec.toNat = 2 ^ k - 1) : x &&& m = nI (x.toBitVec.toNat % 2 ^ k) := by
  apply Int32.toBitVec_inj.mp
  apply BitVec.eq_of_toNat_eq
  rw [Int32.toBitVec_and, BitVec.toNat_and, hm, Nat.and_two_pow_sub_one_eq_mod]
  show _ = (BitVec.ofNat 32 _).toNat
  rw [BitVec.toNat_ofNat]
  exact (Nat.mod_eq_of_lt (Nat.lt_of_le_of_lt (Nat.mod_le _ _) x.toBitVec.isLt)).symm
theorem pk_andE (x : Int32) {m : Int32} (k : Nat) (hm : m.toBitVec.toNat = 2 ^ k - 1) : ∃ j : Nat, j < 2 ^ k ∧ x &&& m = nI j := ⟨_, Nat.mod_lt _ (Nat.two_pow_pos k), pk_and x k hm⟩
theorem pk_andIn (x : Int32) {m : Int32} (k : Nat) (hm : m.toBitVec.toNat = 2 ^ k - 1) (hk : k ≤ 30) : vp_in (x &&& m) (2 ^ k) := by
  obtain ⟨j, hj, e⟩ := pk_andE x k hm
  rw [e]
  exact vp_in_nI hj (Nat.lt_of_le_of_lt (Nat.pow_le_pow_right (by decide) hk) (by decide))
/-! the literals as integers -/
theorem sd_t0 : (0 : Int32).toInt = 0 := by decide
theorem sd_t1 : (1 : Int32).toInt = 1 := by decide
theorem sd_t3 : (3 : Int32).toInt = 3 := by decide
theorem sd_t4 : (4 : Int32).toInt = 4 := by decide
theorem sd_t5 : (5 : Int32).toInt = 5 := by decide
theorem sd_t6 : (6 : Int32).toInt = 6 := by decide
theorem sd_t7 : (7 : Int32).toInt = 7 := by decide
theorem sd_t8 : (8 : Int32).toInt = 8 := by decide
theorem sd_t9 : (9 : Int32).toInt = 9 := by decide
theorem sd_t10 : (10 : Int32).toInt = 10 := by decide
theorem sd_t15 : (15 : Int32).toInt = 15 := by decide
theorem sd_t16 : (16 : Int32).toInt = 16 := by decide
theorem sd_t19 : (19 : Int32).toInt = 19 := by decide
theorem sd_t20 : (20 : Int32).toInt = 20 := by decide
theorem sd_t22 : (22 : Int32).toInt = 22 := by decide
theorem sd_t150 : (150 : Int32).toInt = 150 := by decide
theorem sd_t2 : (2 : Int32).toInt = 2 := by decide
/-! small facts -/
theorem sd_of (x : Int32) (k : Int32) (h : x.toInt = k.toInt) : x = k := Int32.toInt_inj.mp h
theorem sd_lt {x y : Int32} (h : x.toInt < y.toInt) : x < y := Int32.lt_iff_toInt_lt.mpr h
theorem sd_nlt {x y : Int32} (h : y.toInt ≤ x.toInt) : ¬ x < y := fun z => by
  have := Int32.lt_iff_toInt_lt.mp z
  omega
theorem sd_le {x y : Int32} (h : x.toInt ≤ y.toInt) : x ≤ y := Int32.le_iff_toInt_le.mpr h
theorem sd_nle {x y : Int32} (h : y.toInt < x.toInt) : ¬ x ≤ y := fun z => by
  have := Int32.le_iff_toInt_le.mp z
  omega
theorem sd_xlt {x y : Int32} (h : x < y) : x.toInt < y.toInt := Int32.lt_iff_toInt_lt.mp h
theorem sd_xle {x y : Int32} (h : x ≤ y) : x.toInt ≤ y.toInt := Int32.le_iff_toInt_le.mp h
theorem sd_xnlt {x y : Int32} (h : ¬ x < y) : y.toInt ≤ x.toInt := Int.not_lt.mp fun z => h (sd_lt z)
theorem sd_xnle {x y : Int32} (h : ¬ x ≤ y) : y.toInt < x.toInt := Int.not_le.mp fun z => h (sd_le z)
theorem sd_in {x : Int32} {n : Nat} (h0 : 0 ≤ x.toInt) (h1 : x.toInt < n) : vp_in x n := vp_in_iff.mpr ⟨h0, h1⟩
theorem sd_and7 (y : Int32) : vp_in (y &&& 7) 8 := pk_andIn y 3 (by decide) (by decide)
theorem sd_and1 (y : Int32) : y &&& 1 = 0 ∨ y &&& 1 = 1 := by
  obtain ⟨j, hj, e⟩ := pk_andE y (m := 1) 1 (by decide)
  rw [e]
  have : j = 0 ∨ j = 1 := by omega
  rcases this with rfl | rfl
  · exact Or.inl (by decide)
  · exact Or.inr (by decide)
theorem sd_four {x : Int32} (h0 : 0 ≤ x.toInt) (h1 : x.toInt ≤ 3) : x = 0 ∨ x = 1 ∨ x = 2 ∨ x = 3 := by
  have h : x.toInt = 0 ∨ x.toInt = 1 ∨ x.toInt = 2 ∨ x.toInt = 3 := by omega
  rcases h with h | h | h | h
  · exact Or.inl (sd_of _ _ (h.trans sd_t0.symm))
  · exact Or.inr (Or.inl (sd_of _ _ (h.trans sd_t1.symm)))
  · exact Or.inr (Or.inr (Or.inl (sd_of _ _ (h.trans sd_t2.symm))))
  · exact Or.inr (Or.inr (Or.inr (sd_of _ _ (h.trans sd_t3.symm))))
theorem sd_and3 {x : Int32} (h0 : 0 ≤ x.toInt) (h1 : x.toInt ≤ 3) : x &&& 3 = x := by
  rcases sd_four h0 h1 with rfl | rfl | rfl | rfl <;> decide
theorem sd_ops {x : Int32} (h0 : 0 ≤ x.toInt) (h1 : x.toInt ≤ 10) : x = 0 ∨ x = 1 ∨ x = 2 ∨ x = 3 ∨ x = 4 ∨ x = 5 ∨ x = 6 ∨ x = 7 ∨ x = 8 ∨ x = 9 ∨ x = 10 := by
  by_cases h : x.toInt ≤ 3
  · rcases sd_four h0 h with h | h | h | h
    · exact Or.inl h
    · exact Or.inr (Or.inl h)
    · exact Or.inr (Or.inr (Or.inl h))
    · exact Or.inr (Or.inr (Or.inr (Or.inl h)))
  · have h : x.toInt = 4 ∨ x.toInt = 5 ∨ x.toInt = 6 ∨ x.toInt = 7 ∨ x.toInt = 8 ∨ x.toInt = 9 ∨ x.toInt = 10 := by omega
    refine Or.inr (Or.inr (Or.inr (Or.inr ?_)))
    rcases h with h | h | h | h | h | h | h
    · exact Or.inl (sd_of _ _ (h.trans sd_t4.symm))
    · exact Or.inr (Or.inl (sd_of _ _ (h.trans sd_t5.symm)))
    · exact Or.inr (Or.inr (Or.inl (sd_of _ _ (h.trans sd_t6.symm))))
    · exact Or.inr (Or.inr (Or.inr (Or.inl (sd_of _ _ (h.trans sd_t7.symm)))))
    · exact Or.inr (Or.inr (Or.inr (Or.inr (Or.inl (sd_of _ _ (h.trans sd_t8.symm))))))
    · exact Or.inr (Or.inr (Or.inr (Or.inr (Or.inr (Or.inl (sd_of _ _ (h.trans sd_t9.symm)))))))
    · exact Or.inr (Or.inr (Or.inr (Or.inr (Or.inr (Or.inr (sd_of _ _ (h.trans sd_t10.symm)))))))
theorem sd_inc {x : Int32} (h0 : 0 ≤ x.toInt) (h1 : x.toInt ≤ 100) : (x + 1).toInt = x.toInt + 1 := by
  rw [Int32.toInt_add, sd_t1]
  exact Int.bmod_eq_of_le (by omega) (by omega)
theorem sd_dec {x : Int32} (h0 : 0 ≤ x.toInt) : (x - 1).toInt = x.toInt - 1 := by
  have := Int32.toInt_lt x
  rw [Int32.toInt_sub, sd_t1]
  exact Int.bmod_eq_of_le (by omega) (by omega)
theorem sd_s8 {x : Int32} (h0 : 0 ≤ x.toInt) : (x - 8).toInt = x.toInt - 8 := by
  have := Int32.toInt_lt x
  rw [Int32.toInt_sub, sd_t8]
  exact Int.bmod_eq_of_le (by omega) (by omega)
theorem sd_s16 {x : Int32} (h0 : 0 ≤ x.toInt) : (x - 16).toInt = x.toInt - 16 := by
  have := Int32.toInt_lt x
  rw [Int32.toInt_sub, sd_t16]
  exact Int.bmod_eq_of_le (by omega) (by omega)
theorem sd_a16 {x : Int32} (h0 : 0 ≤ x.toInt) (h1 : x.toInt ≤ 100) : (16 + x).toInt = 16 + x.toInt := by
  rw [Int32.toInt_add, sd_t16]
  exact Int.bmod_eq_of_le (by omega) (by omega)
/-! the program's cells are lawful -/
def sd_P (o fa fb : Nat → Int32) : Prop := ∀ i : Nat, (0 ≤ (o i).toInt ∧ (o i).toInt ≤ 10) ∧ (0 ≤ (fa i).toInt ∧ (fa i).toInt ≤ 3) ∧ (1 ≤ (o i).toInt → (o i).toInt ≤ 4 → 0 ≤ (fb i).toInt ∧ (fb i).toInt ≤ 3)
theorem sd_P0 : sd_P (fun _ => 0) (fun _ => 0) (fun _ => 0) := fun i => by
  show (0 ≤ (0 : Int32).toInt ∧ (0 : Int32).toInt ≤ 10) ∧ (0 ≤ (0 : Int32).toInt ∧ (0 : Int32).toInt ≤ 3) ∧ (1 ≤ (0 : Int32).toInt → (0 : Int32).toInt ≤ 4 → 0 ≤ (0 : Int32).toInt ∧ (0 : Int32).toInt ≤ 3)
  rw [sd_t0]
  omega
theorem sd_Pu {o fa fb : Nat → Int32} (h : sd_P o fa fb) (n : Nat) (x y z : Int32) (hx : 0 ≤ x.toInt ∧ x.toInt ≤ 10) (hy : 0 ≤ y.toInt ∧ y.toInt ≤ 3) (hz : 1 ≤ x.toInt → x.toInt ≤ 4 → 0 ≤ z.toInt ∧ z.toInt ≤ 3) : sd_P (upd o n x) (upd fa n y) (upd fb n z) := fun i => by
  by_cases e : i = n
  · subst e
    simp only [upd, if_true]
    exact ⟨hx, hy, hz⟩
  · simp only [upd, if_neg e]
    exact h i
/-- what both sides hold alike -/
def sd_Inv (u : SX) : Prop := match u with
  | (c, _, d, _, _, _, w, o, fa, fb, _, _, _) => (0 ≤ c.toInt ∧ c.toInt ≤ 20) ∧ (0 ≤ d.toInt ∧ d.toInt ≤ 6) ∧ (0 ≤ w.toInt ∧ w.toInt ≤ 6) ∧ sd_P o fa fb
/-- the two machines are the same, and lawful -/
def i_Rel (_ : Nat) (u : SX) (v : SY) : Prop := v = u ∧ sd_Inv u
end
section
theorem i_up {k : Nat} {u : SX} {v : SY} (h : i_Rel k u v) : i_Rel (k + 4) u v := h
theorem i_vc0 : wpX_init (fun u => wpY_init (fun v => i_Rel 0 u v)) := ⟨rfl, ⟨by decide, by decide⟩, ⟨by decide, by decide⟩, ⟨by decide, by decide⟩, sd_P0⟩
theorem i_vc_length {k : Nat} {u : SX} {v : SY} (I : i_Rel k u v) (hk : k + 4 ≤ 2048) : wpX_length (fun r => wpY_length (fun r' => r' = r ∧ i_Rel (k + 4) u v) v) u := by
  obtain ⟨rfl, I⟩ := I
  exact ⟨rfl, rfl, I⟩
theorem i_vc_breakpoints {k : Nat} {u : SX} {v : SY} (I : i_Rel k u v) (hk : k + 4 ≤ 2048) : wpX_breakpoints (fun r => wpY_breakpoints (fun r' => r' = r ∧ i_Rel (k + 4) u v) v) u := by
  obtain ⟨rfl, I⟩ := I
  exact ⟨rfl, rfl, I⟩
theorem i_vc_reason {k : Nat} {u : SX} {v : SY} (I : i_Rel k u v) (hk : k + 4 ≤ 2048) : wpX_reason (fun r => wpY_reason (fun r' => r' = r ∧ i_Rel (k + 4) u v) v) u := by
  obtain ⟨rfl, I⟩ := I
  exact ⟨rfl, rfl, I⟩
theorem i_vc_position {k : Nat} {u : SX} {v : SY} (I : i_Rel k u v) (hk : k + 4 ≤ 2048) : wpX_position (fun r => wpY_position (fun r' => r' = r ∧ i_Rel (k + 4) u v) v) u := by
  obtain ⟨rfl, I⟩ := I
  exact ⟨rfl, rfl, I⟩
theorem i_vc_depth {k : Nat} {u : SX} {v : SY} (I : i_Rel k u v) (hk : k + 4 ≤ 2048) : wpX_depth (fun r => wpY_depth (fun r' => r' = r ∧ i_Rel (k + 4) u v) v) u := by
  obtain ⟨rfl, I⟩ := I
  exact ⟨rfl, rfl, I⟩
theorem i_vc_steps {k : Nat} {u : SX} {v : SY} (I : i_Rel k u v) (hk : k + 4 ≤ 2048) : wpX_steps (fun r => wpY_steps (fun r' => r' = r ∧ i_Rel (k + 4) u v) v) u := by
  obtain ⟨rfl, I⟩ := I
  exact ⟨rfl, rfl, I⟩
theorem i_vc_codeAt {k : Nat} {u : SX} {v : SY} (I : i_Rel k u v) (hk : k + 4 ≤ 2048) (v1 : Int32) : wpX_codeAt (fun r => wpY_codeAt (fun r' => r' = r ∧ i_Rel (k + 4) u v) v v1) u v1 := by
  obtain ⟨rfl, I⟩ := I
  obtain ⟨c, b, d, p, s, e, w, o, fa, fb, rg, mm, bk⟩ := v
  have hc : c.toInt ≤ 20 := I.1.2
  by_cases h0 : v1 < 0
  · exact br_t h0 (br_t rfl (br_t h0 ⟨rfl, rfl, I⟩))
  · by_cases h1 : c ≤ v1
    · have h2 : ¬ v1 < c := sd_nlt (sd_xle h1)
      exact br_f h0 (br_t h1 (br_t rfl (br_f h0 (br_f h2 ⟨rfl, rfl, I⟩))))
    · have h2 : v1 < c := sd_lt (sd_xnle h1)
      have hi : vp_in v1 20 := sd_in (by have := sd_xnlt h0; rw [sd_t0] at this; exact this) (by have := sd_xnle h1; omega)
      exact br_f h0 (br_f h1 (br_f (by decide) ⟨hi, hi, br_f h0 (br_t h2 ⟨hi, hi, rfl, rfl, I⟩)⟩))
theorem i_vc_breakAt {k : Nat} {u : SX} {v : SY} (I : i_Rel k u v) (hk : k + 4 ≤ 2048) (v1 : Int32) (v2 : Int32) : wpX_breakAt (fun r u' => wpY_breakAt (fun r' v' => r' = r ∧ i_Rel (k + 4) u' v') v v1 (lw_bz v2)) u v1 (lw_bz v2) := by
  obtain ⟨rfl, I⟩ := I
  obtain ⟨c, b, d, p, s, e, w, o, fa, fb, rg, mm, bk⟩ := v
  generalize lw_bz v2 = z
  by_cases h0 : v1 < 0
  · exact br_t h0 (br_t h0 ⟨rfl, rfl, I⟩)
  · by_cases h1 : v1 < 20
    · have h2 : v1 ≤ 19 := sd_le (by have := sd_xlt h1; rw [sd_t20] at this; rw [sd_t19]; omega)
      by_cases hz : z = 0
      · refine br_f h0 (br_t h1 fun x ex => br_t hz fun y ey => br_f h0 (br_t h2 (br_t hz fun y' ey' => ?_)))
        subst ex ey ey'
        exact ⟨rfl, rfl, I⟩
      · refine br_f h0 (br_t h1 fun x ex => br_f hz fun y ey => br_f h0 (br_t h2 (br_f hz fun y' ey' => ?_)))
        subst ex ey ey'
        exact ⟨rfl, rfl, I⟩
    · have h2 : ¬ v1 ≤ 19 := sd_nle (by have := sd_xnlt h1; rw [sd_t20] at this; rw [sd_t19]; omega)
      exact br_f h0 (br_f h1 (br_f h0 (br_f h2 ⟨rfl, rfl, I⟩)))
theorem i_vc_peek {k : Nat} {u : SX} {v : SY} (I : i_Rel k u v) (hk : k + 4 ≤ 2048) (v1 : Int32) : wpX_peek (fun r => wpY_peek (fun r' => r' = r ∧ i_Rel (k + 4) u v) v v1) u v1 := by
  obtain ⟨rfl, I⟩ := I
  obtain ⟨c, b, d, p, s, e, w, o, fa, fb, rg, mm, bk⟩ := v
  have hd : 0 ≤ d.toInt ∧ d.toInt ≤ 6 := I.2.1
  by_cases h0 : v1 < 0
  · have h8 : v1 < 8 := sd_lt (by have := sd_xlt h0; rw [sd_t0] at this; rw [sd_t8]; omega)
    have h16 : v1 < 16 := sd_lt (by have := sd_xlt h0; rw [sd_t0] at this; rw [sd_t16]; omega)
    exact br_t h0 (br_t rfl (br_t h8 (br_t h16 (br_t h0 (br_t h8 (br_t h16 ⟨rfl, rfl, I⟩))))))
  · have g0 : 0 ≤ v1.toInt := by have := sd_xnlt h0; rw [sd_t0] at this; exact this
    by_cases h4 : v1.toInt ≤ 3
    · have h4X : ¬ (4 : Int32) ≤ v1 := sd_nle (by rw [sd_t4]; omega)
      have h4Y : ¬ (3 : Int32) < v1 := sd_nlt (by rw [sd_t3]; omega)
      have hi : vp_in v1 4 := sd_in g0 (by omega)
      exact br_f h0 (br_f h4X (br_f (by decide) ⟨hi, br_f h0 (br_f h4Y ⟨hi, rfl, rfl, I⟩)⟩))
    · have h4X : (4 : Int32) ≤ v1 := sd_le (by rw [sd_t4]; omega)
      have h4Y : (3 : Int32) < v1 := sd_lt (by rw [sd_t3]; omega)
      by_cases h8 : v1 < 8
      · have h16 : v1 < 16 := sd_lt (by have := sd_xlt h8; rw [sd_t8] at this; rw [sd_t16]; omega)
        exact br_f h0 (br_t h4X (br_t rfl (br_t h8 (br_t h16 (br_f h0 (br_t h4Y (br_t h8 (br_t h16 ⟨rfl, rfl, I⟩))))))))
      · have g8 : 8 ≤ v1.toInt := by have := sd_xnlt h8; rw [sd_t8] at this; exact this
        by_cases h16 : v1 < 16
        · have g16 : v1.toInt < 16 := by have := sd_xlt h16; rw [sd_t16] at this; exact this
          have h16X : ¬ (16 : Int32) ≤ v1 := sd_nle (by rw [sd_t16]; omega)
          have h16Y : ¬ (15 : Int32) < v1 := sd_nlt (by rw [sd_t15]; omega)
          have hi : vp_in (v1 - 8) 8 := sd_in (by rw [sd_s8 g0]; omega) (by rw [sd_s8 g0]; omega)
          exact br_f h0 (br_t h4X (br_t rfl (br_f h8 (br_f h16X ⟨hi, br_f h0 (br_t h4Y (br_f h8 (br_f h16Y ⟨hi, rfl, rfl, I⟩)))⟩))))
        · have g16 : 16 ≤ v1.toInt := by have := sd_xnlt h16; rw [sd_t16] at this; exact this
          have h16X : (16 : Int32) ≤ v1 := sd_le (by rw [sd_t16]; omega)
          have h16Y : (15 : Int32) < v1 := sd_lt (by rw [sd_t15]; omega)
          by_cases hs : v1.toInt < 16 + d.toInt
          · have hX : ¬ (16 + d) ≤ v1 := sd_nle (by rw [sd_a16 hd.1 (by omega)]; omega)
            have hY : ¬ d ≤ (v1 - 16) := sd_nle (by rw [sd_s16 g0]; omega)
            have h22 : ¬ (22 : Int32) ≤ v1 := sd_nle (by rw [sd_t22]; omega)
            have hi : vp_in (v1 - 16) 6 := sd_in (by rw [sd_s16 g0]; omega) (by rw [sd_s16 g0]; omega)
            exact br_f h0 (br_t h4X (br_t rfl (br_f h8 (br_t h16X (br_f h16 (br_f hX ⟨hi, br_f h0 (br_t h4Y (br_f h8 (br_t h16Y (br_f h16 (br_f hY (br_f h22 ⟨hi, rfl, rfl, I⟩))))))⟩))))))
          · have hX : (16 + d) ≤ v1 := sd_le (by rw [sd_a16 hd.1 (by omega)]; omega)
            have hY : d ≤ (v1 - 16) := sd_le (by rw [sd_s16 g0]; omega)
            exact br_f h0 (br_t h4X (br_t rfl (br_f h8 (br_t h16X (br_f h16 (br_t hX (br_f h0 (br_t h4Y (br_f h8 (br_t h16Y (br_f h16 (br_t hY ⟨rfl, rfl, I⟩))))))))))))
end
section
theorem sd_store {k : Nat} (c b d p s e w : Int32) (o fa fb rg mm bk : Nat → Int32) (x y z : Int32) (I : sd_Inv (c, b, d, p, s, e, w, o, fa, fb, rg, mm, bk)) (hc : c.toInt < 20) (hx : 0 ≤ x.toInt ∧ x.toInt ≤ 10) (hy : 0 ≤ y.toInt ∧ y.toInt ≤ 3) (hz : 1 ≤ x.toInt → x.toInt ≤ 4 → 0 ≤ z.toInt ∧ z.toInt ≤ 3) :
    ∃ r u', (∀ post : Int32 → SX → Prop, post r u' → wX_emit_51 post x y z c b d p s e w o fa fb rg mm bk) ∧ (∀ post : Int32 → SY → Prop, post r u' → wY_emit_55 post x y z c b d p s e w o fa fb rg mm bk) ∧ i_Rel k u' u' := by
  obtain ⟨⟨c0, c1⟩, hd, hw, hP⟩ := I
  have hi : vp_in c 20 := sd_in c0 (by omega)
  have he : (c + 1 - 1) = c := Int32.add_sub_cancel c 1
  have hs := sd_inc c0 (by omega)
  refine ⟨c, (c + 1, b, d, p, s, e, w, upd o c.toNatClampNeg x, upd fa c.toNatClampNeg y, upd fb c.toNatClampNeg z, rg, mm, bk), fun post h => ?_, fun post h => ?_, rfl, ⟨by omega, by omega⟩, hd, hw, sd_Pu hP _ x y z hx hy hz⟩
  · refine ⟨hi, fun q1 e1 => ⟨hi, fun q2 e2 => ⟨hi, fun q3 e3 => fun q4 e4 => ?_⟩⟩⟩
    subst e1 e2 e3 e4
    exact h
  · refine ⟨hi, fun q1 e1 => ⟨hi, fun q2 e2 => ⟨hi, fun q3 e3 => fun q4 e4 => ?_⟩⟩⟩
    subst e1 e2 e3 e4
    rw [he]
    exact h
theorem i_vc_emit {k : Nat} {u : SX} {v : SY} (I : i_Rel k u v) (hk : k + 4 ≤ 2048) (v1 : Int32) (v2 : Int32) (v3 : Int32) : wpX_emit (fun r u' => wpY_emit (fun r' v' => r' = r ∧ i_Rel (k + 4) u' v') v v1 v2 v3) u v1 v2 v3 := by
  obtain ⟨rfl, I⟩ := I
  obtain ⟨c, b, d, p, s, e, w, o, fa, fb, rg, mm, bk⟩ := v
  by_cases hc : c < 20
  · have gc : c.toInt < 20 := by have := sd_xlt hc; rw [sd_t20] at this; exact this
    by_cases h0 : v1 < 0
    · exact br_t hc (br_t h0 (br_t hc (br_t h0 (⟨rfl, rfl, I⟩))))
    · have g0 : 0 ≤ v1.toInt := by have := sd_xnlt h0; rw [sd_t0] at this; exact this
      by_cases h10 : v1 ≤ 10
      · have g10 : v1.toInt ≤ 10 := by have := sd_xle h10; rw [sd_t10] at this; exact this
        by_cases a0 : v2 < 0
        · exact br_t hc (br_f h0 (br_t h10 (br_t a0 (br_t rfl (br_t hc (br_f h0 (br_t h10 (br_t a0 (⟨rfl, rfl, I⟩)))))))))
        · have ga : 0 ≤ v2.toInt := by have := sd_xnlt a0; rw [sd_t0] at this; exact this
          by_cases a3 : (3 : Int32) < v2
          · have a4 : (4 : Int32) ≤ v2 := sd_le (by have := sd_xlt a3; rw [sd_t3] at this; rw [sd_t4]; omega)
            exact br_t hc (br_f h0 (br_t h10 (br_f a0 (br_t a4 (br_t rfl (br_t hc (br_f h0 (br_t h10 (br_f a0 (br_t a3 (⟨rfl, rfl, I⟩)))))))))))
          · have ga3 : v2.toInt ≤ 3 := by have := sd_xnlt a3; rw [sd_t3] at this; exact this
            have a4 : ¬ (4 : Int32) ≤ v2 := sd_nle (by rw [sd_t4]; omega)
            by_cases o1 : v1 < 1
            · have g1 : v1.toInt < 1 := by have := sd_xlt o1; rw [sd_t1] at this; exact this
              obtain ⟨r, u', hX, hY, hR⟩ := sd_store (k := k + 4) c b d p s e w o fa fb rg mm bk v1 v2 v3 I gc ⟨g0, g10⟩ ⟨ga, ga3⟩ (fun z => by omega)
              exact br_t hc (br_f h0 (br_t h10 (br_f a0 (br_f a4 (br_f (by decide) (br_t o1 (br_t rfl (hX _ (br_t hc (br_f h0 (br_t h10 (br_f a0 (br_f a3 (br_t o1 (hY _ ⟨rfl, hR⟩)))))))))))))))
            · by_cases o4 : (4 : Int32) < v1
              · have g4 : 4 < v1.toInt := by have := sd_xlt o4; rw [sd_t4] at this; exact this
                obtain ⟨r, u', hX, hY, hR⟩ := sd_store (k := k + 4) c b d p s e w o fa fb rg mm bk v1 v2 v3 I gc ⟨g0, g10⟩ ⟨ga, ga3⟩ (fun _ z => by omega)
                exact br_t hc (br_f h0 (br_t h10 (br_f a0 (br_f a4 (br_f (by decide) (br_f o1 (br_t o4 (br_t rfl (hX _ (br_t hc (br_f h0 (br_t h10 (br_f a0 (br_f a3 (br_f o1 (br_t o4 (hY _ ⟨rfl, hR⟩)))))))))))))))))
              · by_cases b0 : v3 < 0
                · exact br_t hc (br_f h0 (br_t h10 (br_f a0 (br_f a4 (br_f (by decide) (br_f o1 (br_f o4 (br_f (by decide) (br_t b0 (br_t rfl (br_t hc (br_f h0 (br_t h10 (br_f a0 (br_f a3 (br_f o1 (br_f o4 (br_t b0 (⟨rfl, rfl, I⟩)))))))))))))))))))
                · have gb : 0 ≤ v3.toInt := by have := sd_xnlt b0; rw [sd_t0] at this; exact this
                  by_cases b3 : v3 ≤ 3
                  · have gb3 : v3.toInt ≤ 3 := by have := sd_xle b3; rw [sd_t3] at this; exact this
                    have b4 : ¬ (4 : Int32) ≤ v3 := sd_nle (by rw [sd_t4]; omega)
                    obtain ⟨r, u', hX, hY, hR⟩ := sd_store (k := k + 4) c b d p s e w o fa fb rg mm bk v1 v2 v3 I gc ⟨g0, g10⟩ ⟨ga, ga3⟩ (fun _ _ => ⟨gb, gb3⟩)
                    exact br_t hc (br_f h0 (br_t h10 (br_f a0 (br_f a4 (br_f (by decide) (br_f o1 (br_f o4 (br_f (by decide) (br_f b0 (br_f b4 (br_f (by decide) (hX _ (br_t hc (br_f h0 (br_t h10 (br_f a0 (br_f a3 (br_f o1 (br_f o4 (br_f b0 (br_t b3 (hY _ ⟨rfl, hR⟩))))))))))))))))))))))
                  · have b4 : (4 : Int32) ≤ v3 := sd_le (by have := sd_xnle b3; rw [sd_t3] at this; rw [sd_t4]; omega)
                    exact br_t hc (br_f h0 (br_t h10 (br_f a0 (br_f a4 (br_f (by decide) (br_f o1 (br_f o4 (br_f (by decide) (br_f b0 (br_t b4 (br_t rfl (br_t hc (br_f h0 (br_t h10 (br_f a0 (br_f a3 (br_f o1 (br_f o4 (br_f b0 (br_f b3 (⟨rfl, rfl, I⟩)))))))))))))))))))))
      · exact br_t hc (br_f h0 (br_f h10 (br_t hc (br_f h0 (br_f h10 (⟨rfl, rfl, I⟩))))))
  · exact br_f hc (br_f hc (⟨rfl, rfl, I⟩))
end
section
theorem sd_n4 : nI 4 = 4 := by decide +kernel
theorem sd_n8 : nI 8 = 8 := by decide +kernel
theorem sd_r8 (c b d p s e w : Int32) (o fa fb rg bk : Nat → Int32) : ∀ m j : Nat, j + m = 8 → ∀ mm : Nat → Int32, ∃ mm' : Nat → Int32,
    (∀ post : SX → Prop, post (c, b, 0, 0, 0, 0, 0, o, fa, fb, rg, mm', bk) → wX_reset_22 post c b d p s e w (m + 1) (nI j) o fa fb rg mm bk) ∧
    (∀ post : SY → Prop, post (c, b, 0, 0, 0, 0, 0, o, fa, fb, rg, mm', bk) → wY_reset_22 post c b d p s e w (m + 1) (nI j) o fa fb rg mm bk) := by
  intro m
  induction m with
  | zero =>
    intro j hj mm
    have h : (8 : Int32) ≤ nI j := by rw [← sd_n8]; exact nI_le (by omega) (by omega)
    exact ⟨mm, fun _ hp => br_t h hp, fun _ hp => br_t h hp⟩
  | succ m ih =>
    intro j hj mm
    have h : ¬ (8 : Int32) ≤ nI j := by rw [← sd_n8]; exact nI_ge (by omega) (by omega)
    have hi : vp_in (nI j) 8 := vp_in_nI (by omega) (by omega)
    obtain ⟨mm', hX, hY⟩ := ih (j + 1) (by omega) (upd mm (nI j).toNatClampNeg 0)
    refine ⟨mm', fun post hp => br_f h ⟨hi, fun a ea x ex => ?_⟩, fun post hp => br_f h ⟨hi, fun a ea x ex => ?_⟩⟩
    · rw [ea, ex, nI_1]; exact hX post hp
    · rw [ea, ex, nI_1]; exact hY post hp
theorem sd_r4 (c b d p s e w : Int32) (o fa fb mm bk : Nat → Int32) : ∀ m j : Nat, j + m = 4 → ∀ rg : Nat → Int32, ∃ rg' mm' : Nat → Int32,
    (∀ post : SX → Prop, post (c, b, 0, 0, 0, 0, 0, o, fa, fb, rg', mm', bk) → wX_reset_2 post c b d p s e w (m + 1) (nI j) o fa fb rg mm bk) ∧
    (∀ post : SY → Prop, post (c, b, 0, 0, 0, 0, 0, o, fa, fb, rg', mm', bk) → wY_reset_2 post c b d p s e w (m + 1) (nI j) o fa fb rg mm bk) := by
  intro m
  induction m with
  | zero =>
    intro j hj rg
    have h : (4 : Int32) ≤ nI j := by rw [← sd_n4]; exact nI_le (by omega) (by omega)
    obtain ⟨mm', hX, hY⟩ := sd_r8 c b d p s e w o fa fb rg bk 8 0 rfl mm
    rw [nI_0] at hX hY
    exact ⟨rg, mm', fun _ hp => br_t h ⟨9, hX _ hp⟩, fun _ hp => br_t h ⟨9, hY _ hp⟩⟩
  | succ m ih =>
    intro j hj rg
    have h : ¬ (4 : Int32) ≤ nI j := by rw [← sd_n4]; exact nI_ge (by omega) (by omega)
    have hi : vp_in (nI j) 4 := vp_in_nI (by omega) (by omega)
    obtain ⟨rg', mm', hX, hY⟩ := ih (j + 1) (by omega) (upd rg (nI j).toNatClampNeg 0)
    refine ⟨rg', mm', fun post hp => br_f h ⟨hi, fun a ea x ex => ?_⟩, fun post hp => br_f h ⟨hi, fun a ea x ex => ?_⟩⟩
    · rw [ea, ex, nI_1]; exact hX post hp
    · rw [ea, ex, nI_1]; exact hY post hp
theorem i_vc_reset {k : Nat} {u : SX} {v : SY} (I : i_Rel k u v) (hk : k + 4 ≤ 2048) : wpX_reset (fun u' => wpY_reset (fun v' => i_Rel (k + 4) u' v') v) u := by
  obtain ⟨rfl, I⟩ := I
  obtain ⟨c, b, d, p, s, e, w, o, fa, fb, rg, mm, bk⟩ := v
  obtain ⟨hc, hd, hw, hP⟩ := I
  obtain ⟨rg', mm', hX, hY⟩ := sd_r4 c b d p s e w o fa fb mm bk 4 0 rfl rg
  rw [nI_0] at hX hY
  exact ⟨5, hX _ ⟨5, hY _ ⟨rfl, hc, ⟨by decide, by decide⟩, ⟨by decide, by decide⟩, hP⟩⟩⟩
end
section
/-- why the machine can't go on: 0, or ENDED, LOST, FAULTED -/
def sd_halt (c d p e : Int32) (o : Nat → Int32) : Int32 :=
  if e = 0 then
    if p < 0 then 4 else if c ≤ p then 4
    else if o p.toNatClampNeg = 7 then (if d < 6 then 0 else 5)
    else if o p.toNatClampNeg = 8 then (if 0 < d then 0 else 5) else 0
  else 6
theorem sd_inP {c p : Int32} (hc : c.toInt ≤ 20) (h0 : ¬ p < 0) (h1 : ¬ c ≤ p) : vp_in p 20 :=
  sd_in (by have := sd_xnlt h0; rw [sd_t0] at this; exact this) (by have := sd_xnle h1; omega)
theorem sd_hX {c b d p s e w : Int32} {o fa fb rg mm bk : Nat → Int32} {post : Int32 → Prop} (hc : c.toInt ≤ 20) (h : post (sd_halt c d p e o)) : wpX_haltReason post (c, b, d, p, s, e, w, o, fa, fb, rg, mm, bk) := by
  unfold sd_halt at h
  by_cases he : e = 0
  · rw [if_pos he] at h
    by_cases h0 : p < 0
    · rw [if_pos h0] at h
      exact br_t he (br_t h0 (br_t rfl (h)))
    · rw [if_neg h0] at h
      by_cases h1 : c ≤ p
      · rw [if_pos h1] at h
        exact br_t he (br_f h0 (br_t h1 (br_t rfl (h))))
      · rw [if_neg h1] at h
        have hi := sd_inP hc h0 h1
        refine br_t he (br_f h0 (br_f h1 (br_f (by decide) (⟨hi, fun x ex => ?_⟩))))
        subst ex
        by_cases h7 : o p.toNatClampNeg = 7
        · have h8 : ¬ o p.toNatClampNeg = 8 := by rw [h7]; decide
          rw [if_pos h7] at h
          by_cases hd : d < 6
          · rw [if_pos hd] at h
            exact br_t h7 (br_t hd (br_f h8 (h)))
          · rw [if_neg hd] at h
            exact br_t h7 (br_f hd (h))
        · rw [if_neg h7] at h
          by_cases h8 : o p.toNatClampNeg = 8
          · rw [if_pos h8] at h
            by_cases hd : 0 < d
            · rw [if_pos hd] at h
              exact br_f h7 (br_t h8 (br_t hd (h)))
            · rw [if_neg hd] at h
              exact br_f h7 (br_t h8 (br_f hd (h)))
          · rw [if_neg h8] at h
            exact br_f h7 (br_f h8 (h))
  · rw [if_neg he] at h
    exact br_f he (h)
theorem sd_hr (c d p e : Int32) (o : Nat → Int32) : sd_halt c d p e o = 0 ∨ sd_halt c d p e o = 4 ∨ sd_halt c d p e o = 5 ∨ sd_halt c d p e o = 6 := by
  unfold sd_halt
  repeat' split
  all_goals simp
/-- where nothing halts it: the place is in the program, and the stack serves -/
theorem sd_h0 {c d p e : Int32} {o : Nat → Int32} (h : sd_halt c d p e o = 0) : e = 0 ∧ ¬ p < 0 ∧ ¬ c ≤ p ∧ (o p.toNatClampNeg = 7 → d < 6) ∧ (o p.toNatClampNeg = 8 → 0 < d) := by
  unfold sd_halt at h
  by_cases he : e = 0
  · rw [if_pos he] at h
    by_cases h0 : p < 0
    · rw [if_pos h0] at h
      exact absurd h (by decide)
    · rw [if_neg h0] at h
      by_cases h1 : c ≤ p
      · rw [if_pos h1] at h
        exact absurd h (by decide)
      · rw [if_neg h1] at h
        refine ⟨he, h0, h1, fun h7 => ?_, fun h8 => ?_⟩
        · rw [if_pos h7] at h
          by_cases hd : d < 6
          · exact hd
          · rw [if_neg hd] at h
            exact absurd h (by decide)
        · have h7 : ¬ o p.toNatClampNeg = 7 := by rw [h8]; decide
          rw [if_neg h7, if_pos h8] at h
          by_cases hd : 0 < d
          · exact hd
          · rw [if_neg hd] at h
            exact absurd h (by decide)
  · rw [if_neg he] at h
    exact absurd h (by decide)
/-- whether X's aim is reached -/
def sd_z (a g t d p : Int32) : Int32 :=
  if a = 1 then 1
  else if a = 2 then (if d = t then (if p = g then 1 else 0) else 0)
  else if a = 3 then (if t ≤ d then 0 else 1)
  else if a = 4 then (if p = g then 1 else 0) else 0
theorem sd_zX {c b d p s e w : Int32} {o fa fb rg mm bk : Nat → Int32} {post : Int32 → Prop} {a g t : Int32} (ha : a = 0 ∨ a = 1 ∨ a = 2 ∨ a = 3 ∨ a = 4) (h : post (sd_z a g t d p)) : wpX_isReached post (c, b, d, p, s, e, w, o, fa, fb, rg, mm, bk) a g t := by
  rcases ha with rfl | rfl | rfl | rfl | rfl
  · exact br_f (by decide) (br_f (by decide) (br_t rfl (h)))
  · exact br_f (by decide) (br_f (by decide) (br_f (by decide) (br_t rfl (h))))
  · have e2 : sd_z 2 g t d p = if d = t then (if p = g then 1 else 0) else 0 := rfl
    rw [e2] at h
    refine br_f (by decide) (br_f (by decide) (br_f (by decide) (br_f (by decide) (br_t rfl (?_)))))
    by_cases h1 : d = t
    · rw [if_pos h1] at h
      by_cases h2 : p = g
      · rw [if_pos h2] at h
        exact br_t h1 (br_t h2 (h))
      · rw [if_neg h2] at h
        exact br_t h1 (br_f h2 (h))
    · rw [if_neg h1] at h
      exact br_f h1 (h)
  · have e2 : sd_z 3 g t d p = if t ≤ d then 0 else 1 := rfl
    rw [e2] at h
    refine br_f (by decide) (br_f (by decide) (br_f (by decide) (br_f (by decide) (br_f (by decide) (br_t rfl (?_))))))
    by_cases h1 : t ≤ d
    · rw [if_pos h1] at h
      exact br_t h1 (h)
    · rw [if_neg h1] at h
      exact br_f h1 (h)
  · have e2 : sd_z 4 g t d p = if p = g then 1 else 0 := rfl
    rw [e2] at h
    refine br_f (by decide) (br_f (by decide) (br_f (by decide) (br_f (by decide) (br_f (by decide) (br_f (by decide) (br_t rfl (?_)))))))
    by_cases h1 : p = g
    · rw [if_pos h1] at h
      exact br_t h1 (h)
    · rw [if_neg h1] at h
      exact br_f h1 (h)
/-- what was found after n instructions -/
def sd_fnd (n : Nat) (hl z br : Int32) : Int32 :=
  if hl = 0 then
    if n = 0 then 0
    else if z = 0 then (if br = 0 then (if n < 150 then 0 else 3) else 2) else 1
  else hl
/-- the breakpoint's bit at the place -/
def sd_br (b p : Int32) : Int32 := (b >>> (p &&& 31)) &&& 1
theorem sd_n150 : nI 150 = 150 := by decide +kernel
theorem sd_aX {c b d p s e w : Int32} {o fa fb rg mm bk : Nat → Int32} {post : Int32 → Prop} {a g t : Int32} {n : Nat} (hc : c.toInt ≤ 20) (ha : a = 0 ∨ a = 1 ∨ a = 2 ∨ a = 3 ∨ a = 4) (hn : 0 < n) (hn2 : n ≤ 150) (h : post (sd_fnd n (sd_halt c d p e o) (sd_z a g t d p) (sd_br b p))) : wpX_reasonAfter post (c, b, d, p, s, e, w, o, fa, fb, rg, mm, bk) (nI n) a g t := by
  unfold wpX_reasonAfter
  refine sd_hX hc ?_
  unfold sd_fnd at h
  by_cases hh : sd_halt c d p e o = 0
  · rw [if_pos hh, if_neg (by omega)] at h
    refine br_t hh (sd_zX ha ?_)
    by_cases hz : sd_z a g t d p = 0
    · rw [if_pos hz] at h
      refine br_t hz ?_
      by_cases hb : sd_br b p = 0
      · rw [if_pos hb] at h
        refine br_t hb (br_t rfl (?_))
        by_cases hl : n < 150
        · rw [if_pos hl] at h
          exact br_t (by rw [← sd_n150]; exact nI_lt hl (by decide)) h
        · rw [if_neg hl] at h
          exact br_f (by rw [← sd_n150]; exact nI_nlt (by omega) (by omega)) h
      · rw [if_neg hb] at h
        exact br_f hb (br_f (by decide) (h))
    · rw [if_neg hz] at h
      exact br_f hz h
  · rw [if_neg hh] at h
    exact br_f hh h
end
section
/-- one instruction carried out alike on both sides, whatever reasons they keep -/
def sd_C (c b d p s e : Int32) (o fa fb rg mm bk : Nat → Int32) : Prop := ∃ (d' p' e' : Int32) (rg' mm' bk' : Nat → Int32), (0 ≤ d'.toInt ∧ d'.toInt ≤ 6) ∧
  (∀ (w : Int32) (post : SX → Prop), post (c, b, d', p', s + 1, e', w, o, fa, fb, rg', mm', bk') → wpX_carryOut post (c, b, d, p, s, e, w, o, fa, fb, rg, mm, bk)) ∧
  (∀ (w : Int32) (post : SY → Prop), post (c, b, d', p', s + 1, e', w, o, fa, fb, rg', mm', bk') → wpY_carryOut post (c, b, d, p, s, e, w, o, fa, fb, rg, mm, bk) (o p.toNatClampNeg) (fa p.toNatClampNeg &&& 3) (fb p.toNatClampNeg))
theorem sd_c0 (c b d p s e : Int32) (o fa fb rg mm bk : Nat → Int32) (hp : vp_in p 20) (hd : 0 ≤ d.toInt ∧ d.toInt ≤ 6) (ha : 0 ≤ (fa p.toNatClampNeg).toInt ∧ (fa p.toNatClampNeg).toInt ≤ 3) (hk : o p.toNatClampNeg = 0) : sd_C c b d p s e o fa fb rg mm bk := by
  have hm : (fa p.toNatClampNeg) &&& 3 = (fa p.toNatClampNeg) := sd_and3 ha.1 ha.2
  have hA : vp_in (fa p.toNatClampNeg) 4 := sd_in ha.1 (by omega)
  refine ⟨d, p + 1, e, upd rg (fa p.toNatClampNeg).toNatClampNeg (fb p.toNatClampNeg), mm, bk, hd, fun w post h => ?_, fun w post h => ?_⟩
  · refine ⟨hp, fun x1 e1 => ⟨hp, fun x2 e2 => ⟨hp, fun x3 e3 => fun y ey => ?_⟩⟩⟩
    obtain rfl := e1.trans hk
    subst e2 e3 ey
    refine br_f (by decide) (br_f (by decide) (br_f (by decide) (br_t rfl (⟨hA, fun r er q eq => ?_⟩))))
    subst er eq
    exact h
  · rw [hk, hm]
    intro y ey x4 e4
    subst ey e4
    refine br_t rfl (⟨hA, fun r er => ?_⟩)
    subst er
    exact h
theorem sd_c1 (c b d p s e : Int32) (o fa fb rg mm bk : Nat → Int32) (hp : vp_in p 20) (hd : 0 ≤ d.toInt ∧ d.toInt ≤ 6) (ha : 0 ≤ (fa p.toNatClampNeg).toInt ∧ (fa p.toNatClampNeg).toInt ≤ 3) (hk : o p.toNatClampNeg = 1) (hb : 0 ≤ (fb p.toNatClampNeg).toInt ∧ (fb p.toNatClampNeg).toInt ≤ 3) : sd_C c b d p s e o fa fb rg mm bk := by
  have hm : (fa p.toNatClampNeg) &&& 3 = (fa p.toNatClampNeg) := sd_and3 ha.1 ha.2
  have hA : vp_in (fa p.toNatClampNeg) 4 := sd_in ha.1 (by omega)
  have hB : vp_in (fb p.toNatClampNeg) 4 := sd_in hb.1 (by omega)
  have hbm : (fb p.toNatClampNeg) &&& 3 = (fb p.toNatClampNeg) := sd_and3 hb.1 hb.2
  refine ⟨d, p + 1, e, upd rg (fa p.toNatClampNeg).toNatClampNeg (rg (fa p.toNatClampNeg).toNatClampNeg + rg (fb p.toNatClampNeg).toNatClampNeg), mm, bk, hd, fun w post h => ?_, fun w post h => ?_⟩
  · refine ⟨hp, fun x1 e1 => ⟨hp, fun x2 e2 => ⟨hp, fun x3 e3 => fun y ey => ?_⟩⟩⟩
    obtain rfl := e1.trans hk
    subst e2 e3 ey
    refine br_f (by decide) (br_f (by decide) (br_f (by decide) (br_f (by decide) (br_t rfl (⟨hA, hB, hA, fun r er q eq => ?_⟩)))))
    subst er eq
    exact h
  · rw [hk, hm]
    intro y ey x4 e4
    subst ey e4
    refine br_f (by decide) (br_t rfl (⟨hA, (by rw [hbm]; exact hB), hA, fun r er => ?_⟩))
    subst er
    rw [hbm]
    exact h
theorem sd_c2 (c b d p s e : Int32) (o fa fb rg mm bk : Nat → Int32) (hp : vp_in p 20) (hd : 0 ≤ d.toInt ∧ d.toInt ≤ 6) (ha : 0 ≤ (fa p.toNatClampNeg).toInt ∧ (fa p.toNatClampNeg).toInt ≤ 3) (hk : o p.toNatClampNeg = 2) (hb : 0 ≤ (fb p.toNatClampNeg).toInt ∧ (fb p.toNatClampNeg).toInt ≤ 3) : sd_C c b d p s e o fa fb rg mm bk := by
  have hm : (fa p.toNatClampNeg) &&& 3 = (fa p.toNatClampNeg) := sd_and3 ha.1 ha.2
  have hA : vp_in (fa p.toNatClampNeg) 4 := sd_in ha.1 (by omega)
  have hB : vp_in (fb p.toNatClampNeg) 4 := sd_in hb.1 (by omega)
  have hbm : (fb p.toNatClampNeg) &&& 3 = (fb p.toNatClampNeg) := sd_and3 hb.1 hb.2
  refine ⟨d, p + 1, e, upd rg (fa p.toNatClampNeg).toNatClampNeg (rg (fa p.toNatClampNeg).toNatClampNeg - rg (fb p.toNatClampNeg).toNatClampNeg), mm, bk, hd, fun w post h => ?_, fun w post h => ?_⟩
  · refine ⟨hp, fun x1 e1 => ⟨hp, fun x2 e2 => ⟨hp, fun x3 e3 => fun y ey => ?_⟩⟩⟩
    obtain rfl := e1.trans hk
    subst e2 e3 ey
    refine br_f (by decide) (br_f (by decide) (br_f (by decide) (br_f (by decide) (br_f (by decide) (br_t rfl (⟨hA, hB, hA, fun r er q eq => ?_⟩))))))
    subst er eq
    exact h
  · rw [hk, hm]
    intro y ey x4 e4
    subst ey e4
    refine br_f (by decide) (br_f (by decide) (br_t rfl (⟨hA, (by rw [hbm]; exact hB), hA, fun r er => ?_⟩)))
    subst er
    rw [hbm]
    exact h
theorem sd_c3 (c b d p s e : Int32) (o fa fb rg mm bk : Nat → Int32) (hp : vp_in p 20) (hd : 0 ≤ d.toInt ∧ d.toInt ≤ 6) (ha : 0 ≤ (fa p.toNatClampNeg).toInt ∧ (fa p.toNatClampNeg).toInt ≤ 3) (hk : o p.toNatClampNeg = 3) (hb : 0 ≤ (fb p.toNatClampNeg).toInt ∧ (fb p.toNatClampNeg).toInt ≤ 3) : sd_C c b d p s e o fa fb rg mm bk := by
  have hm : (fa p.toNatClampNeg) &&& 3 = (fa p.toNatClampNeg) := sd_and3 ha.1 ha.2
  have hA : vp_in (fa p.toNatClampNeg) 4 := sd_in ha.1 (by omega)
  have hB : vp_in (fb p.toNatClampNeg) 4 := sd_in hb.1 (by omega)
  have hbm : (fb p.toNatClampNeg) &&& 3 = (fb p.toNatClampNeg) := sd_and3 hb.1 hb.2
  refine ⟨d, p + 1, e, upd rg (fa p.toNatClampNeg).toNatClampNeg (mm (rg (fb p.toNatClampNeg).toNatClampNeg &&& 7).toNatClampNeg), mm, bk, hd, fun w post h => ?_, fun w post h => ?_⟩
  · refine ⟨hp, fun x1 e1 => ⟨hp, fun x2 e2 => ⟨hp, fun x3 e3 => fun y ey => ?_⟩⟩⟩
    obtain rfl := e1.trans hk
    subst e2 e3 ey
    refine br_f (by decide) (br_f (by decide) (br_f (by decide) (br_f (by decide) (br_f (by decide) (br_f (by decide) (br_t rfl (⟨hB, sd_and7 _, hA, fun r er q eq => ?_⟩)))))))
    subst er eq
    exact h
  · rw [hk, hm]
    intro y ey x4 e4
    subst ey e4
    refine br_f (by decide) (br_f (by decide) (br_f (by decide) (br_t rfl (⟨(by rw [hbm]; exact hB), sd_and7 _, hA, fun r er => ?_⟩))))
    subst er
    rw [hbm]
    exact h
theorem sd_c4 (c b d p s e : Int32) (o fa fb rg mm bk : Nat → Int32) (hp : vp_in p 20) (hd : 0 ≤ d.toInt ∧ d.toInt ≤ 6) (ha : 0 ≤ (fa p.toNatClampNeg).toInt ∧ (fa p.toNatClampNeg).toInt ≤ 3) (hk : o p.toNatClampNeg = 4) (hb : 0 ≤ (fb p.toNatClampNeg).toInt ∧ (fb p.toNatClampNeg).toInt ≤ 3) : sd_C c b d p s e o fa fb rg mm bk := by
  have hm : (fa p.toNatClampNeg) &&& 3 = (fa p.toNatClampNeg) := sd_and3 ha.1 ha.2
  have hA : vp_in (fa p.toNatClampNeg) 4 := sd_in ha.1 (by omega)
  have hB : vp_in (fb p.toNatClampNeg) 4 := sd_in hb.1 (by omega)
  have hbm : (fb p.toNatClampNeg) &&& 3 = (fb p.toNatClampNeg) := sd_and3 hb.1 hb.2
  refine ⟨d, p + 1, e, rg, upd mm (rg (fb p.toNatClampNeg).toNatClampNeg &&& 7).toNatClampNeg (rg (fa p.toNatClampNeg).toNatClampNeg), bk, hd, fun w post h => ?_, fun w post h => ?_⟩
  · refine ⟨hp, fun x1 e1 => ⟨hp, fun x2 e2 => ⟨hp, fun x3 e3 => fun y ey => ?_⟩⟩⟩
    obtain rfl := e1.trans hk
    subst e2 e3 ey
    refine br_f (by decide) (br_f (by decide) (br_f (by decide) (br_f (by decide) (br_f (by decide) (br_f (by decide) (br_f (by decide) (br_t rfl (⟨hB, hA, sd_and7 _, fun r er q eq => ?_⟩))))))))
    subst er eq
    exact h
  · rw [hk, hm]
    intro y ey x4 e4
    subst ey e4
    refine br_f (by decide) (br_f (by decide) (br_f (by decide) (br_f (by decide) (br_t rfl (⟨(by rw [hbm]; exact hB), hA, sd_and7 _, fun r er => ?_⟩)))))
    subst er
    rw [hbm]
    exact h
theorem sd_c5 (c b d p s e : Int32) (o fa fb rg mm bk : Nat → Int32) (hp : vp_in p 20) (hd : 0 ≤ d.toInt ∧ d.toInt ≤ 6) (ha : 0 ≤ (fa p.toNatClampNeg).toInt ∧ (fa p.toNatClampNeg).toInt ≤ 3) (hk : o p.toNatClampNeg = 5) : sd_C c b d p s e o fa fb rg mm bk := by
  have hm : (fa p.toNatClampNeg) &&& 3 = (fa p.toNatClampNeg) := sd_and3 ha.1 ha.2
  have hA : vp_in (fa p.toNatClampNeg) 4 := sd_in ha.1 (by omega)
  by_cases hz : rg (fa p.toNatClampNeg).toNatClampNeg = 0
  · refine ⟨d, (fb p.toNatClampNeg), e, rg, mm, bk, hd, fun w post h => ?_, fun w post h => ?_⟩
    · refine ⟨hp, fun x1 e1 => ⟨hp, fun x2 e2 => ⟨hp, fun x3 e3 => fun y ey => ?_⟩⟩⟩
      obtain rfl := e1.trans hk
      subst e2 e3 ey
      exact br_t (by decide) (br_f (by decide) (br_f (by decide) (br_f (by decide) (br_t rfl (⟨hA, br_t hz h⟩)))))
    · rw [hk, hm]
      intro y ey x4 e4
      subst ey e4
      exact br_f (by decide) (br_f (by decide) (br_f (by decide) (br_f (by decide) (br_f (by decide) (br_t rfl (⟨hA, br_t hz h⟩))))))
  · refine ⟨d, p + 1, e, rg, mm, bk, hd, fun w post h => ?_, fun w post h => ?_⟩
    · refine ⟨hp, fun x1 e1 => ⟨hp, fun x2 e2 => ⟨hp, fun x3 e3 => fun y ey => ?_⟩⟩⟩
      obtain rfl := e1.trans hk
      subst e2 e3 ey
      exact br_t (by decide) (br_f (by decide) (br_f (by decide) (br_f (by decide) (br_t rfl (⟨hA, br_f hz h⟩)))))
    · rw [hk, hm]
      intro y ey x4 e4
      subst ey e4
      exact br_f (by decide) (br_f (by decide) (br_f (by decide) (br_f (by decide) (br_f (by decide) (br_t rfl (⟨hA, br_f hz h⟩))))))
theorem sd_c6 (c b d p s e : Int32) (o fa fb rg mm bk : Nat → Int32) (hp : vp_in p 20) (hd : 0 ≤ d.toInt ∧ d.toInt ≤ 6) (ha : 0 ≤ (fa p.toNatClampNeg).toInt ∧ (fa p.toNatClampNeg).toInt ≤ 3) (hk : o p.toNatClampNeg = 6) : sd_C c b d p s e o fa fb rg mm bk := by
  have hm : (fa p.toNatClampNeg) &&& 3 = (fa p.toNatClampNeg) := sd_and3 ha.1 ha.2
  have hA : vp_in (fa p.toNatClampNeg) 4 := sd_in ha.1 (by omega)
  refine ⟨d, (fb p.toNatClampNeg), e, rg, mm, bk, hd, fun w post h => ?_, fun w post h => ?_⟩
  · refine ⟨hp, fun x1 e1 => ⟨hp, fun x2 e2 => ⟨hp, fun x3 e3 => fun y ey => ?_⟩⟩⟩
    obtain rfl := e1.trans hk
    subst e2 e3 ey
    exact br_t (by decide) (br_f (by decide) (br_f (by decide) (br_f (by decide) (br_f (by decide) (br_t rfl (h))))))
  · rw [hk, hm]
    intro y ey x4 e4
    subst ey e4
    exact br_f (by decide) (br_f (by decide) (br_f (by decide) (br_f (by decide) (br_f (by decide) (br_f (by decide) (br_t rfl (h)))))))
theorem sd_c7 (c b d p s e : Int32) (o fa fb rg mm bk : Nat → Int32) (hp : vp_in p 20) (hd : 0 ≤ d.toInt ∧ d.toInt ≤ 6) (ha : 0 ≤ (fa p.toNatClampNeg).toInt ∧ (fa p.toNatClampNeg).toInt ≤ 3) (hk : o p.toNatClampNeg = 7) (h7 : d < 6) : sd_C c b d p s e o fa fb rg mm bk := by
  have hm : (fa p.toNatClampNeg) &&& 3 = (fa p.toNatClampNeg) := sd_and3 ha.1 ha.2
  have hA : vp_in (fa p.toNatClampNeg) 4 := sd_in ha.1 (by omega)
  have h6 : d.toInt < 6 := by have := sd_xlt h7; rw [sd_t6] at this; exact this
  have hi : vp_in d 6 := sd_in hd.1 h6
  have g0 : ¬ d < 0 := sd_nlt (by rw [sd_t0]; exact hd.1)
  have g6 : ¬ (6 : Int32) ≤ d := sd_nle (by rw [sd_t6]; exact h6)
  have hs := sd_inc hd.1 (by omega)
  refine ⟨d + 1, (fb p.toNatClampNeg), e, rg, mm, upd bk d.toNatClampNeg (p + 1), ⟨by omega, by omega⟩, fun w post h => ?_, fun w post h => ?_⟩
  · refine ⟨hp, fun x1 e1 => ⟨hp, fun x2 e2 => ⟨hp, fun x3 e3 => fun y ey => ?_⟩⟩⟩
    obtain rfl := e1.trans hk
    subst e2 e3 ey
    refine br_t (by decide) (br_f (by decide) (br_f (by decide) (br_f (by decide) (br_f (by decide) (br_f (by decide) (br_t rfl (⟨hi, fun r er q eq => ?_⟩)))))))
    subst er eq
    exact h
  · rw [hk, hm]
    intro y ey x4 e4
    subst ey e4
    refine br_f (by decide) (br_f (by decide) (br_f (by decide) (br_f (by decide) (br_f (by decide) (br_f (by decide) (br_f (by decide) (br_t rfl (br_f g0 (br_f g6 (⟨hi, fun r er q eq => ?_⟩))))))))))
    subst er eq
    exact h
theorem sd_c8 (c b d p s e : Int32) (o fa fb rg mm bk : Nat → Int32) (hp : vp_in p 20) (hd : 0 ≤ d.toInt ∧ d.toInt ≤ 6) (ha : 0 ≤ (fa p.toNatClampNeg).toInt ∧ (fa p.toNatClampNeg).toInt ≤ 3) (hk : o p.toNatClampNeg = 8) (h8 : 0 < d) : sd_C c b d p s e o fa fb rg mm bk := by
  have hm : (fa p.toNatClampNeg) &&& 3 = (fa p.toNatClampNeg) := sd_and3 ha.1 ha.2
  have hA : vp_in (fa p.toNatClampNeg) 4 := sd_in ha.1 (by omega)
  have h0 : 0 < d.toInt := by have := sd_xlt h8; rw [sd_t0] at this; exact this
  have hs := sd_dec hd.1
  have hi : vp_in (d - 1) 6 := sd_in (by omega) (by omega)
  have g0 : ¬ d ≤ 0 := sd_nle (by rw [sd_t0]; exact h0)
  have g6 : ¬ (6 : Int32) < d := sd_nlt (by rw [sd_t6]; exact hd.2)
  refine ⟨d - 1, bk (d - 1).toNatClampNeg, e, rg, mm, bk, ⟨by omega, by omega⟩, fun w post h => ?_, fun w post h => ?_⟩
  · refine ⟨hp, fun x1 e1 => ⟨hp, fun x2 e2 => ⟨hp, fun x3 e3 => fun y ey => ?_⟩⟩⟩
    obtain rfl := e1.trans hk
    subst e2 e3 ey
    refine br_t (by decide) (br_f (by decide) (br_f (by decide) (br_f (by decide) (br_f (by decide) (br_f (by decide) (br_f (by decide) (br_t rfl (fun r er => ?_))))))))
    subst er
    exact ⟨hi, h⟩
  · rw [hk, hm]
    intro y ey x4 e4
    subst ey e4
    refine br_f (by decide) (br_f (by decide) (br_f (by decide) (br_f (by decide) (br_f (by decide) (br_f (by decide) (br_f (by decide) (br_f (by decide) (br_t rfl (br_f g0 (br_f g6 (fun r er => ?_)))))))))))
    subst er
    refine ⟨hi, fun q eq => ?_⟩
    subst eq
    exact h
theorem sd_c9 (c b d p s e : Int32) (o fa fb rg mm bk : Nat → Int32) (hp : vp_in p 20) (hd : 0 ≤ d.toInt ∧ d.toInt ≤ 6) (ha : 0 ≤ (fa p.toNatClampNeg).toInt ∧ (fa p.toNatClampNeg).toInt ≤ 3) (hk : o p.toNatClampNeg = 9) : sd_C c b d p s e o fa fb rg mm bk := by
  have hm : (fa p.toNatClampNeg) &&& 3 = (fa p.toNatClampNeg) := sd_and3 ha.1 ha.2
  have hA : vp_in (fa p.toNatClampNeg) 4 := sd_in ha.1 (by omega)
  refine ⟨d, rg (fa p.toNatClampNeg).toNatClampNeg, e, rg, mm, bk, hd, fun w post h => ?_, fun w post h => ?_⟩
  · refine ⟨hp, fun x1 e1 => ⟨hp, fun x2 e2 => ⟨hp, fun x3 e3 => fun y ey => ?_⟩⟩⟩
    obtain rfl := e1.trans hk
    subst e2 e3 ey
    exact br_t (by decide) (br_f (by decide) (br_f (by decide) (br_f (by decide) (br_f (by decide) (br_f (by decide) (br_f (by decide) (br_f (by decide) (br_t rfl (⟨hA, h⟩)))))))))
  · rw [hk, hm]
    intro y ey x4 e4
    subst ey e4
    refine br_f (by decide) (br_f (by decide) (br_f (by decide) (br_f (by decide) (br_f (by decide) (br_f (by decide) (br_f (by decide) (br_f (by decide) (br_f (by decide) (br_t rfl (⟨hA, fun q eq => ?_⟩))))))))))
    subst eq
    exact h
theorem sd_c10 (c b d p s e : Int32) (o fa fb rg mm bk : Nat → Int32) (hp : vp_in p 20) (hd : 0 ≤ d.toInt ∧ d.toInt ≤ 6) (ha : 0 ≤ (fa p.toNatClampNeg).toInt ∧ (fa p.toNatClampNeg).toInt ≤ 3) (hk : o p.toNatClampNeg = 10) : sd_C c b d p s e o fa fb rg mm bk := by
  have hm : (fa p.toNatClampNeg) &&& 3 = (fa p.toNatClampNeg) := sd_and3 ha.1 ha.2
  have hA : vp_in (fa p.toNatClampNeg) 4 := sd_in ha.1 (by omega)
  refine ⟨d, p, 1, rg, mm, bk, hd, fun w post h => ?_, fun w post h => ?_⟩
  · refine ⟨hp, fun x1 e1 => ⟨hp, fun x2 e2 => ⟨hp, fun x3 e3 => fun y ey => ?_⟩⟩⟩
    obtain rfl := e1.trans hk
    subst e2 e3 ey
    exact br_t (by decide) (br_t rfl (h))
  · rw [hk, hm]
    intro y ey x4 e4
    subst ey e4
    exact br_f (by decide) (br_f (by decide) (br_f (by decide) (br_f (by decide) (br_f (by decide) (br_f (by decide) (br_f (by decide) (br_f (by decide) (br_f (by decide) (br_f (by decide) (br_t rfl (h)))))))))))
theorem sd_carry {c d p e : Int32} {o fa fb : Nat → Int32} (b s : Int32) (rg mm bk : Nat → Int32) (hc : c.toInt ≤ 20) (hd : 0 ≤ d.toInt ∧ d.toInt ≤ 6) (hP : sd_P o fa fb) (hh : sd_halt c d p e o = 0) : sd_C c b d p s e o fa fb rg mm bk := by
  obtain ⟨_, h0, h1, h7, h8⟩ := sd_h0 hh
  have hp := sd_inP hc h0 h1
  obtain ⟨ho, ha, hb⟩ := hP p.toNatClampNeg
  rcases sd_ops ho.1 ho.2 with hk | hk | hk | hk | hk | hk | hk | hk | hk | hk | hk
  · exact sd_c0 c b d p s e o fa fb rg mm bk hp hd ha hk
  · exact sd_c1 c b d p s e o fa fb rg mm bk hp hd ha hk (hb (by rw [hk, sd_t1]; decide) (by rw [hk, sd_t1]; decide))
  · exact sd_c2 c b d p s e o fa fb rg mm bk hp hd ha hk (hb (by rw [hk, sd_t2]; decide) (by rw [hk, sd_t2]; decide))
  · exact sd_c3 c b d p s e o fa fb rg mm bk hp hd ha hk (hb (by rw [hk, sd_t3]; decide) (by rw [hk, sd_t3]; decide))
  · exact sd_c4 c b d p s e o fa fb rg mm bk hp hd ha hk (hb (by rw [hk, sd_t4]; decide) (by rw [hk, sd_t4]; decide))
  · exact sd_c5 c b d p s e o fa fb rg mm bk hp hd ha hk
  · exact sd_c6 c b d p s e o fa fb rg mm bk hp hd ha hk
  · exact sd_c7 c b d p s e o fa fb rg mm bk hp hd ha hk (h7 hk)
  · exact sd_c8 c b d p s e o fa fb rg mm bk hp hd ha hk (h8 hk)
  · exact sd_c9 c b d p s e o fa fb rg mm bk hp hd ha hk
  · exact sd_c10 c b d p s e o fa fb rg mm bk hp hd ha hk
end
section
/-- whether Y's aim is reached -/
def sd_y (a g t d p : Int32) : Int32 :=
  if a = 0 then 1
  else if a = 1 then (if p = g then 1 else 0)
  else if a = 2 then (if d < t then 1 else 0)
  else if a = 3 then (if p = g then (if d = t then 1 else 0) else 0) else 0
theorem sd_dY {c b d p s e w : Int32} {o fa fb rg mm bk : Nat → Int32} {post : Int32 → SY → Prop} {a g t x5 : Int32} {n : Nat} (ha : a = 0 ∨ a = 1 ∨ a = 2 ∨ a = 3 ∨ a = 4) (h5 : ¬ 150 < x5) (h : wY_run_93 post (wY_run_24 post a g t n) a g t x5 (sd_y a g t d p) c b d p s e w o fa fb rg mm bk) : wY_run_24 post a g t (n + 1) 1 x5 c b d p s e w o fa fb rg mm bk := by
  rcases ha with rfl | rfl | rfl | rfl | rfl
  · exact br_f h5 (br_f (by decide) (br_t rfl (h)))
  · have e2 : sd_y 1 g t d p = if p = g then 1 else 0 := rfl
    rw [e2] at h
    refine br_f h5 (br_f (by decide) (br_f (by decide) (br_t rfl (?_))))
    by_cases h1 : p = g
    · rw [if_pos h1] at h
      exact br_t h1 (h)
    · rw [if_neg h1] at h
      exact br_f h1 (br_f (by decide) (br_f (by decide) (h)))
  · have e2 : sd_y 2 g t d p = if d < t then 1 else 0 := rfl
    rw [e2] at h
    refine br_f h5 (br_f (by decide) (br_f (by decide) (br_f (by decide) (br_t rfl (?_)))))
    by_cases h1 : d < t
    · rw [if_pos h1] at h
      exact br_t h1 (h)
    · rw [if_neg h1] at h
      exact br_f h1 (br_f (by decide) (h))
  · have e2 : sd_y 3 g t d p = if p = g then (if d = t then 1 else 0) else 0 := rfl
    rw [e2] at h
    refine br_f h5 (br_f (by decide) (br_f (by decide) (br_f (by decide) (br_f (by decide) (br_t rfl (?_))))))
    by_cases h1 : p = g
    · rw [if_pos h1] at h
      by_cases h2 : d = t
      · rw [if_pos h2] at h
        exact br_t h1 (br_t h2 (h))
      · rw [if_neg h2] at h
        exact br_t h1 (br_f h2 (h))
    · rw [if_neg h1] at h
      exact br_f h1 (h)
  · exact br_f h5 (br_f (by decide) (br_f (by decide) (br_f (by decide) (br_f (by decide) (br_f (by decide) (h))))))
theorem sd_93h {c b d p s e w : Int32} {o fa fb rg mm bk : Nat → Int32} {post : Int32 → SY → Prop} {J : Int32 → Int32 → Int32 → Int32 → Int32 → Int32 → Int32 → Int32 → Int32 → (Nat → Int32) → (Nat → Int32) → (Nat → Int32) → (Nat → Int32) → (Nat → Int32) → (Nat → Int32) → Prop} {a g t x5 z : Int32} (hc : c.toInt ≤ 20) (hh : ¬ sd_halt c d p e o = 0) (h : J 0 (x5 + 1) c b d p s e (sd_halt c d p e o) o fa fb rg mm bk) : wY_run_93 post J a g t x5 z c b d p s e w o fa fb rg mm bk := by
  unfold sd_halt at h hh
  by_cases he : e = 0
  · rw [if_pos he] at h hh
    by_cases h0 : p < 0
    · rw [if_pos h0] at h
      refine br_t he (br_t h0 (br_t rfl (fun y ey => ?_)))
      subst ey
      exact h
    · rw [if_neg h0] at h hh
      by_cases h1 : c ≤ p
      · rw [if_pos h1] at h
        refine br_t he (br_f h0 (br_t h1 (br_t rfl (fun y ey => ?_))))
        subst ey
        exact h
      · rw [if_neg h1] at h hh
        have hi := sd_inP hc h0 h1
        by_cases h7 : o p.toNatClampNeg = 7
        · rw [if_pos h7] at h hh
          by_cases hd : d < 6
          · exact absurd (if_pos hd) hh
          · rw [if_neg hd] at h
            have h6 : (6 : Int32) ≤ d := sd_le (sd_xnlt hd)
            refine br_t he (br_f h0 (br_f h1 (br_f (by decide) (br_f h0 (br_f h1 (br_f (by decide) (⟨hi, br_t h7 (br_t h6 (br_f (by decide) (fun y ey => ?_)))⟩)))))))
            subst ey
            exact h
        · rw [if_neg h7] at h hh
          by_cases h8 : o p.toNatClampNeg = 8
          · rw [if_pos h8] at h hh
            by_cases hd : 0 < d
            · exact absurd (if_pos hd) hh
            · rw [if_neg hd] at h
              refine br_t he (br_f h0 (br_f h1 (br_f (by decide) (br_f h0 (br_f h1 (br_f (by decide) (⟨hi, br_f h7 (br_t h8 (br_f hd (br_f (by decide) (fun y ey => ?_))))⟩)))))))
              subst ey
              exact h
          · exact absurd (if_neg h8) hh
  · rw [if_neg he] at h
    refine br_f he (fun y ey => ?_)
    subst ey
    exact h
theorem sd_93g {c b d p s e w : Int32} {o fa fb rg mm bk : Nat → Int32} {post : Int32 → SY → Prop} {J : Int32 → Int32 → Int32 → Int32 → Int32 → Int32 → Int32 → Int32 → Int32 → (Nat → Int32) → (Nat → Int32) → (Nat → Int32) → (Nat → Int32) → (Nat → Int32) → (Nat → Int32) → Prop} {a g t x5 z : Int32} (hc : c.toInt ≤ 20) (hh : sd_halt c d p e o = 0) (h : (x5 ≤ 0 → wY_run_162 post J a g t 0 x5 c b d p s e w o fa fb rg mm bk) ∧ (¬ x5 ≤ 0 → (z = 0 → wY_run_162 post J a g t 0 x5 c b d p s e w o fa fb rg mm bk) ∧ (¬ z = 0 → J 0 (x5 + 1) c b d p s e 1 o fa fb rg mm bk))) : wY_run_93 post J a g t x5 z c b d p s e w o fa fb rg mm bk := by
  obtain ⟨he, h0, h1, h7, h8⟩ := sd_h0 hh
  have hi := sd_inP hc h0 h1
  have g : (x5 ≤ 0 → wY_run_162 post J a g t 0 x5 c b d p s e w o fa fb rg mm bk) ∧ (¬ x5 ≤ 0 → (z = 0 → wY_run_162 post J a g t 0 x5 c b d p s e w o fa fb rg mm bk) ∧ (¬ z = 0 → ∀ y : Int32, y = x5 + 1 → J 0 y c b d p s e 1 o fa fb rg mm bk)) := ⟨h.1, fun q => ⟨(h.2 q).1, fun q2 y ey => by rw [ey]; exact (h.2 q).2 q2⟩⟩
  by_cases c7 : o p.toNatClampNeg = 7
  · have h6 : ¬ (6 : Int32) ≤ d := sd_nle (sd_xlt (h7 c7))
    have c8 : ¬ o p.toNatClampNeg = 8 := by rw [c7]; decide
    exact br_t he (br_f h0 (br_f h1 (br_f (by decide) (br_f h0 (br_f h1 (br_f (by decide) (⟨hi, br_t c7 (br_f h6 (br_f c8 (br_t rfl (g))))⟩)))))))
  · by_cases c8 : o p.toNatClampNeg = 8
    · exact br_t he (br_f h0 (br_f h1 (br_f (by decide) (br_f h0 (br_f h1 (br_f (by decide) (⟨hi, br_f c7 (br_t c8 (br_t (h8 c8) (br_t rfl (g))))⟩)))))))
    · exact br_t he (br_f h0 (br_f h1 (br_f (by decide) (br_f h0 (br_f h1 (br_f (by decide) (⟨hi, br_f c7 (br_f c8 (br_t rfl (g)))⟩)))))))
theorem sd_n0 {n : Nat} (h : 0 < n) (h2 : n ≤ 150) : ¬ nI n ≤ 0 := nI_nle h (by omega)
theorem sd_p20 {c p : Int32} (hc : c.toInt ≤ 20) (h1 : ¬ c ≤ p) : ¬ (20 : Int32) ≤ p := sd_nle (by have := sd_xnle h1; rw [sd_t20]; omega)
/-- Y's turn where it ends the run -/
theorem sd_Y1 {c b d p s e : Int32} {o fa fb rg mm bk : Nat → Int32} {post : Int32 → SY → Prop} {J : Int32 → Int32 → Int32 → Int32 → Int32 → Int32 → Int32 → Int32 → Int32 → (Nat → Int32) → (Nat → Int32) → (Nat → Int32) → (Nat → Int32) → (Nat → Int32) → (Nat → Int32) → Prop} {a g t z : Int32} {n : Nat} (hn : n ≤ 150) (hc : c.toInt ≤ 20) (hf : ¬ sd_fnd n (sd_halt c d p e o) z (sd_br b p) = 0) (h : J 0 (nI (n + 1)) c b d p s e (sd_fnd n (sd_halt c d p e o) z (sd_br b p)) o fa fb rg mm bk) : wY_run_93 post J a g t (nI n) z c b d p s e 3 o fa fb rg mm bk := by
  unfold sd_fnd at h hf
  by_cases hh : sd_halt c d p e o = 0
  · rw [if_pos hh] at h hf
    by_cases n0 : n = 0
    · exact absurd (if_pos n0) hf
    · rw [if_neg n0] at h hf
      have x0 := sd_n0 (n := n) (by omega) hn
      by_cases hz : z = 0
      · rw [if_pos hz] at h hf
        obtain ⟨he, h0, h1, h7, h8⟩ := sd_h0 hh
        have hp := sd_p20 hc h1
        refine sd_93g hc hh (br_f x0 (br_t hz (br_f x0 (br_f hp ?_))))
        by_cases hb : sd_br b p = 0
        · rw [if_pos hb] at h hf
          have hb1 : ¬ ((b >>> (p &&& 31)) &&& 1) = 1 := fun q => absurd (q.symm.trans hb) (by decide)
          by_cases hl : n < 150
          · exact absurd (if_pos hl) hf
          · rw [if_neg hl] at h
            have hx : (150 : Int32) ≤ nI n := by rw [← sd_n150]; exact nI_le (by omega) (by omega)
            refine br_f hb1 (br_t hx fun y ey => ?_)
            rw [ey, nI_1]
            exact h
        · rw [if_neg hb] at h
          have hb1 : ((b >>> (p &&& 31)) &&& 1) = 1 := (sd_and1 (b >>> (p &&& 31))).resolve_left hb
          refine br_t hb1 fun y ey => ?_
          rw [ey, nI_1]
          exact h
      · rw [if_neg hz] at h
        refine sd_93g hc hh (br_f x0 (br_f hz ?_))
        rw [nI_1]
        exact h
  · rw [if_neg hh] at h
    refine sd_93h hc hh ?_
    rw [nI_1]
    exact h
theorem sd_f0 {n : Nat} {hl z br : Int32} (hn : n ≤ 150) (hf : sd_fnd n hl z br = 0) : hl = 0 ∧ n < 150 ∧ (n = 0 ∨ z = 0 ∧ br = 0) := by
  unfold sd_fnd at hf
  by_cases hh : hl = 0
  · rw [if_pos hh] at hf
    by_cases n0 : n = 0
    · exact ⟨hh, by omega, Or.inl n0⟩
    · rw [if_neg n0] at hf
      by_cases hz : z = 0
      · rw [if_pos hz] at hf
        by_cases hb : br = 0
        · rw [if_pos hb] at hf
          by_cases hl : n < 150
          · exact ⟨hh, hl, Or.inr ⟨hz, hb⟩⟩
          · rw [if_neg hl] at hf
            exact absurd hf (by decide)
        · rw [if_neg hb] at hf
          exact absurd hf (by decide)
      · rw [if_neg hz] at hf
        exact absurd hf (by decide)
  · rw [if_neg hh] at hf
    exact absurd hf hh
theorem sd_fr {n : Nat} {hl z br : Int32} (h : hl = 0 ∨ hl = 4 ∨ hl = 5 ∨ hl = 6) : 0 ≤ (sd_fnd n hl z br).toInt ∧ (sd_fnd n hl z br).toInt ≤ 6 := by
  unfold sd_fnd
  by_cases hh : hl = 0
  · rw [if_pos hh]
    repeat' split
    all_goals decide
  · rw [if_neg hh]
    rcases h with rfl | rfl | rfl | rfl <;> decide
/-- Y's turn where it carries an instruction out -/
theorem sd_Y0 {c b d p s e : Int32} {o fa fb rg mm bk : Nat → Int32} {d' p' s' e' : Int32} {rg' mm' bk' : Nat → Int32} {post : Int32 → SY → Prop} {J : Int32 → Int32 → Int32 → Int32 → Int32 → Int32 → Int32 → Int32 → Int32 → (Nat → Int32) → (Nat → Int32) → (Nat → Int32) → (Nat → Int32) → (Nat → Int32) → (Nat → Int32) → Prop} {a g t z : Int32} {n : Nat} (hn : n ≤ 150) (hc : c.toInt ≤ 20) (hf : sd_fnd n (sd_halt c d p e o) z (sd_br b p) = 0)
    (hC : ∀ (w : Int32) (post : SY → Prop), post (c, b, d', p', s', e', w, o, fa, fb, rg', mm', bk') → wpY_carryOut post (c, b, d, p, s, e, w, o, fa, fb, rg, mm, bk) (o p.toNatClampNeg) (fa p.toNatClampNeg &&& 3) (fb p.toNatClampNeg))
    (h : J 1 (nI (n + 1)) c b d' p' s' e' 3 o fa fb rg' mm' bk') : wY_run_93 post J a g t (nI n) z c b d p s e 3 o fa fb rg mm bk := by
  obtain ⟨hh, hl, hq⟩ := sd_f0 hn hf
  obtain ⟨he, h0, h1, h7, h8⟩ := sd_h0 hh
  have hi := sd_inP hc h0 h1
  have hx : ¬ (150 : Int32) ≤ nI n := by rw [← sd_n150]; exact nI_ge hl (by decide)
  have K : wY_run_199 post J a g t 0 (nI n) c b d p s e 3 o fa fb rg mm bk := br_f hx ⟨hi, hi, hi, hC 3 _ (fun y ey => by rw [ey, nI_1]; exact h)⟩
  by_cases n0 : n = 0
  · have x0 : nI n ≤ 0 := by rw [n0, nI_0]; decide
    exact sd_93g hc hh (br_t x0 (br_t x0 K))
  · have x0 := sd_n0 (n := n) (by omega) hn
    obtain ⟨hz, hb⟩ := hq.resolve_left n0
    have hb1 : ¬ ((b >>> (p &&& 31)) &&& 1) = 1 := fun q => absurd (q.symm.trans hb) (by decide)
    exact sd_93g hc hh (br_f x0 (br_t hz (br_f x0 (br_f (sd_p20 hc h1) (br_f hb1 K)))))
end
section
/-- the two loops, side by side: both end, with one answer, in one state -/
theorem sd_loop (c b : Int32) (o fa fb : Nat → Int32) (ax gx tx ay gy ty : Int32) (hax : (ax = 0 ∨ ax = 1 ∨ ax = 2 ∨ ax = 3 ∨ ax = 4)) (hay : (ay = 0 ∨ ay = 1 ∨ ay = 2 ∨ ay = 3 ∨ ay = 4)) (hz : ∀ d p : Int32, sd_z ax gx tx d p = sd_y ay gy ty d p) (hc : c.toInt ≤ 20) (hP : sd_P o fa fb) :
    ∀ m n : Nat, n + m = 150 → ∀ (d p s e w : Int32) (rg mm bk : Nat → Int32), (0 ≤ d.toInt ∧ d.toInt ≤ 6) → ∃ (r d' p' s' e' : Int32) (rg' mm' bk' : Nat → Int32), (0 ≤ d'.toInt ∧ d'.toInt ≤ 6) ∧ (0 ≤ r.toInt ∧ r.toInt ≤ 6) ∧
      (∀ post : Int32 → SX → Prop, post r (c, b, d', p', s', e', r, o, fa, fb, rg', mm', bk') → wX_run_30 post ax gx tx (m + 1 + 1) (sd_fnd n (sd_halt c d p e o) (sd_z ax gx tx d p) (sd_br b p)) (nI (n + 1)) c b d p s e w o fa fb rg mm bk) ∧
      (∀ post : Int32 → SY → Prop, post r (c, b, d', p', s', e', r, o, fa, fb, rg', mm', bk') → wY_run_24 post ay gy ty (m + 1 + 1) 1 (nI n) c b d p s e 3 o fa fb rg mm bk) := by
  intro m
  induction m with
  | zero =>
    intro n hn d p s e w rg mm bk hd
    have h5 : ¬ (150 : Int32) < nI n := by rw [← sd_n150]; exact nI_nlt (by omega) (by decide)
    have hf : ¬ sd_fnd n (sd_halt c d p e o) (sd_z ax gx tx d p) (sd_br b p) = 0 := fun q => by have := (sd_f0 (by omega) q).2.1; omega
    refine ⟨sd_fnd n (sd_halt c d p e o) (sd_z ax gx tx d p) (sd_br b p), d, p, s, e, rg, mm, bk, hd, sd_fr (sd_hr c d p e o), fun post h => br_f hf h, fun post h => sd_dY hay h5 (sd_Y1 (by omega) hc (by rw [← hz]; exact hf) ?_)⟩
    rw [← hz]
    exact br_c (fun _ => h) (fun _ => br_t rfl h)
  | succ m ih =>
    intro n hn d p s e w rg mm bk hd
    have h5 : ¬ (150 : Int32) < nI n := by rw [← sd_n150]; exact nI_nlt (by omega) (by decide)
    by_cases hf : sd_fnd n (sd_halt c d p e o) (sd_z ax gx tx d p) (sd_br b p) = 0
    · obtain ⟨hh, hl, _⟩ := sd_f0 (by omega) hf
      obtain ⟨d1, p1, e1, rg1, mm1, bk1, hd1, CX, CY⟩ := sd_carry b s rg mm bk hc hd hP hh
      obtain ⟨r, d', p', s', e', rg', mm', bk', hd', hr, hX, hY⟩ := ih (n + 1) (by omega) d1 p1 (s + 1) e1 w rg1 mm1 bk1 hd1
      have h6 : ¬ (150 : Int32) < nI (n + 1) := by rw [← sd_n150]; exact nI_nlt (by omega) (by decide)
      refine ⟨r, d', p', s', e', rg', mm', bk', hd', hr, fun post h => br_t hf (br_f h6 (CX w _ ?_)), fun post h => sd_dY hay h5 (sd_Y0 (by omega) hc (by rw [← hz]; exact hf) CY (hY post h))⟩
      refine sd_aX hc hax (by omega) (by omega) fun y ey => ?_
      rw [ey, nI_1]
      exact hX post h
    · refine ⟨sd_fnd n (sd_halt c d p e o) (sd_z ax gx tx d p) (sd_br b p), d, p, s, e, rg, mm, bk, hd, sd_fr (sd_hr c d p e o), fun post h => br_f hf h, fun post h => sd_dY hay h5 (sd_Y1 (by omega) hc (by rw [← hz]; exact hf) ?_)⟩
      rw [← hz]
      exact br_c (fun _ => h) (fun _ => br_t rfl h)
theorem sd_fn0 (hl z br : Int32) : sd_fnd 0 hl z br = hl := by
  unfold sd_fnd
  by_cases h : hl = 0
  · rw [if_pos h, if_pos rfl, h]
  · rw [if_neg h]
theorem sd_n1 : nI (0 + 1) = 1 := by decide +kernel
theorem sd_456 {w : Int32} (h : 4 ≤ w.toInt) (h2 : w.toInt ≤ 6) : w = 4 ∨ w = 5 ∨ w = 6 := by
  have h : w.toInt = 4 ∨ w.toInt = 5 ∨ w.toInt = 6 := by omega
  rcases h with h | h | h
  · exact Or.inl (sd_of _ _ (h.trans sd_t4.symm))
  · exact Or.inr (Or.inl (sd_of _ _ (h.trans sd_t5.symm)))
  · exact Or.inr (Or.inr (sd_of _ _ (h.trans sd_t6.symm)))
/-- a command on a target that can't go on any more -/
theorem sd_over {c b d p s e w : Int32} {o fa fb rg mm bk : Nat → Int32} {a g a' g' t' : Int32} (h : 4 ≤ w.toInt) (h2 : w.toInt ≤ 6) :
    (∀ post : Int32 → SX → Prop, post w (c, b, d, p, s, e, w, o, fa, fb, rg, mm, bk) → wpX_run post (c, b, d, p, s, e, w, o, fa, fb, rg, mm, bk) a g) ∧ (∀ post : Int32 → SY → Prop, post w (c, b, d, p, s, e, w, o, fa, fb, rg, mm, bk) → wpY_run post (c, b, d, p, s, e, w, o, fa, fb, rg, mm, bk) a' g' t') := by
  have h4 : ¬ w < 4 := sd_nlt (by rw [sd_t4]; exact h)
  refine ⟨fun post q => ?_, fun post q => br_f h4 q⟩
  rcases sd_456 h h2 with rfl | rfl | rfl
  · exact br_f (by decide) (br_t rfl (br_f (by decide) (q)))
  · exact br_f (by decide) (br_f (by decide) (br_t rfl (br_f (by decide) (q))))
  · exact br_t rfl (br_f (by decide) (q))
theorem sd_ne {w k : Int32} (h : w.toInt ≠ k.toInt) : ¬ w = k := fun q => h (by rw [q])
/-- a command of one aim -/
theorem sd_run {c b d p s e w : Int32} {o fa fb rg mm bk : Nat → Int32} (ax gx ay gy ty : Int32) (hax : (ax = 0 ∨ ax = 1 ∨ ax = 2 ∨ ax = 3 ∨ ax = 4)) (hay : (ay = 0 ∨ ay = 1 ∨ ay = 2 ∨ ay = 3 ∨ ay = 4)) (hz : ∀ d' p' : Int32, sd_z ax gx d d' p' = sd_y ay gy ty d' p') (I : sd_Inv (c, b, d, p, s, e, w, o, fa, fb, rg, mm, bk)) :
    ∃ (r : Int32) (u' : SX), sd_Inv u' ∧ (∀ post : Int32 → SX → Prop, post r u' → wpX_run post (c, b, d, p, s, e, w, o, fa, fb, rg, mm, bk) ax gx) ∧ (∀ post : Int32 → SY → Prop, post r u' → wpY_run post (c, b, d, p, s, e, w, o, fa, fb, rg, mm, bk) ay gy ty) := by
  have I0 := I
  obtain ⟨hc, hd, hw, hP⟩ := I
  by_cases h : 4 ≤ w.toInt
  · obtain ⟨hX, hY⟩ := sd_over (c := c) (b := b) (d := d) (p := p) (s := s) (e := e) (w := w) (o := o) (fa := fa) (fb := fb) (rg := rg) (mm := mm) (bk := bk) (a := ax) (g := gx) (a' := ay) (g' := gy) (t' := ty) h hw.2
    exact ⟨w, (c, b, d, p, s, e, w, o, fa, fb, rg, mm, bk), I0, hX, hY⟩
  · obtain ⟨r, d', p', s', e', rg', mm', bk', hd', hr, hX, hY⟩ := sd_loop c b o fa fb ax gx d ay gy ty hax hay hz hc.2 hP 150 0 rfl d p s e w rg mm bk hd
    rw [sd_fn0, sd_n1] at hX
    rw [nI_0] at hY
    have h4 : w < 4 := sd_lt (by rw [sd_t4]; omega)
    have n4 : ¬ w = 4 := sd_ne (by rw [sd_t4]; omega)
    have n5 : ¬ w = 5 := sd_ne (by rw [sd_t5]; omega)
    have n6 : ¬ w = 6 := sd_ne (by rw [sd_t6]; omega)
    exact ⟨r, (c, b, d', p', s', e', r, o, fa, fb, rg', mm', bk'), ⟨hc, hd', hr, hP⟩, fun post q => br_f n6 (br_f n4 (br_f n5 (br_t rfl (sd_hX hc.2 ⟨_, hX post q⟩)))), fun post q => br_t h4 ⟨_, hY post q⟩⟩
/-- a command that carries nothing out: any aims -/
theorem sd_runH {c b d p s e w : Int32} {o fa fb rg mm bk : Nat → Int32} (ax gx ay gy ty : Int32) (hay : (ay = 0 ∨ ay = 1 ∨ ay = 2 ∨ ay = 3 ∨ ay = 4)) (hh : ¬ sd_halt c d p e o = 0) (I : sd_Inv (c, b, d, p, s, e, w, o, fa, fb, rg, mm, bk)) :
    ∃ (r : Int32) (u' : SX), sd_Inv u' ∧ (∀ post : Int32 → SX → Prop, post r u' → wpX_run post (c, b, d, p, s, e, w, o, fa, fb, rg, mm, bk) ax gx) ∧ (∀ post : Int32 → SY → Prop, post r u' → wpY_run post (c, b, d, p, s, e, w, o, fa, fb, rg, mm, bk) ay gy ty) := by
  have I0 := I
  obtain ⟨hc, hd, hw, hP⟩ := I
  by_cases h : 4 ≤ w.toInt
  · obtain ⟨hX, hY⟩ := sd_over (c := c) (b := b) (d := d) (p := p) (s := s) (e := e) (w := w) (o := o) (fa := fa) (fb := fb) (rg := rg) (mm := mm) (bk := bk) (a := ax) (g := gx) (a' := ay) (g' := gy) (t' := ty) h hw.2
    exact ⟨w, (c, b, d, p, s, e, w, o, fa, fb, rg, mm, bk), I0, hX, hY⟩
  · have h4 : w < 4 := sd_lt (by rw [sd_t4]; omega)
    have n4 : ¬ w = 4 := sd_ne (by rw [sd_t4]; omega)
    have n5 : ¬ w = 5 := sd_ne (by rw [sd_t5]; omega)
    have n6 : ¬ w = 6 := sd_ne (by rw [sd_t6]; omega)
    have hr : 0 ≤ (sd_halt c d p e o).toInt ∧ (sd_halt c d p e o).toInt ≤ 6 := by
      rcases sd_hr c d p e o with q | q | q | q <;> rw [q] <;> decide
    refine ⟨sd_halt c d p e o, (c, b, d, p, s, e, sd_halt c d p e o, o, fa, fb, rg, mm, bk), ⟨hc, hd, hr, hP⟩, fun post q => br_f n6 (br_f n4 (br_f n5 (br_t rfl (sd_hX hc.2 ⟨1, br_f hh q⟩)))), fun post q => br_t h4 ⟨2, sd_dY hay (by decide) (sd_93h hc.2 hh ?_)⟩⟩
    exact br_c (fun _ => q) (fun _ => br_t rfl q)
theorem sd_z10 (g t t' d p : Int32) : sd_z 1 g t d p = sd_y 0 g t' d p := by
  unfold sd_z sd_y
  rw [if_pos rfl, if_pos rfl]
theorem sd_z04 (g t t' d p : Int32) : sd_z 0 g t d p = sd_y 4 g t' d p := by
  unfold sd_z sd_y
  rw [if_neg (show ¬ ((0 : Int32) = 1) from by decide), if_neg (show ¬ ((0 : Int32) = 2) from by decide), if_neg (show ¬ ((0 : Int32) = 3) from by decide), if_neg (show ¬ ((0 : Int32) = 4) from by decide), if_neg (show ¬ ((4 : Int32) = 0) from by decide), if_neg (show ¬ ((4 : Int32) = 1) from by decide), if_neg (show ¬ ((4 : Int32) = 2) from by decide), if_neg (show ¬ ((4 : Int32) = 3) from by decide)]
theorem sd_z41 (g t t' d p : Int32) : sd_z 4 g t d p = sd_y 1 g t' d p := by
  unfold sd_z sd_y
  rw [if_neg (show ¬ ((4 : Int32) = 1) from by decide), if_neg (show ¬ ((4 : Int32) = 2) from by decide), if_neg (show ¬ ((4 : Int32) = 3) from by decide), if_pos rfl, if_neg (show ¬ ((1 : Int32) = 0) from by decide), if_pos rfl]
theorem sd_z32 (g t d p : Int32) : sd_z 3 g t d p = sd_y 2 g t d p := by
  show (if t ≤ d then (0 : Int32) else 1) = if d < t then 1 else 0
  by_cases h : t ≤ d
  · rw [if_pos h, if_neg (sd_nlt (sd_xle h))]
  · rw [if_neg h, if_pos (sd_lt (sd_xnle h))]
theorem sd_z23 (g t d p : Int32) : sd_z 2 g t d p = sd_y 3 g t d p := by
  show (if d = t then (if p = g then (1 : Int32) else 0) else 0) = if p = g then (if d = t then 1 else 0) else 0
  by_cases h : d = t
  · rw [if_pos h, if_pos h]
  · rw [if_neg h, if_neg h, ite_self]
end
section
theorem i_vc_step {k : Nat} {u : SX} {v : SY} (I : i_Rel k u v) (hk : k + 4 ≤ 2048) : wpX_step (fun r u' => wpY_step (fun r' v' => r' = r ∧ i_Rel (k + 4) u' v') v) u := by
  obtain ⟨rfl, I⟩ := I
  obtain ⟨c, b, d, p, s, e, w, o, fa, fb, rg, mm, bk⟩ := v
  obtain ⟨r, ⟨c', b', d', p', s', e', w', o', fa', fb', rg', mm', bk'⟩, J, hX, hY⟩ := sd_run 1 0 0 0 0 (by decide) (by decide) (fun _ _ => sd_z10 _ _ _ _ _) I
  unfold wpX_step wpY_step
  exact hX _ (hY _ ⟨rfl, rfl, J⟩)
theorem i_vc_stepOut {k : Nat} {u : SX} {v : SY} (I : i_Rel k u v) (hk : k + 4 ≤ 2048) : wpX_stepOut (fun r u' => wpY_stepOut (fun r' v' => r' = r ∧ i_Rel (k + 4) u' v') v) u := by
  obtain ⟨rfl, I⟩ := I
  obtain ⟨c, b, d, p, s, e, w, o, fa, fb, rg, mm, bk⟩ := v
  obtain ⟨r, ⟨c', b', d', p', s', e', w', o', fa', fb', rg', mm', bk'⟩, J, hX, hY⟩ := sd_run 3 0 2 0 d (by decide) (by decide) (fun _ _ => sd_z32 _ _ _ _) I
  unfold wpX_stepOut wpY_stepOut
  exact hX _ (hY _ ⟨rfl, rfl, J⟩)
theorem i_vc_go {k : Nat} {u : SX} {v : SY} (I : i_Rel k u v) (hk : k + 4 ≤ 2048) : wpX_go (fun r u' => wpY_go (fun r' v' => r' = r ∧ i_Rel (k + 4) u' v') v) u := by
  obtain ⟨rfl, I⟩ := I
  obtain ⟨c, b, d, p, s, e, w, o, fa, fb, rg, mm, bk⟩ := v
  obtain ⟨r, ⟨c', b', d', p', s', e', w', o', fa', fb', rg', mm', bk'⟩, J, hX, hY⟩ := sd_run 0 0 4 0 0 (by decide) (by decide) (fun _ _ => sd_z04 _ _ _ _ _) I
  unfold wpX_go wpY_go
  exact hX _ (hY _ ⟨rfl, rfl, J⟩)
theorem i_vc_goTo {k : Nat} {u : SX} {v : SY} (I : i_Rel k u v) (hk : k + 4 ≤ 2048) (v1 : Int32) : wpX_goTo (fun r u' => wpY_goTo (fun r' v' => r' = r ∧ i_Rel (k + 4) u' v') v v1) u v1 := by
  obtain ⟨rfl, I⟩ := I
  obtain ⟨c, b, d, p, s, e, w, o, fa, fb, rg, mm, bk⟩ := v
  obtain ⟨r, ⟨c', b', d', p', s', e', w', o', fa', fb', rg', mm', bk'⟩, J, hX, hY⟩ := sd_run 4 v1 1 v1 0 (by decide) (by decide) (fun _ _ => sd_z41 _ _ _ _ _) I
  unfold wpX_goTo wpY_goTo
  exact hX _ (hY _ ⟨rfl, rfl, J⟩)
theorem i_vc_stepOver {k : Nat} {u : SX} {v : SY} (I : i_Rel k u v) (hk : k + 4 ≤ 2048) : wpX_stepOver (fun r u' => wpY_stepOver (fun r' v' => r' = r ∧ i_Rel (k + 4) u' v') v) u := by
  obtain ⟨rfl, I⟩ := I
  obtain ⟨c, b, d, p, s, e, w, o, fa, fb, rg, mm, bk⟩ := v
  have hc : c.toInt ≤ 20 := I.1.2
  unfold wpX_stepOver wpY_stepOver
  obtain ⟨r, ⟨c', b', d', p', s', e', w', o', fa', fb', rg', mm', bk'⟩, J, hX, hY⟩ := sd_run 1 0 0 0 0 (by decide) (by decide) (fun _ _ => sd_z10 _ _ _ _ _) I
  by_cases h0 : p < 0
  · exact br_t h0 (br_t rfl (br_t rfl (hX _ (br_t h0 (br_t rfl (br_f (by decide) (br_t rfl (hY _ ⟨rfl, rfl, J⟩))))))))
  · by_cases h1 : c ≤ p
    · exact br_f h0 (br_t h1 (br_t rfl (br_t rfl (hX _ (br_f h0 (br_t h1 (br_t rfl (br_f (by decide) (br_t rfl (hY _ ⟨rfl, rfl, J⟩))))))))))
    · have hi := sd_inP hc h0 h1
      by_cases h7 : o p.toNatClampNeg = 7
      · by_cases hd : d < 6
        · have h6 : ¬ (6 : Int32) ≤ d := sd_nle (sd_xlt hd)
          obtain ⟨r, ⟨c', b', d', p', s', e', w', o', fa', fb', rg', mm', bk'⟩, J, hX, hY⟩ := sd_run 2 (p + 1) 3 (p + 1) d (by decide) (by decide) (fun _ _ => sd_z23 _ _ _ _) I
          exact br_f h0 (br_f h1 (br_f (by decide) (⟨hi, br_t h7 (br_f (by decide) (hX _ (br_f h0 (br_f h1 (br_f (by decide) (⟨hi, br_t h7 (br_f h6 (br_f (by decide) (hY _ ⟨rfl, rfl, J⟩)))⟩))))))⟩)))
        · have h6 : (6 : Int32) ≤ d := sd_le (sd_xnlt hd)
          have hh : ¬ sd_halt c d p e o = 0 := fun q => hd ((sd_h0 q).2.2.2.1 h7)
          obtain ⟨r, ⟨c', b', d', p', s', e', w', o', fa', fb', rg', mm', bk'⟩, J, hX, hY⟩ := sd_runH 2 (p + 1) 0 0 0 (by decide) hh I
          exact br_f h0 (br_f h1 (br_f (by decide) (⟨hi, br_t h7 (br_f (by decide) (hX _ (br_f h0 (br_f h1 (br_f (by decide) (⟨hi, br_t h7 (br_t h6 (br_t rfl (hY _ ⟨rfl, rfl, J⟩)))⟩))))))⟩)))
      · exact br_f h0 (br_f h1 (br_f (by decide) (⟨hi, br_f h7 (br_t rfl (hX _ (br_f h0 (br_f h1 (br_f (by decide) (⟨hi, br_f h7 (br_t rfl (hY _ ⟨rfl, rfl, J⟩))⟩))))))⟩)))
end

section
/-! rows pasted from kit/rows: pk_tn, pk_and, pk_andE, pk_andIn -/
theorem pk_tn {n : Nat} (h : n < 2 ^ 32) : (nI n).toBitVec.toNat = n := Nat.mod_eq_of_lt h
theorem pk_and (x : Int32) {m : Int32} (k : Nat) (hm : m.toBitVec.toNat = 2 ^ k - 1) : x &&& m = nI (x.toBitVec.toNat % 2 ^ k) := by
  apply Int32.toBitVec_inj.mp
  apply BitVec.eq_of_toNat_eq
  rw [Int32.toBitVec_and, BitVec.toNat_and, hm, Nat.and_two_pow_sub_one_eq_mod]
  show _ = (BitVec.ofNat 32 _).toNat
  rw [BitVec.toNat_ofNat]
  exact (Nat.mod_eq_of_lt (Nat.lt_of_le_of_lt (Nat.mod_le _ _) x.toBitVec.isLt)).symm
theorem pk_andE (x : Int32) {m : Int32} (k : Nat) (hm : m.toBitVec.toNat = 2 ^ k - 1) : ∃ j : Nat, j < 2 ^ k ∧ x &&& m = nI j := ⟨_, Nat.mod_lt _ (Nat.two_pow_pos k), pk_and x k hm⟩
theorem pk_andIn (x : Int32) {m : Int32} (k : Nat) (hm : m.toBitVec.toNat = 2 ^ k - 1) (hk : k ≤ 30) : vp_in (x &&& m) (2 ^ k) := by
  obtain ⟨j, hj, e⟩ := pk_andE x k hm
  rw [e]
  exact vp_in_nI hj (Nat.lt_of_le_of_lt (Nat.pow_le_pow_right (by decide) hk) (by decide))
/-! the literals as integers -/
theorem sd_t0 : (0 : Int32).toInt = 0 := by decide
theorem sd_t1 : (1 : Int32).toInt = 1 := by decide
theorem sd_t3 : (3 : Int32).toInt = 3 := by decide
theorem sd_t4 : (4 : Int32).toInt = 4 := by decide
theorem sd_t5 : (5 : Int32).toInt = 5 := by decide
theorem sd_t6 : (6 : Int32).toInt = 6 := by decide
theorem sd_t7 : (7 : Int32).toInt = 7 := by decide
theorem sd_t8 : (8 : Int32).toInt = 8 := by decide
theorem sd_t9 : (9 : Int32).toInt = 9 := by decide
theorem sd_t10 : (10 : Int32).toInt = 10 := by decide
theorem sd_t15 : (15 : Int32).toInt = 15 := by decide
theorem sd_t16 : (16 : Int32).toInt = 16 := by decide
theorem sd_t19 : (19 : Int32).toInt = 19 := by decide
theorem sd_t20 : (20 : Int32).toInt = 20 := by decide
theorem sd_t22 : (22 : Int32).toInt = 22 := by decide
theorem sd_t150 : (150 : Int32).toInt = 150 := by decide
theorem sd_t2 : (2 : Int32).toInt = 2 := by decide
/-! small facts -/
theorem sd_of (x : Int32) (k : Int32) (h : x.toInt = k.toInt) : x = k := Int32.toInt_inj.mp h
theorem sd_lt {x y : Int32} (h : x.toInt < y.toInt) : x < y := Int32.lt_iff_toInt_lt.mpr h
theorem sd_nlt {x y : Int32} (h : y.toInt ≤ x.toInt) : ¬ x < y := fun z => by
  have := Int32.lt_iff_toInt_lt.mp z
  omega
theorem sd_le {x y : Int32} (h : x.toInt ≤ y.toInt) : x ≤ y := Int32.le_iff_toInt_le.mpr h
theorem sd_nle {x y : Int32} (h : y.toInt < x.toInt) : ¬ x ≤ y := fun z => by
  have := Int32.le_iff_toInt_le.mp z
  omega
theorem sd_xlt {x y : Int32} (h : x < y) : x.toInt < y.toInt := Int32.lt_iff_toInt_lt.mp h
theorem sd_xle {x y : Int32} (h : x ≤ y) : x.toInt ≤ y.toInt := Int32.le_iff_toInt_le.mp h
theorem sd_xnlt {x y : Int32} (h : ¬ x < y) : y.toInt ≤ x.toInt := Int.not_lt.mp fun z => h (sd_lt z)
theorem sd_xnle {x y : Int32} (h : ¬ x ≤ y) : y.toInt < x.toInt := Int.not_le.mp fun z => h (sd_le z)
theorem sd_in {x : Int32} {n : Nat} (h0 : 0 ≤ x.toInt) (h1 : x.toInt < n) : vp_in x n := vp_in_iff.mpr ⟨h0, h1⟩
theorem sd_and7 (y : Int32) : vp_in (y &&& 7) 8 := pk_andIn y 3 (by decide) (by decide)
theorem sd_and1 (y : Int32) : y &&& 1 = 0 ∨ y &&& 1 = 1 := by
  obtain ⟨j, hj, e⟩ := pk_andE y (m := 1) 1 (by decide)
  rw [e]
  have : j = 0 ∨ j = 1 := by omega
  rcases this with rfl | rfl
  · exact Or.inl (by decide)
  · exact Or.inr (by decide)
theorem sd_four {x : Int32} (h0 : 0 ≤ x.toInt) (h1 : x.toInt ≤ 3) : x = 0 ∨ x = 1 ∨ x = 2 ∨ x = 3 := by
  have h : x.toInt = 0 ∨ x.toInt = 1 ∨ x.toInt = 2 ∨ x.toInt = 3 := by omega
  rcases h with h | h | h | h
  · exact Or.inl (sd_of _ _ (h.trans sd_t0.symm))
  · exact Or.inr (Or.inl (sd_of _ _ (h.trans sd_t1.symm)))
  · exact Or.inr (Or.inr (Or.inl (sd_of _ _ (h.trans sd_t2.symm))))
  · exact Or.inr (Or.inr (Or.inr (sd_of _ _ (h.trans sd_t3.symm))))
theorem sd_and3 {x : Int32} (h0 : 0 ≤ x.toInt) (h1 : x.toInt ≤ 3) : x &&& 3 = x := by
  rcases sd_four h0 h1 with rfl | rfl | rfl | rfl <;> decide
theorem sd_ops {x : Int32} (h0 : 0 ≤ x.toInt) (h1 : x.toInt ≤ 10) : x = 0 ∨ x = 1 ∨ x = 2 ∨ x = 3 ∨ x = 4 ∨ x = 5 ∨ x = 6 ∨ x = 7 ∨ x = 8 ∨ x = 9 ∨ x = 10 := by
  by_cases h : x.toInt ≤ 3
  · rcases sd_four h0 h with h | h | h | h
    · exact Or.inl h
    · exact Or.inr (Or.inl h)
    · exact Or.inr (Or.inr (Or.inl h))
    · exact Or.inr (Or.inr (Or.inr (Or.inl h)))
  · have h : x.toInt = 4 ∨ x.toInt = 5 ∨ x.toInt = 6 ∨ x.toInt = 7 ∨ x.toInt = 8 ∨ x.toInt = 9 ∨ x.toInt = 10 := by omega
    refine Or.inr (Or.inr (Or.inr (Or.inr ?_)))
    rcases h with h | h | h | h | h | h | h
    · exact Or.inl (sd_of _ _ (h.trans sd_t4.symm))
    · exact Or.inr (Or.inl (sd_of _ _ (h.trans sd_t5.symm)))
    · exact Or.inr (Or.inr (Or.inl (sd_of _ _ (h.trans sd_t6.symm))))
    · exact Or.inr (Or.inr (Or.inr (Or.inl (sd_of _ _ (h.trans sd_t7.symm)))))
    · exact Or.inr (Or.inr (Or.inr (Or.inr (Or.inl (sd_of _ _ (h.trans sd_t8.symm))))))
    · exact Or.inr (Or.inr (Or.inr (Or.inr (Or.inr (Or.inl (sd_of _ _ (h.trans sd_t9.symm)))))))
    · exact Or.inr (Or.inr (Or.inr (Or.inr (Or.inr (Or.inr (sd_of _ _ (h.trans sd_t10.symm)))))))
theorem sd_inc {x : Int32} (h0 : 0 ≤ x.toInt) (h1 : x.toInt ≤ 100) : (x + 1).toInt = x.toInt + 1 := by
  rw [Int32.toInt_add, sd_t1]
  exact Int.bmod_eq_of_le (by omega) (by omega)
theorem sd_dec {x : Int32} (h0 : 0 ≤ x.toInt) : (x - 1).toInt = x.toInt - 1 := by
  have := Int32.toInt_lt x
  rw [Int32.toInt_sub, sd_t1]
  exact Int.bmod_eq_of_le (by omega) (by omega)
theorem sd_s8 {x : Int32} (h0 : 0 ≤ x.toInt) : (x - 8).toInt = x.toInt - 8 := by
  have := Int32.toInt_lt x
  rw [Int32.toInt_sub, sd_t8]
  exact Int.bmod_eq_of_le (by omega) (by omega)
theorem sd_s16 {x : Int32} (h0 : 0 ≤ x.toInt) : (x - 16).toInt = x.toInt - 16 := by
  have := Int32.toInt_lt x
  rw [Int32.toInt_sub, sd_t16]
  exact Int.bmod_eq_of_le (by omega) (by omega)
theorem sd_a16 {x : Int32} (h0 : 0 ≤ x.toInt) (h1 : x.toInt ≤ 100) : (16 + x).toInt = 16 + x.toInt := by
  rw [Int32.toInt_add, sd_t16]
  exact Int.bmod_eq_of_le (by omega) (by omega)
/-! the program's cells are lawful -/
def sd_P (o fa fb : Nat → Int32) : Prop := ∀ i : Nat, (0 ≤ (o i).toInt ∧ (o i).toInt ≤ 10) ∧ (0 ≤ (fa i).toInt ∧ (fa i).toInt ≤ 3) ∧ (1 ≤ (o i).toInt → (o i).toInt ≤ 4 → 0 ≤ (fb i).toInt ∧ (fb i).toInt ≤ 3)
theorem sd_P0 : sd_P (fun _ => 0) (fun _ => 0) (fun _ => 0) := fun i => by
  show (0 ≤ (0 : Int32).toInt ∧ (0 : Int32).toInt ≤ 10) ∧ (0 ≤ (0 : Int32).toInt ∧ (0 : Int32).toInt ≤ 3) ∧ (1 ≤ (0 : Int32).toInt → (0 : Int32).toInt ≤ 4 → 0 ≤ (0 : Int32).toInt ∧ (0 : Int32).toInt ≤ 3)
  rw [sd_t0]
  omega
theorem sd_Pu {o fa fb : Nat → Int32} (h : sd_P o fa fb) (n : Nat) (x y z : Int32) (hx : 0 ≤ x.toInt ∧ x.toInt ≤ 10) (hy : 0 ≤ y.toInt ∧ y.toInt ≤ 3) (hz : 1 ≤ x.toInt → x.toInt ≤ 4 → 0 ≤ z.toInt ∧ z.toInt ≤ 3) : sd_P (upd o n x) (upd fa n y) (upd fb n z) := fun i => by
  by_cases e : i = n
  · subst e
    simp only [upd, if_true]
    exact ⟨hx, hy, hz⟩
  · simp only [upd, if_neg e]
    exact h i
/-- what both sides hold alike -/
def sd_Inv (u : SX) : Prop := match u with
  | (c, _, d, _, _, _, w, o, fa, fb, _, _, _) => (0 ≤ c.toInt ∧ c.toInt ≤ 20) ∧ (0 ≤ d.toInt ∧ d.toInt ≤ 6) ∧ (0 ≤ w.toInt ∧ w.toInt ≤ 6) ∧ sd_P o fa fb
/-- the two machines are the same, and lawful -/
def i_Rel (_ : Nat) (u : SX) (v : SY) : Prop := v = u ∧ sd_Inv u
end
section
theorem i_up {k : Nat} {u : SX} {v : SY} (h : i_Rel k u v) : i_Rel (k + 4) u v := h
theorem i_vc0 : wpX_init (fun u => wpY_init (fun v => i_Rel 0 u v)) := ⟨rfl, ⟨by decide, by decide⟩, ⟨by decide, by decide⟩, ⟨by decide, by decide⟩, sd_P0⟩
end

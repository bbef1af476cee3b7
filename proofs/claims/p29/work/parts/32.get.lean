/-! 32 L3: what the river's small methods answer -/
section
variable {n m p b r : Nat} {h : AH} {g : Nat → Nat → Int}
theorem hasGarden_E (hS : SkR h r) (hP : RP n m p b r (hI h) g) {i : Int} (h0 : 0 ≤ i) (h1 : i < n) (hn : n ≤ 4) (hg : g 0 6 = n) : f_River_hasGarden h r (iI i) = some (h, iI 1) := by
  have k0 := hS.1
  have e := hP.sc 6 (by decide) (by decide)
  rw [hg] at e
  simp (disch := omega) only [f_River_hasGarden, Nat.add_zero, true_and, and_true, gd_T, bn_S, bv_S, lq_E, wI_s, sI_s, hI_s, hT_s, hL_s, hR_s, hJ_s, hN_s, hU_s, nI_L, z_i, o_i, iI_add, iI_sub, iI_mul, iI_neg, iI_lt, iI_le, iI_eq, iI_ix, Int.toNat_natCast, k0, e, if_neg]
theorem hasRack_E (hS : SkR h r) (hP : RP n m p b r (hI h) g) {i : Int} (h0 : 0 ≤ i) (h1 : i < m) (hn : m ≤ 4) (hg : g 0 7 = m) : f_River_hasRack h r (iI i) = some (h, iI 1) := by
  have k0 := hS.1
  have e := hP.sc 7 (by decide) (by decide)
  rw [hg] at e
  simp (disch := omega) only [f_River_hasRack, Nat.add_zero, true_and, and_true, gd_T, bn_S, bv_S, lq_E, wI_s, sI_s, hI_s, hT_s, hL_s, hR_s, hJ_s, hN_s, hU_s, nI_L, z_i, o_i, iI_add, iI_sub, iI_mul, iI_neg, iI_lt, iI_le, iI_eq, iI_ix, Int.toNat_natCast, k0, e, if_neg]
theorem hasPeeler_E (hS : SkR h r) (hP : RP n m p b r (hI h) g) {i : Int} (h0 : 0 ≤ i) (h1 : i < p) (hn : p ≤ 8) (hg : g 0 8 = p) : f_River_hasPeeler h r (iI i) = some (h, iI 1) := by
  have k0 := hS.1
  have e := hP.sc 8 (by decide) (by decide)
  rw [hg] at e
  simp (disch := omega) only [f_River_hasPeeler, Nat.add_zero, true_and, and_true, gd_T, bn_S, bv_S, lq_E, wI_s, sI_s, hI_s, hT_s, hL_s, hR_s, hJ_s, hN_s, hU_s, nI_L, z_i, o_i, iI_add, iI_sub, iI_mul, iI_neg, iI_lt, iI_le, iI_eq, iI_ix, Int.toNat_natCast, k0, e, if_neg]
theorem hasBoat_E (hS : SkR h r) (hP : RP n m p b r (hI h) g) {i : Int} (h0 : 0 ≤ i) (h1 : i < b) (hn : b ≤ 4) (hg : g 0 9 = b) : f_River_hasBoat h r (iI i) = some (h, iI 1) := by
  have k0 := hS.1
  have e := hP.sc 9 (by decide) (by decide)
  rw [hg] at e
  simp (disch := omega) only [f_River_hasBoat, Nat.add_zero, true_and, and_true, gd_T, bn_S, bv_S, lq_E, wI_s, sI_s, hI_s, hT_s, hL_s, hR_s, hJ_s, hN_s, hU_s, nI_L, z_i, o_i, iI_add, iI_sub, iI_mul, iI_neg, iI_lt, iI_le, iI_eq, iI_ix, Int.toNat_natCast, k0, e, if_neg]
theorem hasGrade_E {i : Int} (h0 : 0 ≤ i) (h1 : i < 4) : f_River_hasGrade h r (iI i) = some (h, iI 1) := by
  simp (disch := omega) only [f_River_hasGrade, nI_L, z_i, o_i, iI_add, iI_sub, iI_mul, iI_neg, iI_lt, iI_le, iI_eq, iI_ix, Int.toNat_natCast, if_neg]
theorem hourOfDay_E (hS : SkR h r) (hP : RP n m p b r (hI h) g) (h1 : 0 ≤ g 0 11) (h2 : g 0 11 < 2147483648) : f_River_hourOfDay h r = some (h, iI (g 0 11 % 12)) := by
  have k0 := hS.1
  have e := hP.sc 11 (by decide) (by decide)
  simp (disch := omega) only [f_River_hourOfDay, Nat.add_zero, true_and, and_true, gd_T, bn_S, bv_S, lq_E, wI_s, sI_s, hI_s, hT_s, hL_s, hR_s, hJ_s, hN_s, hU_s, nI_L, z_i, o_i, iI_add, iI_sub, iI_mul, iI_neg, k0, e, floorMod_E]
end

/-! 32 L3: what the river's small methods answer -/
section
variable {n m p b r : Nat} {h : AH} {g : Nat → Nat → Int} (hS : SkR h r) (hP : RP n m p b r (hI h) g)
theorem hasGarden_E {i : Int} (h0 : -2147483648 ≤ i) (h1 : i < 2147483648) (hn : n ≤ 4) (hg : g 0 6 = n) : f_River_hasGarden h r (iI i) = some (h, if 0 ≤ i ∧ i < n then iI 1 else iI 0) := by
  obtain ⟨k0, -⟩ := hS
  have e := hP.sc 6 (by decide) (by decide)
  rw [hg] at e
  unfold f_River_hasGarden
  simp (disch := omega) only [gd_T, bn_S, bv_S, lq_E, wI_s, sI_s, hI_s, hT_s, hL_s, hR_s, hJ_s, hN_s, hU_s, nI_L, z_i, o_i, iI_add, iI_sub, iI_mul, iI_neg, iI_lt, iI_le, iI_eq, iI_ix, iI_ixn, k0, e]
  by_cases c1 : i < 0
  · rw [if_pos c1, if_neg (by omega)]
  · rw [if_neg c1]
    by_cases c2 : (n : Int) ≤ i
    · rw [if_pos c2, if_neg (by omega)]
    · rw [if_neg c2, if_neg (by omega), if_pos (by omega)]
end

/-! 68 L3: the sim's hour, IV: quills are sold, one by one -/
section
variable {xA n m p b no : Nat} {h0 : AH}
theorem sell_l (hM : SkM n m p b no h0) {i k : Nat} (hi : i < b) (hk : k < 4) (hB : 337 + n + m + p + i < 1000000) {told : Int} (t1 : 0 ≤ told) (t2 : told ≤ 50) (k688 : AH → Nat → Nat → Int32 → Int32 → Option AH) (a2 : Nat) (a3 a4 : Int32) :
    ∀ (e fu : Nat) (F : Nat → Nat → Int32) (gl co br go so : Int), e < fu → e ≤ 40 → 0 ≤ gl → gl + e < 1000000 → F (337 + n + m + p + i) 4 = iI (e : Int) → F (337 + n + m + p + i) 5 = iI (k : Int) → F (337 + n + m + p + i) 6 = iI br → F 320 1 = iI co → F 320 3 = iI so → F 322 k = iI told → F 324 k = iI gl → F 325 k = iI go →
    ∃ F', f_Sim_pass_l766 k688 fu (sI h0 F) 320 a2 a3 a4 (337 + n + m + p + i) = f_Sim_pass_b897 k688 (sI h0 F') 320 a2 a3 a4 ∧ F' (337 + n + m + p + i) 4 = iI 0 ∧ F' (337 + n + m + p + i) 6 = iI (br + mWorth told e gl) ∧ F' 320 1 = iI (co + mWorth told e gl) ∧ F' 320 3 = iI (so + e) ∧ F' 324 k = iI (gl + e) ∧ F' 325 k = iI (go + e) ∧
      (∀ c s, ¬ (c = 337 + n + m + p + i ∧ (s = 4 ∨ s = 6)) → ¬ (c = 320 ∧ (s = 1 ∨ s = 3)) → ¬ (c = 324 ∧ s = k) → ¬ (c = 325 ∧ s = k) → F' c s = F c s) := by
  intro e
  induction e with
  | zero =>
    intro fu F gl co br go so hf he hg hg2 e4 e5 e6 c1 c3 p1 g1 g2
    obtain ⟨fu, rfl⟩ : ∃ x, fu = x + 1 := ⟨fu - 1, by omega⟩
    refine ⟨F, ?_, e4, by rw [e6]; show _ = iI (br + 0); rw [Int.add_zero], by rw [c1]; show _ = iI (co + 0); rw [Int.add_zero], by rw [c3]; show _ = iI (so + 0); rw [Int.add_zero], by rw [g1]; show _ = iI (gl + 0); rw [Int.add_zero], by rw [g2]; show _ = iI (go + 0); rw [Int.add_zero], fun _ _ _ _ _ _ => rfl⟩
    show f_Sim_pass_b766 k688 (f_Sim_pass_l766 k688 fu) (sI h0 F) 320 a2 a3 a4 (337 + n + m + p + i) = _
    have e4' : F (337 + n + m + p + i) 4 = iI 0 := e4
    simp (disch := first | decide | omega) only [f_Sim_pass_b766, Nat.add_zero, true_and, and_true, gd_T, bn_S, bv_S, lq_E, wI_s, sI_s, hI_s, hT_s, hL_s, hR_s, hJ_s, hN_s, hU_s, nI_L, z_i, o_i, iI_add, iI_sub, iI_mul, iI_neg, iI_lt, iI_le, iI_eq, iI_ix, Int.toNat_natCast, toNat_L, if_neg, if_pos, gd_P, inb, ix, hM.bT, hM.bL, e4']
  | succ e ih =>
    intro fu F gl co br go so hf he hg hg2 e4 e5 e6 c1 c3 p1 g1 g2
    obtain ⟨fu, rfl⟩ : ∃ x, fu = x + 1 := ⟨fu - 1, by omega⟩
    have mb := mPriceAt_b t1 t2 hg
    have hprice : ∀ F : Nat → Nat → Int32, F 322 k = iI told → F 324 k = iI gl → f_Sim_priceOf (sI h0 F) 320 (iI (k : Int)) = some (sI h0 F, iI (mPriceAt told gl)) := by
      intro F p1 g1
      unfold mPriceAt
      by_cases c : 0 ≤ told - gl / 4
      · rw [Int.max_eq_right (by omega)]
        simp (disch := first | decide | omega) only [f_Sim_priceOf, Nat.add_zero, true_and, and_true, gd_T, bn_S, bv_S, lq_E, wI_s, sI_s, hI_s, hT_s, hL_s, hR_s, hJ_s, hN_s, hU_s, nI_L, z_i, o_i, iI_add, iI_sub, iI_mul, iI_neg, iI_lt, iI_le, iI_eq, iI_ix, Int.toNat_natCast, toNat_L, if_neg, if_pos, gd_P, inb, ix, hM.t, hM.r8, hM.r10, hM.tpr, hM.lpr, hM.tgl, hM.lgl, p1, g1, iI_div]
      · rw [Int.max_eq_left (by omega)]
        simp (disch := first | decide | omega) only [f_Sim_priceOf, Nat.add_zero, true_and, and_true, gd_T, bn_S, bv_S, lq_E, wI_s, sI_s, hI_s, hT_s, hL_s, hR_s, hJ_s, hN_s, hU_s, nI_L, z_i, o_i, iI_add, iI_sub, iI_mul, iI_neg, iI_lt, iI_le, iI_eq, iI_ix, Int.toNat_natCast, toNat_L, if_neg, if_pos, gd_P, inb, ix, hM.t, hM.r8, hM.r10, hM.tpr, hM.lpr, hM.tgl, hM.lgl, p1, g1, iI_div]
    generalize hpr : mPriceAt told gl = pr at *
    have f1 := hprice F p1 g1
    have f2 := hprice (up2 F (337 + n + m + p + i) 6 (iI (br + pr))) (by rw [up2_n _ _ _ _ _ _ (by omega)]; exact p1) (by rw [up2_n _ _ _ _ _ _ (by omega)]; exact g1)
    have ee : ((e + 1 : Nat) : Int) - 1 = (e : Int) := by omega
    obtain ⟨F', d1, d2, d3, d4, d5, d6, d7, d8⟩ := ih fu (up2 (up2 (up2 (up2 (up2 (up2 F (337 + n + m + p + i) 6 (iI (br + pr))) 320 1 (iI (co + pr))) 324 k (iI (gl + 1))) 325 k (iI (go + 1))) 320 3 (iI (so + 1))) (337 + n + m + p + i) 4 (iI (e : Int))) (gl + 1) (co + pr) (br + pr) (go + 1) (so + 1) (by omega) (by omega) (by omega) (by omega) (by simp (disch := omega) only [up2_n, up2_e]) (by simp (disch := omega) only [up2_n, up2_e]; exact e5) (by simp (disch := omega) only [up2_n, up2_e]) (by simp (disch := omega) only [up2_n, up2_e]) (by simp (disch := omega) only [up2_n, up2_e]) (by simp (disch := omega) only [up2_n, up2_e]; exact p1) (by simp (disch := omega) only [up2_n, up2_e]) (by simp (disch := omega) only [up2_n, up2_e])
    have ew : mWorth told (e + 1) gl = pr + mWorth told e (gl + 1) := by rw [← hpr]; rfl
    refine ⟨F', ?_, d2, by rw [d3, ew, Int.add_assoc], by rw [d4, ew, Int.add_assoc], by rw [d5]; congr 1; omega, by rw [d6]; congr 1; omega, by rw [d7]; congr 1; omega, fun c s q1 q2 q3 q4 => ?_⟩
    · refine Eq.trans ?_ d1
      show f_Sim_pass_b766 k688 (f_Sim_pass_l766 k688 fu) (sI h0 F) 320 a2 a3 a4 (337 + n + m + p + i) = _
      simp (disch := first | decide | omega) only [f_Sim_pass_b766, Nat.add_zero, true_and, and_true, gd_T, bn_S, bv_S, lq_E, wI_s, sI_s, hI_s, hT_s, hL_s, hR_s, hJ_s, hN_s, hU_s, nI_L, z_i, o_i, iI_add, iI_sub, iI_mul, iI_neg, iI_lt, iI_le, iI_eq, iI_ix, Int.toNat_natCast, toNat_L, if_neg, if_pos, gd_P, inb, ix, hM.t, hM.r10, hM.r11, hM.tgl, hM.lgl, hM.tgo, hM.lgo, hM.bT, hM.bL, e4, e5, e6, c1, c3, g1, g2, f1, f2, ee, up2_e, up2_n]
    · rw [d8 c s q1 q2 q3 q4]
      simp (disch := omega) only [up2_n]
end

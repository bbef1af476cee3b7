/-! 77 L3: the sim's hour, XI: a peeler peels -/
section
variable {xA n m p b no : Nat} {O : Nat → Nat → Int} {T C Pb : Int} {h : AH} {g : GM}
theorem simPeel2_E (hNm : Nm n m p b) (hs : Sm xA n m p b no O h g) (hv : Iv n m p b T C Pb g) {i : Nat} (hi : i < p) (hc : g (31 + i) 6 = 0 ∧ 1 ≤ mPeels g i) (k : AH → Nat → Nat → Int32 → Int32 → Option AH) :
    ∃ h', f_Sim_pass_b278 k h 320 (335 + n + m) (iI (p : Int)) (iI (i : Int)) (336 + n + m + i) (iI (mMost g i)) = f_Sim_pass_b465 k h' 320 (335 + n + m) (iI (p : Int)) (iI (i : Int)) ∧ Sm xA n m p b no O h' (mPeel1 i g) ∧ Fx xA 2 65 h h' := by
  have hM := hs.1
  have tb := hs.2.2.2.2.2.1
  unfold tp at tb
  have hN' := hNm
  unfold Nm at hN'
  have hP := hv.2.2.2.2.1 i hi
  obtain ⟨gi, hgi⟩ : ∃ gi : Nat, g (31 + i) 0 = (gi : Int) := ⟨(g (31 + i) 0).toNat, by omega⟩
  obtain ⟨K, hKi⟩ : ∃ K : Nat, g (31 + i) 1 = (K : Int) := ⟨(g (31 + i) 1).toNat, by omega⟩
  have gin : gi < n := by omega
  have hK : K < m := by omega
  have vG := hv.2.2.1 gi gin
  have vR := hv.2.2.2.1 K hK
  have fr := room_S hNm hs hv.2.2.2.1 hK
  have rb : 0 ≤ mRoom g K ∧ mRoom g K ≤ 60 := by unfold IvR1 at vR; unfold mRoom; omega
  have mob : 0 ≤ mMost g i ∧ mMost g i ≤ 9 := by unfold mMost; omega
  have ep : mPeels g i = min (mMost g i) (min (g (7 + gi) 0) (mRoom g K)) := by unfold mPeels; rw [hgi, hKi]; rfl
  have hct : 0 ≤ mct g K ∧ mct g K ≤ 60 := by unfold IvR1 at vR; omega
  obtain ⟨J, hJ⟩ : ∃ J : Nat, mct g K = (J : Int) := ⟨(mct g K).toNat, by omega⟩
  have eG := hs.ga (i := gi) (s := 0) (by omega) gin (by decide)
  have eG2 := hs.ga (i := gi) (s := 2) (by omega) gin (by decide)
  have mpb : mPeels g i ≤ 9 ∧ mPeels g i ≤ g (7 + gi) 0 := by omega
  have em : mPeel1 i g = up2 (up2 (up2 (mLay K (mPeels g i) (g (7 + gi) 2) (up2 g (7 + gi) 0 (g (7 + gi) 0 - mPeels g i))) (31 + i) 3 (g (31 + i) 3 - 1)) (31 + i) 4 (g (31 + i) 4 + mPeels g i)) 0 15 (g 0 15 + mPeels g i) := by
    unfold mPeel1
    rw [if_pos hc, hgi, hKi]
    rfl
  rw [em]
  have p0 := hs.pe (i := i) (s := 0) (by omega) hi (by decide)
  have p1 := hs.pe (i := i) (s := 1) (by omega) hi (by decide)
  have p3 := hs.pe (i := i) (s := 3) (by omega) hi (by decide)
  have p4 := hs.pe (i := i) (s := 4) (by omega) hi (by decide)
  have p6 := hs.pe (i := i) (s := 6) (by omega) hi (by decide)
  have ps := hs.peeled
  rw [hgi] at p0
  rw [hKi] at p1
  rw [hc.1] at p6
  obtain ⟨hc6, hc1⟩ := hc
  clear hP vR hv em hgi hKi
  generalize hmany : mPeels g i = many at *
  generalize mMost g i = mo at *
  obtain ⟨b1, b2, b3, b4, -⟩ := hs.2.2.1 K hK
  have jn : (mct g K).toNat = J := by omega
  rw [jn] at b2
  -- the garden
  have s1 := hs.w hNm (7 + gi) 0 (Or.inr (Or.inr (Or.inl ⟨by omega, by omega, by decide⟩))) (sA_g (by omega)) (sS_g (by omega)) (v := g (7 + gi) 0 - many) rfl (by omega)
  have mc1 : mct (up2 g (7 + gi) 0 (g (7 + gi) 0 - many)) K = (J : Int) := by rw [← hJ]; unfold mct; exact up2_n _ _ _ _ _ _ (by omega)
  obtain ⟨R', k1, k2, k3⟩ := peelC_l hNm s1 hK mc1 (by omega) k (335 + n + m) (iI (p : Int)) (iI (i : Int)) (336 + n + m + i) (iI many) J 0 FU (hR (hA (sI h (up2 (hI h) (333 + gi) 0 (iI (g (7 + gi) 0 - many)))) 109 (J + 1))) (by omega) (by unfold FU; omega) (fun c s hc => by rw [hR_a, up1_n _ _ _ _ hc]) (fun x hx => absurd hx (Nat.not_lt_zero _))
  rw [hN_s] at k1 k2 k3
  rw [hR_s] at k1 k2 k3
  have s2 := Sm.lay hNm s1 hK (by omega) mc1 (R := R') (by rw [hN_s, hR_s]; exact k2) (by rw [hN_s, hR_s]; exact k3) many (g (7 + gi) 2)
  have s3 := s2.w hNm (31 + i) 3 (Or.inr (Or.inr (Or.inr (Or.inr (Or.inl ⟨by omega, by omega, by decide⟩))))) (sA_p (by omega)) (sS_p (by omega)) (v := g (31 + i) 3 - 1) rfl (by omega)
  have s4 := s3.w hNm (31 + i) 4 (Or.inr (Or.inr (Or.inr (Or.inr (Or.inl ⟨by omega, by omega, by decide⟩))))) (sA_p (by omega)) (sS_p (by omega)) (v := g (31 + i) 4 + many) rfl (by omega)
  have s5 := s4.w hNm 0 15 (Or.inl ⟨rfl, by decide, by decide⟩) (a := 320) (k := 2) rfl rfl (v := g 0 15 + many) rfl (by omega)
  have q12 : R' 320 12 = 332 := by rw [k2 _ _ (by omega)]; exact hM.r12
  have q14 : R' 320 14 = 334 + n := by rw [k2 _ _ (by omega)]; exact hM.r14
  have qg : R' 332 gi = 333 + gi := by rw [k2 _ _ (by omega)]; exact hM.gR gin
  refine ⟨_, ?_, s5, ?_⟩
  · have k1' : f_Sim_pass_l366 k FU (hA (sI h (up2 (hI h) (333 + gi) 0 (iI (g (7 + gi) 0 - many)))) 109 (J + 1)) 320 (335 + n + m) (iI (p : Int)) (iI (i : Int)) (336 + n + m + i) (iI many) (hR h (334 + n) K) (hN h) (iI 0) = _ := k1
    clear s1 s2 s3 s4 s5 k1 k2 k3 mc1
    refine Eq.trans ?_ (Eq.trans k1' ?_)
    · clear k1'
      have hjj : (J : Int) + 1 = ((J + 1 : Nat) : Int) := rfl
      simp (disch := first | decide | omega) only [f_Sim_pass_b278, Nat.add_zero, true_and, and_true, gd_T, bn_S, bv_S, lq_E, wI_s, sI_s, hI_s, hT_s, hL_s, hR_s, hJ_s, hN_s, hU_s, nI_i, cst_L, z_i, iI_add, iI_sub, iI_lt, iI_le, iI_eq, iI_ix, Int.toNat_natCast, toNat_L, if_neg, if_pos, gd_P, inb, ix, hM.t, hM.r12, hM.r14, hM.tga, hM.lga, hM.gR, hM.gT, hM.gL, hM.tra, hM.lra, hM.pT, hM.pL, eG, p0, p1, p6, b1, b2, fr, min_E, ← ep, hjj, not_false_eq_true, up2_n]
    · clear k1'
      unfold hLay
      simp (disch := first | decide | omega) only [f_Sim_pass_b366, Nat.add_zero, true_and, and_true, gd_T, bn_S, bv_S, lq_E, wI_s, sI_s, hI_s, hT_s, hL_s, hR_s, hJ_s, hN_s, hU_s, wR_r, sR_r, sR_s, hR_r, hT_r, hL_r, hI_r, hJ_r, hN_r, hU_r, hN_a, hU_a, hT_a, hL_a, hI_a, hR_a, hJ_a, up1_e, up1_n, nI_i, cst_L, z_i, iI_add, iI_sub, iI_lt, iI_le, iI_eq, iI_ix, Int.toNat_natCast, toNat_L, if_neg, if_pos, gd_P, inb, ix, hM.t, hM.tga, hM.lga, hM.gT, hM.gL, hM.tra, hM.lra, hM.pT, hM.pL, eG, eG2, p0, p1, p3, p4, ps, q12, q14, qg, b1, b2, up2_n, up2_e]
  · have ax := hs.2.2.2.2.2.2.1
    unfold tp at ax
    refine ⟨?_, ?_, ?_, fun c hc => ?_⟩
    · unfold hLay
      simp only [Nat.add_zero, true_and, and_true, gd_T, bn_S, bv_S, lq_E, wI_s, sI_s, hI_s, hT_s, hL_s, hR_s, hJ_s, hN_s, hU_s, wR_r, sR_r, sR_s, hR_r, hT_r, hL_r, hI_r, hJ_r, hN_r, hU_r, hN_a, hU_a, hT_a, hL_a, hI_a, hR_a, hJ_a, up1_e, up1_n]; omega
    · unfold hLay
      simp only [Nat.add_zero, true_and, and_true, gd_T, bn_S, bv_S, lq_E, wI_s, sI_s, hI_s, hT_s, hL_s, hR_s, hJ_s, hN_s, hU_s, wR_r, sR_r, sR_s, hR_r, hT_r, hL_r, hI_r, hJ_r, hN_r, hU_r, hN_a, hU_a, hT_a, hL_a, hI_a, hR_a, hJ_a, up1_e, up1_n]; omega
    · unfold hLay
      simp only [Nat.add_zero, true_and, and_true, gd_T, bn_S, bv_S, lq_E, wI_s, sI_s, hI_s, hT_s, hL_s, hR_s, hJ_s, hN_s, hU_s, wR_r, sR_r, sR_s, hR_r, hT_r, hL_r, hI_r, hJ_r, hN_r, hU_r, hN_a, hU_a, hT_a, hL_a, hI_a, hR_a, hJ_a, up1_e, up1_n]; omega
    · have cb : c < hN h ∧ (c < 320 ∨ 338 + n + m + p + b + no ≤ c) := by rcases ax with k | k <;> omega
      unfold hLay
      refine ⟨?_, ?_, funext fun s => ?_, funext fun s => ?_, ?_⟩
      · simp (disch := omega) only [Nat.add_zero, true_and, and_true, gd_T, bn_S, bv_S, lq_E, wI_s, sI_s, hI_s, hT_s, hL_s, hR_s, hJ_s, hN_s, hU_s, wR_r, sR_r, sR_s, hR_r, hT_r, hL_r, hI_r, hJ_r, hN_r, hU_r, hN_a, hU_a, hT_a, hL_a, hI_a, hR_a, hJ_a, up1_e, up1_n]
      · simp (disch := omega) only [Nat.add_zero, true_and, and_true, gd_T, bn_S, bv_S, lq_E, wI_s, sI_s, hI_s, hT_s, hL_s, hR_s, hJ_s, hN_s, hU_s, wR_r, sR_r, sR_s, hR_r, hT_r, hL_r, hI_r, hJ_r, hN_r, hU_r, hN_a, hU_a, hT_a, hL_a, hI_a, hR_a, hJ_a, up1_e, up1_n]
      · simp (disch := omega) only [Nat.add_zero, true_and, and_true, gd_T, bn_S, bv_S, lq_E, wI_s, sI_s, hI_s, hT_s, hL_s, hR_s, hJ_s, hN_s, hU_s, wR_r, sR_r, sR_s, hR_r, hT_r, hL_r, hI_r, hJ_r, hN_r, hU_r, hN_a, hU_a, hT_a, hL_a, hI_a, hR_a, hJ_a, up1_e, up1_n, up2_n]
      · simp (disch := omega) only [Nat.add_zero, true_and, and_true, gd_T, bn_S, bv_S, lq_E, wI_s, sI_s, hI_s, hT_s, hL_s, hR_s, hJ_s, hN_s, hU_s, wR_r, sR_r, sR_s, hR_r, hT_r, hL_r, hI_r, hJ_r, hN_r, hU_r, hN_a, hU_a, hT_a, hL_a, hI_a, hR_a, hJ_a, up1_e, up1_n, up2_n]
        exact k2 c s (by omega)
      · simp (disch := omega) only [Nat.add_zero, true_and, and_true, gd_T, bn_S, bv_S, lq_E, wI_s, sI_s, hI_s, hT_s, hL_s, hR_s, hJ_s, hN_s, hU_s, wR_r, sR_r, sR_s, hR_r, hT_r, hL_r, hI_r, hJ_r, hN_r, hU_r, hN_a, hU_a, hT_a, hL_a, hI_a, hR_a, hJ_a, up1_e, up1_n]
theorem simPeel_E (hNm : Nm n m p b) (hs : Sm xA n m p b no O h g) (hv : Iv n m p b T C Pb g) {i : Nat} (hi : i < p) (k : AH → Nat → Nat → Int32 → Int32 → Option AH) :
    ∃ h', f_Sim_pass_b235 k h 320 (335 + n + m) (iI (p : Int)) (iI (i : Int)) = k h' 320 (335 + n + m) (iI (p : Int)) (iI ((i + 1 : Nat) : Int)) ∧ Sm xA n m p b no O h' (mPeel1 i g) ∧ Fx xA 2 65 h h' := by
  have hM := hs.1
  have hN' := hNm
  unfold Nm at hN'
  have hP := hv.2.2.2.2.1 i hi
  have p2 := hs.pe (i := i) (s := 2) (by omega) hi (by decide)
  have p3 := hs.pe (i := i) (s := 3) (by omega) hi (by decide)
  have pb : 1 ≤ g (31 + i) 2 ∧ g (31 + i) 2 ≤ 9 ∧ 0 ≤ g (31 + i) 3 ∧ g (31 + i) 3 ≤ 20 := by omega
  have hii : ((i + 1 : Nat) : Int) = (i : Int) + 1 := rfl
  -- the most
  have e1 : f_Sim_pass_b235 k h 320 (335 + n + m) (iI (p : Int)) (iI (i : Int)) = f_Sim_pass_b278 k h 320 (335 + n + m) (iI (p : Int)) (iI (i : Int)) (336 + n + m + i) (iI (mMost g i)) := by
    unfold mMost
    clear hP hv
    by_cases c0 : g (31 + i) 3 < 1
    · rw [if_pos c0]
      have c00 : g (31 + i) 3 = 0 := by omega
      rw [c00] at p3
      simp (disch := first | decide | omega) only [f_Sim_pass_b235, Nat.add_zero, true_and, and_true, gd_T, bn_S, bv_S, lq_E, wI_s, sI_s, hI_s, hT_s, hL_s, hR_s, hJ_s, hN_s, hU_s, nI_L, z_i, o_i, iI_add, iI_sub, iI_mul, iI_neg, iI_lt, iI_le, iI_eq, iI_ix, Int.toNat_natCast, toNat_L, if_neg, if_pos, gd_P, inb, ix, hM.tpe, hM.lpe, hM.pR, hM.pT, hM.pL, p2, p3, not_true_eq_false]
    · rw [if_neg c0]
      by_cases c1 : g (31 + i) 3 < 10
      · rw [if_pos c1]
        simp (disch := first | decide | omega) only [f_Sim_pass_b235, Nat.add_zero, true_and, and_true, gd_T, bn_S, bv_S, lq_E, wI_s, sI_s, hI_s, hT_s, hL_s, hR_s, hJ_s, hN_s, hU_s, nI_L, z_i, o_i, iI_add, iI_sub, iI_mul, iI_neg, iI_lt, iI_le, iI_eq, iI_ix, Int.toNat_natCast, toNat_L, if_neg, if_pos, gd_P, inb, ix, hM.tpe, hM.lpe, hM.pR, hM.pT, hM.pL, p2, p3, iI_div]
      · rw [if_neg c1]
        simp (disch := first | decide | omega) only [f_Sim_pass_b235, Nat.add_zero, true_and, and_true, gd_T, bn_S, bv_S, lq_E, wI_s, sI_s, hI_s, hT_s, hL_s, hR_s, hJ_s, hN_s, hU_s, nI_L, z_i, o_i, iI_add, iI_sub, iI_mul, iI_neg, iI_lt, iI_le, iI_eq, iI_ix, Int.toNat_natCast, toNat_L, if_neg, if_pos, gd_P, inb, ix, hM.tpe, hM.lpe, hM.pR, hM.pT, hM.pL, p2, p3]
  have e2 : ∀ h', f_Sim_pass_b465 k h' 320 (335 + n + m) (iI (p : Int)) (iI (i : Int)) = k h' 320 (335 + n + m) (iI (p : Int)) (iI ((i + 1 : Nat) : Int)) := fun h' => by
    simp only [f_Sim_pass_b465, lq_E, nI_L, iI_add]
    all_goals rfl
  rw [e1]
  by_cases hc : g (31 + i) 6 = 0 ∧ 1 ≤ mPeels g i
  · obtain ⟨h', k1, k2, k3⟩ := simPeel2_E hNm hs hv hi hc k
    exact ⟨h', k1.trans (e2 h'), k2, k3⟩
  · obtain ⟨gi, hgi⟩ : ∃ gi : Nat, g (31 + i) 0 = (gi : Int) := ⟨(g (31 + i) 0).toNat, by omega⟩
    obtain ⟨K, hKi⟩ : ∃ K : Nat, g (31 + i) 1 = (K : Int) := ⟨(g (31 + i) 1).toNat, by omega⟩
    have gin : gi < n := by omega
    have hK : K < m := by omega
    have vG := hv.2.2.1 gi gin
    have vR := hv.2.2.2.1 K hK
    have fr := room_S hNm hs hv.2.2.2.1 hK
    have rb : 0 ≤ mRoom g K ∧ mRoom g K ≤ 60 := by unfold IvR1 at vR; unfold mRoom; omega
    have mob : 0 ≤ mMost g i ∧ mMost g i ≤ 9 := by unfold mMost; omega
    have ep : mPeels g i = min (mMost g i) (min (g (7 + gi) 0) (mRoom g K)) := by unfold mPeels; rw [hgi, hKi]; rfl
    have eG := hs.ga (i := gi) (s := 0) (by omega) gin (by decide)
    have em : mPeel1 i g = g := by unfold mPeel1; rw [if_neg hc]
    have p0 := hs.pe (i := i) (s := 0) (by omega) hi (by decide)
    have p1 := hs.pe (i := i) (s := 1) (by omega) hi (by decide)
    have p6 := hs.pe (i := i) (s := 6) (by omega) hi (by decide)
    rw [hgi] at p0
    rw [hKi] at p1
    have h6 : g (31 + i) 6 = 0 ∨ g (31 + i) 6 = 1 := by omega
    rw [em]
    refine ⟨h, ?_, hs, (Fx.refl h).mono (by omega) (by omega)⟩
    rw [← e2 h]
    clear hP vR hv em hgi hKi e1 e2
    generalize hmany : mPeels g i = many at *
    generalize mMost g i = mo at *
    rcases h6 with h6 | h6
    · have m0 : many = 0 := by omega
      rw [h6] at p6
      clear hc h6
      subst m0
      simp (disch := first | decide | omega) only [f_Sim_pass_b278, Nat.add_zero, true_and, and_true, gd_T, bn_S, bv_S, lq_E, wI_s, sI_s, hI_s, hT_s, hL_s, hR_s, hJ_s, hN_s, hU_s, nI_i, cst_L, z_i, iI_add, iI_sub, iI_lt, iI_le, iI_eq, iI_ix, Int.toNat_natCast, toNat_L, if_neg, if_pos, gd_P, inb, ix, hM.t, hM.r12, hM.tga, hM.lga, hM.gR, hM.gT, hM.gL, hM.pT, hM.pL, eG, p0, p1, p6, fr, min_E, ← ep, not_true_eq_false]
    · rw [h6] at p6
      clear hc h6
      simp (disch := first | decide | omega) only [f_Sim_pass_b278, Nat.add_zero, true_and, and_true, gd_T, bn_S, bv_S, lq_E, wI_s, sI_s, hI_s, hT_s, hL_s, hR_s, hJ_s, hN_s, hU_s, nI_i, cst_L, z_i, iI_add, iI_sub, iI_lt, iI_le, iI_eq, iI_ix, Int.toNat_natCast, toNat_L, if_neg, if_pos, gd_P, inb, ix, hM.t, hM.r12, hM.tga, hM.lga, hM.gR, hM.gT, hM.gL, hM.pT, hM.pL, eG, p0, p1, p6, fr, min_E]
end

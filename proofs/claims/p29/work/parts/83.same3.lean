/-! 83 L3: the sim and the class tell alike, III: boats, grades, the mean edge; all -/
section
variable {xA n m p b no : Nat} {O : Nat → Nat → Int} {T C Pb : Int} {h : AH} {g : GM}
theorem same6_E (hNm : Nm n m p b) (hb : Bo xA n m p b no O h g) (hv : Iv n m p b T C Pb g) (A : Int) :
    ∃ h', f_Sim_isSame_l474 FU h 320 200 (iI A) (iI 0) = f_Sim_isSame_l600 FU h' 320 200 (iI A) (iI 0) ∧ Bo xA n m p b no O h' g ∧ Gx 3 21 h h' := by
  have hN' := hNm
  unfold Nm at hN'
  have hS4 := hv.1
  unfold IvSc at hS4
  obtain ⟨s6, s7, s8, s9, -⟩ := hS4
  have vB := hv.2.2.2.2.2.1
  clear hv
  obtain ⟨h', e1, e2, e3⟩ := loopB (fun fu h i => f_Sim_isSame_l474 fu h 320 200 (iI A) (iI (i : Int))) (fun h => f_Sim_isSame_l600 FU h 320 200 (iI A) (iI 0)) b 1 7 (fun h => Bo xA n m p b no O h g) (by
    intro fu i h hi hb
    have hM := hb.2.1
    have hs := hb.2
    have tb := hs.2.2.2.2.2.1
    unfold tp at tb
    have hii : ((i + 1 : Nat) : Int) = (i : Int) + 1 := rfl
    have r := vB i hi
    have r4 : 0 ≤ g (39 + i) 4 ∧ g (39 + i) 4 ≤ 40 := by omega
    have r5 : g (39 + i) 4 = 0 → g (39 + i) 5 = -1 := by omega
    have q0 := hs.bo (i := i) (s := 0) (by omega) hi (by decide) (by decide)
    have q1 := hs.bo (i := i) (s := 1) (by omega) hi (by decide) (by decide)
    have q2 := hs.bo (i := i) (s := 2) (by omega) hi (by decide) (by decide)
    have q3 := hs.bo (i := i) (s := 3) (by omega) hi (by decide) (by decide)
    have q4 := hs.bo (i := i) (s := 4) (by omega) hi (by decide) (by decide)
    have q6 := hs.bo (i := i) (s := 6) (by omega) hi (by decide) (by decide)
    have q5 : g (39 + i) 4 ≠ 0 → hI h (337 + n + m + p + i) 5 = iI (g (39 + i) 5) := fun k => hs.2.1.bo (i := i) (s := 5) (by omega) hi (by decide) (PL_q k)
    clear r
    obtain ⟨F, hF⟩ : ∃ F : Nat → Nat → Int32, F = (up2 (up2 (up2 (up2 (up2 (up2 (up2 (up1 (hI h) (hN h) (fun _ => 0)) (hN h) 0 (iI (g (39 + i) 0))) (hN h) 1 (iI (g (39 + i) 1))) (hN h) 2 (iI (g (39 + i) 2))) (hN h) 3 (iI (g (39 + i) 3))) (hN h) 4 (iI (g (39 + i) 4))) (hN h) 5 (iI (g (39 + i) 5))) (hN h) 6 (iI (g (39 + i) 6))) := ⟨_, rfl⟩
    have gx : Gx 1 7 h (sI (hA h 101 7) F) := Gx.row F fun a ha => by
      rw [hF]
      funext s
      simp (disch := omega) only [up2_n, up1_n]
    have hb2 := hb.ext hNm gx
    have w0 : F (hN h) 0 = iI (g (39 + i) 0) := by rw [hF]; simp (disch := omega) only [up2_n, up2_e]
    have w1 : F (hN h) 1 = iI (g (39 + i) 1) := by rw [hF]; simp (disch := omega) only [up2_n, up2_e]
    have w2 : F (hN h) 2 = iI (g (39 + i) 2) := by rw [hF]; simp (disch := omega) only [up2_n, up2_e]
    have w3 : F (hN h) 3 = iI (g (39 + i) 3) := by rw [hF]; simp (disch := omega) only [up2_n, up2_e]
    have w4 : F (hN h) 4 = iI (g (39 + i) 4) := by rw [hF]; simp (disch := omega) only [up2_n, up2_e]
    have w5 : F (hN h) 5 = iI (g (39 + i) 5) := by rw [hF]; simp (disch := omega) only [up2_n, up2_e]
    have w6 : F (hN h) 6 = iI (g (39 + i) 6) := by rw [hF]; simp (disch := omega) only [up2_n, up2_e]
    have s1 : f_Sim_isSame_b474 (f_Sim_isSame_l474 fu) h 320 200 (iI A) (iI (i : Int)) = f_Sim_isSame_l562 (f_Sim_isSame_l474 fu) FU (sI (hA h 101 7) F) 320 200 (iI A) (iI (i : Int)) (hN h) (iI 0) := by
      rw [hF]
      clear gx hb2 w0 w1 w2 w3 w4 w5 w6 hF
      by_cases c : g (39 + i) 4 = 0
      · have r5' := r5 c
        rw [c] at q4
        rw [r5', c]
        clear q5 r5 r5'
        simp (disch := first | decide | omega) only [f_Sim_isSame_b474, f_Sim_isSame_b547, Nat.add_zero, true_and, and_true, gd_T, bn_S, bv_S, lq_E, wI_s, sI_s, hI_s, hT_s, hL_s, hR_s, hJ_s, hN_s, hU_s, hN_a, hU_a, hT_a, hL_a, hI_a, hR_a, hJ_a, up1_e, up1_n, nI_i, cst_L, z_i, iI_neg, iI_lt, iI_le, iI_eq, iI_ix, Int.toNat_natCast, toNat_L, if_neg, if_pos, gd_P, inb, ix, hM.t, hM.r16, hM.tbo, hM.lbo, hM.bR, hM.bT, hM.bL, q0, q1, q2, q3, q4, q6, up2_n, up2_e]
      · have q5' := q5 c
        clear q5 r5
        simp (disch := first | decide | omega) only [f_Sim_isSame_b474, f_Sim_isSame_b547, Nat.add_zero, true_and, and_true, gd_T, bn_S, bv_S, lq_E, wI_s, sI_s, hI_s, hT_s, hL_s, hR_s, hJ_s, hN_s, hU_s, hN_a, hU_a, hT_a, hL_a, hI_a, hR_a, hJ_a, up1_e, up1_n, nI_i, cst_L, z_i, iI_neg, iI_lt, iI_le, iI_eq, iI_ix, Int.toNat_natCast, toNat_L, if_neg, if_pos, gd_P, inb, ix, hM.t, hM.r16, hM.tbo, hM.lbo, hM.bR, hM.bT, hM.bL, q0, q1, q2, q3, q4, q5', q6, up2_n, up2_e]
    obtain ⟨h2, k2, k3, -⟩ := loopB (fun fu' h2 w => f_Sim_isSame_l562 (f_Sim_isSame_l474 fu) fu' h2 320 200 (iI A) (iI (i : Int)) (hN h) (iI (w : Int))) (fun h2 => f_Sim_isSame_l474 fu h2 320 200 (iI A) (iI ((i + 1 : Nat) : Int))) 7 0 0 (fun x => x = sI (hA h 101 7) F) (by
      intro fu' w h2 hw he
      have hc2 : Cl n m p b O no h2 g := by rw [he]; exact hb2.1
      have t1 : hT h2 (hN h) = 101 := by rw [he, hT_s, hT_a, up1_e]
      have t2 : hL h2 (hN h) = 7 := by rw [he, hL_s, hL_a, up1_e]
      have t3 : hI h2 = F := by rw [he, hI_s]
      obtain ⟨ev1, ev2⟩ : f_QuillBoats_boat h2 200 (iI (i : Int)) (iI (w : Int)) = some (h2, iI (g (39 + i) w)) ∧ hI h2 (hN h) w = iI (g (39 + i) w) := by
        rw [t3]
        rcases (show w = 0 ∨ w = 1 ∨ w = 2 ∨ w = 3 ∨ w = 4 ∨ w = 5 ∨ w = 6 by omega) with rfl | rfl | rfl | rfl | rfl | rfl | rfl
        · exact ⟨boat_E0 hNm hc2 s9 hi, w0⟩
        · exact ⟨boat_E1 hNm hc2 s9 hi, w1⟩
        · exact ⟨boat_E2 hNm hc2 s9 hi, w2⟩
        · exact ⟨boat_E3 hNm hc2 s9 hi, w3⟩
        · exact ⟨boat_E4 hNm hc2 s9 hi, w4⟩
        · exact ⟨boat_E5 hNm hc2 s9 hi, w5⟩
        · exact ⟨boat_E6 hNm hc2 s9 hi, w6⟩
      have hww : ((w + 1 : Nat) : Int) = (w : Int) + 1 := rfl
      have hQ2 := hc2.1
      refine ⟨h2, ?_, he, Gx.refl _⟩
      show f_Sim_isSame_b562 (f_Sim_isSame_l474 fu) (f_Sim_isSame_l562 (f_Sim_isSame_l474 fu) fu') h2 320 200 (iI A) (iI (i : Int)) (hN h) (iI (w : Int)) = _
      clear gx hb2 w0 w1 w2 w3 w4 w5 w6 q0 q1 q2 q3 q4 q5 q6 hF s1 he hc2 t3 r5 r4
      simp (disch := first | decide | omega) only [f_Sim_isSame_b562, Nat.add_zero, true_and, and_true, gd_T, bn_S, bv_S, lq_E, wI_s, sI_s, hI_s, hT_s, hL_s, hR_s, hJ_s, hN_s, hU_s, nI_L, z_i, iI_add, iI_lt, iI_le, iI_eq, iI_ix, Int.toNat_natCast, toNat_L, if_neg, gd_P, inb, ix, hQ2.t, t1, t2, ev1, ev2, hww, ↓reduceIte]) (by
      intro fu' h2 he
      show f_Sim_isSame_b562 (f_Sim_isSame_l474 fu) (f_Sim_isSame_l562 (f_Sim_isSame_l474 fu) fu') h2 320 200 (iI A) (iI (i : Int)) (hN h) (iI 7) = _
      simp (disch := first | decide | omega) only [f_Sim_isSame_b562, Nat.add_zero, true_and, and_true, gd_T, bn_S, bv_S, lq_E, wI_s, sI_s, hI_s, hT_s, hL_s, hR_s, hJ_s, hN_s, hU_s, nI_L, z_i, iI_add, iI_lt, iI_le, iI_eq, iI_ix, Int.toNat_natCast, toNat_L, if_pos, hii]) 7 0 FU _ (by omega) (by unfold FU; omega) rfl
    subst k3
    exact ⟨_, Eq.trans s1 k2, hb2, gx⟩) (by
    intro fu h hb
    have hM := hb.2.1
    show f_Sim_isSame_b474 (f_Sim_isSame_l474 fu) h 320 200 (iI A) (iI (b : Int)) = _
    simp (disch := first | decide | omega) only [f_Sim_isSame_b474, Nat.add_zero, true_and, and_true, gd_T, bn_S, bv_S, lq_E, wI_s, sI_s, hI_s, hT_s, hL_s, hR_s, hJ_s, hN_s, hU_s, nI_i, cst_L, z_i, iI_lt, iI_le, iI_eq, iI_ix, Int.toNat_natCast, toNat_L, if_neg, if_pos, gd_P, inb, ix, hM.t, hM.r16, hM.tbo, hM.lbo]
    all_goals rfl) b 0 FU h (by omega) (by unfold FU; omega) hb
  exact ⟨h', e1, e2, e3.mono (by omega) (by omega)⟩
theorem same7_E (hNm : Nm n m p b) (hb : Bo xA n m p b no O h g) (hv : Iv n m p b T C Pb g) (hPb : Pb ≤ 800000) :
    ∃ h', f_Sim_isSame_l600 FU h 320 200 (iI (sumF (fun i => g (31 + i) 3) p)) (iI 0) = some (h', iI 1) ∧ Gx 4 20 h h' := by
  have hN' := hNm
  unfold Nm at hN'
  have vQ := hv.2.2.2.2.2.2.1
  have vq := IvQ.le hv
  obtain ⟨A, hA'⟩ : ∃ A : Int, sumF (fun i => g (31 + i) 3) p = A := ⟨_, rfl⟩
  rw [hA']
  obtain ⟨h', e1, e2, e3⟩ := loopB (fun fu h i => f_Sim_isSame_l600 fu h 320 200 (iI A) (iI (i : Int))) (fun h => f_Sim_isSame_b600 (fun _ _ _ _ _ => none) h 320 200 (iI A) (iI 4)) 4 1 5 (fun h => Bo xA n m p b no O h g) (by
    intro fu i h hi hb
    have hM := hb.2.1
    have hs := hb.2
    have tb := hs.2.2.2.2.2.1
    unfold tp at tb
    have hii : ((i + 1 : Nat) : Int) = (i : Int) + 1 := rfl
    have r := vQ i hi
    have r' := vq i hi
    have q0 := hs.st hi
    have q1 := hs.pr hi
    have q2 := hs.gl hi
    have q4 := hs.go hi
    obtain ⟨F, hF⟩ : ∃ F : Nat → Nat → Int32, F = (up2 (up2 (up2 (up2 (up2 (up1 (hI h) (hN h) (fun _ => 0)) (hN h) 0 (iI (g (43 + i) 0))) (hN h) 1 (iI (g (43 + i) 1))) (hN h) 2 (iI (g (43 + i) 2))) (hN h) 3 (iI (mPrice g i))) (hN h) 4 (iI (g (43 + i) 3))) := ⟨_, rfl⟩
    have gx : Gx 1 5 h (sI (hA h 101 5) F) := Gx.row F fun a ha => by
      rw [hF]
      funext s
      simp (disch := omega) only [up2_n, up1_n]
    have hb2 := hb.ext hNm gx
    have gx0 : Gx 1 5 h (sI (hA h 101 5) (up2 (up2 (up2 (up1 (hI h) (hN h) (fun _ => iI 0)) (hN h) 0 (iI (g (43 + i) 0))) (hN h) 1 (iI (g (43 + i) 1))) (hN h) 2 (iI (g (43 + i) 2)))) := Gx.row _ fun a ha => by
      funext s
      simp (disch := omega) only [up2_n, up1_n]
    have fpr := priceOf_S (hb.ext hNm gx0).2 vQ (fun k hk => by have := vq k hk; omega) hi
    have w0 : F (hN h) 0 = iI (g (43 + i) 0) := by rw [hF]; simp (disch := omega) only [up2_n, up2_e]
    have w1 : F (hN h) 1 = iI (g (43 + i) 1) := by rw [hF]; simp (disch := omega) only [up2_n, up2_e]
    have w2 : F (hN h) 2 = iI (g (43 + i) 2) := by rw [hF]; simp (disch := omega) only [up2_n, up2_e]
    have w3 : F (hN h) 3 = iI (mPrice g i) := by rw [hF]; simp (disch := omega) only [up2_n, up2_e]
    have w4 : F (hN h) 4 = iI (g (43 + i) 3) := by rw [hF]; simp (disch := omega) only [up2_n, up2_e]
    have s1 : f_Sim_isSame_b600 (f_Sim_isSame_l600 fu) h 320 200 (iI A) (iI (i : Int)) = f_Sim_isSame_l657 (f_Sim_isSame_l600 fu) FU (sI (hA h 101 5) F) 320 200 (iI A) (iI (i : Int)) (hN h) (iI 0) := by
      rw [hF]
      clear gx hb2 gx0 w0 w1 w2 w3 w4 hF r r'
      simp (disch := first | decide | omega) only [f_Sim_isSame_b600, Nat.add_zero, true_and, and_true, gd_T, bn_S, bv_S, lq_E, wI_s, sI_s, hI_s, hT_s, hL_s, hR_s, hJ_s, hN_s, hU_s, hN_a, hU_a, hT_a, hL_a, hI_a, hR_a, hJ_a, up1_e, up1_n, nI_i, cst_L, z_i, iI_lt, iI_le, iI_eq, iI_ix, Int.toNat_natCast, toNat_L, if_neg, if_pos, gd_P, inb, ix, hM.t, hM.r8, hM.r9, hM.r10, hM.r11, hM.tst, hM.lst, hM.tpr, hM.lpr, hM.tgl, hM.lgl, hM.tgo, hM.lgo, q0, q1, q2, q4, fpr, up2_n, up2_e]
    have f0 := fun (h : AH) (hc : Cl n m p b O no h g) => grade_E0 hNm hc hi (by omega) (by omega) (by omega) (by omega)
    have f1 := fun (h : AH) (hc : Cl n m p b O no h g) => grade_E1 hNm hc hi (by omega) (by omega) (by omega) (by omega)
    have f2 := fun (h : AH) (hc : Cl n m p b O no h g) => grade_E2 hNm hc hi (by omega) (by omega) (by omega) (by omega)
    have f3 := fun (h : AH) (hc : Cl n m p b O no h g) => grade_E3 hNm hc hi (by omega) (by omega) (by omega) (by omega)
    have f4 := fun (h : AH) (hc : Cl n m p b O no h g) => grade_E4 hNm hc hi (by omega) (by omega) (by omega) (by omega)
    obtain ⟨h2, k2, k3, -⟩ := loopB (fun fu' h2 w => f_Sim_isSame_l657 (f_Sim_isSame_l600 fu) fu' h2 320 200 (iI A) (iI (i : Int)) (hN h) (iI (w : Int))) (fun h2 => f_Sim_isSame_l600 fu h2 320 200 (iI A) (iI ((i + 1 : Nat) : Int))) 5 0 0 (fun x => x = sI (hA h 101 5) F) (by
      intro fu' w h2 hw he
      have hc2 : Cl n m p b O no h2 g := by rw [he]; exact hb2.1
      have t1 : hT h2 (hN h) = 101 := by rw [he, hT_s, hT_a, up1_e]
      have t2 : hL h2 (hN h) = 5 := by rw [he, hL_s, hL_a, up1_e]
      have t3 : hI h2 = F := by rw [he, hI_s]
      obtain ⟨v, ev1, ev2⟩ : ∃ v : Int, f_QuillBoats_grade h2 200 (iI (i : Int)) (iI (w : Int)) = some (h2, iI v) ∧ hI h2 (hN h) w = iI v := by
        rw [t3]
        rcases (show w = 0 ∨ w = 1 ∨ w = 2 ∨ w = 3 ∨ w = 4 by omega) with rfl | rfl | rfl | rfl | rfl
        · exact ⟨_, f0 h2 hc2, w0⟩
        · exact ⟨_, f1 h2 hc2, w1⟩
        · exact ⟨_, f2 h2 hc2, w2⟩
        · exact ⟨_, f3 h2 hc2, w3⟩
        · exact ⟨_, f4 h2 hc2, w4⟩
      have hww : ((w + 1 : Nat) : Int) = (w : Int) + 1 := rfl
      have hQ2 := hc2.1
      refine ⟨h2, ?_, he, Gx.refl _⟩
      show f_Sim_isSame_b657 (f_Sim_isSame_l600 fu) (f_Sim_isSame_l657 (f_Sim_isSame_l600 fu) fu') h2 320 200 (iI A) (iI (i : Int)) (hN h) (iI (w : Int)) = _
      clear gx hb2 w0 w1 w2 w3 w4 f0 f1 f2 f3 f4 q0 q1 q2 q4 gx0 fpr hF s1 he hc2 t3 r r'
      simp (disch := first | decide | omega) only [f_Sim_isSame_b657, Nat.add_zero, true_and, and_true, gd_T, bn_S, bv_S, lq_E, wI_s, sI_s, hI_s, hT_s, hL_s, hR_s, hJ_s, hN_s, hU_s, nI_L, z_i, iI_add, iI_lt, iI_le, iI_eq, iI_ix, Int.toNat_natCast, toNat_L, if_neg, gd_P, inb, ix, hQ2.t, t1, t2, ev1, ev2, hww, ↓reduceIte]) (by
      intro fu' h2 he
      show f_Sim_isSame_b657 (f_Sim_isSame_l600 fu) (f_Sim_isSame_l657 (f_Sim_isSame_l600 fu) fu') h2 320 200 (iI A) (iI (i : Int)) (hN h) (iI 5) = _
      simp (disch := first | decide | omega) only [f_Sim_isSame_b657, Nat.add_zero, true_and, and_true, gd_T, bn_S, bv_S, lq_E, wI_s, sI_s, hI_s, hT_s, hL_s, hR_s, hJ_s, hN_s, hU_s, nI_L, z_i, iI_add, iI_lt, iI_le, iI_eq, iI_ix, Int.toNat_natCast, toNat_L, if_pos, hii]) 5 0 FU _ (by omega) (by unfold FU; omega) rfl
    subst k3
    exact ⟨_, Eq.trans s1 k2, hb2, gx⟩) (by
    intro fu h hb
    show f_Sim_isSame_b600 (f_Sim_isSame_l600 fu) h 320 200 (iI A) (iI 4) = _
    simp (disch := first | decide | omega) only [f_Sim_isSame_b600, nI_L, iI_lt, iI_le, iI_eq, iI_ix, Int.toNat_natCast, toNat_L, if_pos]) 4 0 FU h (by omega) (by unfold FU; omega) hb
  refine ⟨h', e1.trans ?_, e3.mono (by omega) (by omega)⟩
  have f := mean_E hNm e2.1 hv
  obtain ⟨o1, o2⟩ := mMean_ok hNm hv.2.2.2.2.1
  have hQ := e2.1.1
  have hM := e2.2.1
  have em : FP.ddiv (FP.i2d (iI A)) (FP.i2d (iI (p : Int))) = mMean p g := by unfold mMean; rw [hA']
  clear e1 e2 e3 hv vQ vq hb
  simp (disch := first | decide | omega) only [f_Sim_isSame_b600, f_Sim_isSame_b717, Nat.add_zero, true_and, and_true, gd_T, bn_S, bv_S, lq_E, wI_s, sI_s, hI_s, hT_s, hL_s, hR_s, hJ_s, hN_s, hU_s, nI_i, cst_L, z_i, iI_lt, iI_le, iI_eq, iI_ix, Int.toNat_natCast, toNat_L, if_neg, if_pos, gd_P, inb, ix, hQ.t, hM.t, hM.r15, hM.tpe, hM.lpe, f, em, o1, o2, not_true_eq_false, ↓reduceIte]
theorem same_E (hNm : Nm n m p b) (hb : Bo xA n m p b no O h g) (hv : Iv n m p b T C Pb g) (hC : C ≤ 900000) (hTm : T ≤ 9000) (hPb : Pb ≤ 800000) (hno : no ≤ 100) (h10 : g 0 10 = (no : Int)) :
    ∃ h', f_Sim_isSame h 320 200 = some (h', iI 1) ∧ Gx 26 309 h h' := by
  obtain ⟨h1, a1, a2, a3⟩ := same1_E hNm hb hv hC hTm hPb hno h10
  have b1 := same2_E a2 hv.2.1
  have b2 := same3_E hNm a2 hv
  obtain ⟨h2, c1, c2, c3⟩ := same4_E hNm a2 hv hTm
  have d1 := same5_E hNm c2 hv
  obtain ⟨h3, e1, e2, e3⟩ := same6_E hNm c2 hv (sumF (fun i => g (31 + i) 3) p)
  obtain ⟨h4, k1, k2⟩ := same7_E hNm e2 hv hPb
  exact ⟨h4, a1.trans (b1.trans (b2.trans (c1.trans (d1.trans (e1.trans k1))))), (((a3.trans c3).trans e3).trans k2).mono (by omega) (by omega)⟩
end

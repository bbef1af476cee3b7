/-! 67 L3: the sim's hour, III: its end -/
theorem up2_self (g : GM) (c s : Nat) {v : Int} (hv : v = g c s) : up2 g c s v = g := by
  subst hv
  funext c' s'
  by_cases e : c' = c ∧ s' = s
  · obtain ⟨rfl, rfl⟩ := e
    exact up2_e _ _ _ _
  · exact up2_n _ _ _ _ _ _ e
section
variable {xA n m p b no : Nat} {O : Nat → Nat → Int} {T C Pb : Int} {h : AH} {g : GM}
theorem simEnd_E (hN : Nm n m p b) (hs : Sm xA n m p b no O h g) (hv : Iv n m p b T C Pb g) (hC : C ≤ 1000000) (hPb : Pb ≤ 900000) (hh : g 0 11 + 1 ≤ T) :
    ∃ h', f_Sim_pass_l905 FU h 320 (iI 0) = some h' ∧ Sm xA n m p b no O h' (mEnd (mIt mGlut1 4 0 g)) ∧ Fx xA 0 0 h h' := by
  obtain ⟨h', e1, e2, e3, e4, e5⟩ := loopM (n := n) (m := m) (p := p) (b := b) (no := no) (O := O) (fun fu h x => f_Sim_pass_l905 fu h 320 x) (fun h => f_Sim_pass_b905 (fun _ _ _ => none) h 320 (iI 4)) mGlut1 4 (fun _ g => Iv n m p b T C Pb g ∧ g 0 11 + 1 ≤ T) 0 0 (by
    intro fu i h g hi ⟨hv, hh⟩ hs
    have hM := hs.1
    have q := IvQ.le hv i hi
    have q2 := hv.2.2.2.2.2.2.1 i hi
    have hh2 : mGlut1 i g 0 11 + 1 ≤ T := by unfold mGlut1; rw [up2_n _ _ _ _ _ _ (by omega)]; exact hh
    by_cases c : 0 < g (43 + i) 2
    · have s1 := hs.w hN (43 + i) 2 (Or.inr (Or.inr (Or.inr (Or.inr (Or.inr (Or.inr ⟨by omega, by omega, by decide⟩)))))) (a := 324) (k := i) (by rw [sA_q]; rfl) sS_q (v := max 0 (g (43 + i) 2 - 1)) rfl (by omega)
      refine ⟨_, ?_, s1, ((Fs.refl _).up _ _ _ (by omega)).x hs.ax, hv.glut hN hi, hh2⟩
      show f_Sim_pass_b905 (f_Sim_pass_l905 fu) h 320 (iI (i : Int)) = _
      rw [Int.max_eq_right (by omega)]
      simp (disch := first | decide | omega) only [f_Sim_pass_b905, f_Sim_pass_b929, Nat.add_zero, true_and, and_true, gd_T, bn_S, bv_S, lq_E, wI_s, sI_s, hI_s, hT_s, hL_s, hR_s, hJ_s, hN_s, hU_s, nI_L, z_i, o_i, iI_add, iI_sub, iI_mul, iI_neg, iI_lt, iI_le, iI_eq, iI_ix, Int.toNat_natCast, toNat_L, if_neg, if_pos, gd_P, inb, ix, hM.t, hM.r10, hM.tgl, hM.lgl, hs.gl]
      rfl
    · have e : mGlut1 i g = g := up2_self g _ _ (by omega)
      refine ⟨h, ?_, by rw [e]; exact hs, Fx.refl h, hv.glut hN hi, hh2⟩
      show f_Sim_pass_b905 (f_Sim_pass_l905 fu) h 320 (iI (i : Int)) = _
      simp (disch := first | decide | omega) only [f_Sim_pass_b905, f_Sim_pass_b929, Nat.add_zero, true_and, and_true, gd_T, bn_S, bv_S, lq_E, wI_s, sI_s, hI_s, hT_s, hL_s, hR_s, hJ_s, hN_s, hU_s, nI_L, z_i, o_i, iI_add, iI_sub, iI_mul, iI_neg, iI_lt, iI_le, iI_eq, iI_ix, Int.toNat_natCast, toNat_L, if_neg, if_pos, gd_P, inb, ix, hM.t, hM.r10, hM.tgl, hM.lgl, hs.gl]
      rfl) (by
    intro fu h g _ hs
    show f_Sim_pass_b905 (f_Sim_pass_l905 fu) h 320 (iI 4) = _
    simp (disch := first | decide | omega) only [f_Sim_pass_b905, nI_L, iI_lt, iI_le, iI_eq, iI_ix, Int.toNat_natCast, toNat_L, if_pos]) 4 0 FU h g (by omega) (by unfold FU; omega) ⟨hv, hh⟩ hs
  generalize mIt mGlut1 4 0 g = g2 at *
  have hS4 := e4.1
  unfold IvSc at hS4
  have hM := e2.1
  have s1 := e2.w hN 0 11 (Or.inl ⟨rfl, by decide, by decide⟩) (a := 320) (k := 0) rfl rfl (v := g2 0 11 + 1) rfl (by omega)
  by_cases c : g2 0 12 ≤ 99999
  · have e : mEnd g2 = up2 g2 0 11 (g2 0 11 + 1) := by
      unfold mEnd
      exact up2_self _ _ _ (by rw [up2_n _ _ _ _ _ _ (by omega)]; omega)
    refine ⟨_, ?_, by rw [e]; exact s1, (e3.trans (((Fs.refl _).up 320 0 (iI (g2 0 11 + 1)) (by omega) : Fs (338 + n + m + p + b + no) _ _).x e2.ax)).mono (by omega) (by omega)⟩
    refine Eq.trans e1 ?_
    simp (disch := first | decide | omega) only [f_Sim_pass_b905, Nat.add_zero, true_and, and_true, gd_T, bn_S, bv_S, lq_E, wI_s, sI_s, hI_s, hT_s, hL_s, hR_s, hJ_s, hN_s, hU_s, nI_L, z_i, o_i, iI_add, iI_sub, iI_mul, iI_neg, iI_lt, iI_le, iI_eq, iI_ix, Int.toNat_natCast, toNat_L, if_neg, if_pos, gd_P, inb, ix, hM.t, e2.hour, e2.coins, up2_n]
  · have s2 := s1.w hN 0 12 (Or.inl ⟨rfl, by decide, by decide⟩) (a := 320) (k := 1) rfl rfl (v := min 99999 (g2 0 12)) rfl (by omega)
    refine ⟨_, ?_, s2, (e3.trans ((((Fs.refl _).up 320 0 (iI (g2 0 11 + 1)) (by omega)).up 320 1 (iI (min 99999 (g2 0 12))) (by omega) : Fs (338 + n + m + p + b + no) _ _).x e2.ax)).mono (by omega) (by omega)⟩
    refine Eq.trans e1 ?_
    rw [Int.min_eq_left (by omega)]
    simp (disch := first | decide | omega) only [f_Sim_pass_b905, Nat.add_zero, true_and, and_true, gd_T, bn_S, bv_S, lq_E, wI_s, sI_s, hI_s, hT_s, hL_s, hR_s, hJ_s, hN_s, hU_s, nI_L, z_i, o_i, iI_add, iI_sub, iI_mul, iI_neg, iI_lt, iI_le, iI_eq, iI_ix, Int.toNat_natCast, toNat_L, if_neg, if_pos, gd_P, inb, ix, hM.t, e2.hour, e2.coins, up2_n]
end

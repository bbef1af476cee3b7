/-! 66 L3: the sim's hour, II: orders carried out -/
section
variable {xA n m p b no : Nat} {O : Nat → Nat → Int} {T C Pb : Int} {h : AH} {g : GM}
theorem Sm.done' (hN : Nm n m p b) (hs : Sm xA n m p b no O h g) : Sm xA n m p b no O (sI h (up2 (hI h) 320 4 (iI (g 0 17 + 1)))) (mDone g) := hs.w hN 0 17 (Or.inl ⟨rfl, by decide, by decide⟩) (a := 320) (k := 4) rfl rfl (v := g 0 17 + 1) rfl (by omega)
theorem simOrder_S (hN : Nm n m p b) (hs : Sm xA n m p b no O h g) (hv : Iv n m p b T C Pb g) (hT : T ≤ 1000000) (hC : C ≤ 1000000) (hPb : Pb ≤ 900000) {i : Nat} (hi : i < no) (hno : no ≤ 100) (hw : Wk n m p b (O i)) (k : AH → Nat → Nat → Int32 → Int32 → Option AH) :
    ∃ F, f_Sim_pass_b42 k h 320 (337 + n + m + p + b) (iI (no : Int)) (iI (i : Int)) = k (sI h F) 320 (337 + n + m + p + b) (iI (no : Int)) (iI ((i + 1 : Nat) : Int)) ∧ Sm xA n m p b no O (sI h F) (mOrder n m p b (O i) g) ∧ Fs (338 + n + m + p + b + no) (hI h) F := by
  have hM := hs.1
  have f1 := holds_S hN hs hv hT hC hPb hi hw
  have f2 := sum_S hs hv hPb hi hw
  have hok := Iv.ok hv hC hPb
  obtain ⟨-, s2, s3⟩ := sSt_R (r := 206) hN (Nat.le_refl _) hv hPb hw (fun _ => 0) (l := []) (by decide)
  have hN' := hN
  unfold Nm at hN'
  have hw' := hw
  obtain ⟨⟨w00, w02⟩, ⟨w10, w11, w12⟩, ⟨w20, w24⟩, -⟩ := hw
  obtain ⟨a, ha⟩ : ∃ a : Nat, O i 1 = (a : Int) := ⟨(O i 1).toNat, by omega⟩
  obtain ⟨q, hq⟩ : ∃ q : Nat, O i 2 = (q : Int) := ⟨(O i 2).toNat, by omega⟩
  have vP := hv.2.2.2.2.1
  have vB := hv.2.2.2.2.2.1
  obtain ⟨o6, o7, o8, o9, o12, o12', oP, oB, oQ⟩ := hok
  rw [ha] at w11 w12
  have q4 : q < 4 := by omega
  clear hv hw' hT hC hPb w20 w24
  unfold mOrder
  by_cases c : mHolds n m p b g (O i) = true
  · rw [if_pos c] at f1
    rw [if_pos c, ha, hq]
    simp only [Int.toNat_natCast]
    by_cases c0 : O i 0 = 0
    · rw [if_pos c0]
      have a4 : a < p := by have := w12 (by omega); omega
      have f3 := canWhet_S hN hs vP o12 o12' a4
      by_cases cw : g (31 + a) 3 < 20 ∧ 2 ≤ g 0 12
      · rw [if_pos cw] at f3 ⊢
        obtain ⟨F, e1, e2, e3⟩ := whet_S hN hs a4
        have e4 := e2.done' hN
        refine ⟨up2 F 320 4 (iI (mWhet a g 0 17 + 1)), ?_, e4, e3.up _ _ _ (by omega)⟩
        have e17 : F 320 4 = iI (mWhet a g 0 17) := e2.done
        simp (disch := first | decide | omega) only [f_Sim_pass_b42, f_Sim_pass_b141, f_Sim_pass_b151, ↓reduceIte, Int.reduceEq, Nat.add_zero, true_and, and_true, gd_T, bn_S, bv_S, lq_E, wI_s, sI_s, hI_s, hT_s, hL_s, hR_s, hJ_s, hN_s, hU_s, nI_L, z_i, o_i, iI_add, iI_sub, iI_mul, iI_neg, iI_lt, iI_le, iI_eq, iI_ix, Int.toNat_natCast, toNat_L, if_neg, if_pos, gd_P, inb, ix, hM.t, hM.tor, hM.lor, hM.oR, hM.oT, hM.oL, hs.orw, c0, ha, f1, f3, e1, e17]
        rfl
      · rw [if_neg cw] at f3 ⊢
        refine ⟨hI h, ?_, hs, Fs.refl _⟩
        simp (disch := first | decide | omega) only [f_Sim_pass_b42, f_Sim_pass_b151, ↓reduceIte, Int.reduceEq, Nat.add_zero, true_and, and_true, gd_T, bn_S, bv_S, lq_E, wI_s, sI_s, hI_s, hT_s, hL_s, hR_s, hJ_s, hN_s, hU_s, nI_L, z_i, o_i, iI_add, iI_sub, iI_mul, iI_neg, iI_lt, iI_le, iI_eq, iI_ix, Int.toNat_natCast, toNat_L, if_neg, if_pos, gd_P, inb, ix, hM.t, hM.tor, hM.lor, hM.oR, hM.oT, hM.oL, hs.orw, c0, ha, f1, f3]
        rfl
    · rw [if_neg c0]
      by_cases c1 : O i 0 = 1
      · rw [if_pos c1]
        have a4 : a < b := by have := w11 c1; omega
        have oQq := oQ q q4
        have f3 := load_S hN hs vB a4 q4 oQq.1 oQq.2 s2 s3
        by_cases cm : 1 ≤ mMany g a q (mSum g (O i))
        · rw [if_pos cm] at f3 ⊢
          obtain ⟨F, e1, e2, e3⟩ := f3
          have mb : mMany g a q (mSum g (O i)) ≤ 40 := by have := oB a a4; unfold mMany; split <;> omega
          have e4 := e2.done' hN
          refine ⟨up2 F 320 4 (iI (mLoad a q (mMany g a q (mSum g (O i))) g 0 17 + 1)), ?_, e4, e3.up _ _ _ (by omega)⟩
          have e17 : F 320 4 = iI (mLoad a q (mMany g a q (mSum g (O i))) g 0 17) := e2.done
          clear e4
          generalize mMany g a q (mSum g (O i)) = mm at *
          simp (disch := first | decide | omega) only [f_Sim_pass_b42, f_Sim_pass_b141, f_Sim_pass_b151, ↓reduceIte, Int.reduceEq, Nat.add_zero, true_and, and_true, gd_T, bn_S, bv_S, lq_E, wI_s, sI_s, hI_s, hT_s, hL_s, hR_s, hJ_s, hN_s, hU_s, nI_L, z_i, o_i, iI_add, iI_sub, iI_mul, iI_neg, iI_lt, iI_le, iI_eq, iI_ix, Int.toNat_natCast, toNat_L, if_neg, if_pos, gd_P, inb, ix, hM.t, hM.tor, hM.lor, hM.oR, hM.oT, hM.oL, hs.orw, c1, ha, hq, f1, f2, e1, e17]
          rfl
        · rw [if_neg cm] at f3 ⊢
          refine ⟨hI h, ?_, hs, Fs.refl _⟩
          simp (disch := first | decide | omega) only [f_Sim_pass_b42, f_Sim_pass_b151, ↓reduceIte, Int.reduceEq, Nat.add_zero, true_and, and_true, gd_T, bn_S, bv_S, lq_E, wI_s, sI_s, hI_s, hT_s, hL_s, hR_s, hJ_s, hN_s, hU_s, nI_L, z_i, o_i, iI_add, iI_sub, iI_mul, iI_neg, iI_lt, iI_le, iI_eq, iI_ix, Int.toNat_natCast, toNat_L, if_neg, if_pos, gd_P, inb, ix, hM.t, hM.tor, hM.lor, hM.oR, hM.oT, hM.oL, hs.orw, c1, ha, hq, f1, f2, f3]
          rfl
      · rw [if_neg c1]
        have c2 : O i 0 = 2 := by omega
        have a4 : a < p := by have := w12 (by omega); omega
        have s1 := hs.w hN (31 + a) 6 (Or.inr (Or.inr (Or.inr (Or.inr (Or.inl ⟨by omega, by omega, by decide⟩))))) (sA_p (by omega)) (sS_p (by omega)) (v := 1) rfl (by omega)
        have e4 := s1.done' hN
        refine ⟨up2 (up2 (hI h) (336 + n + m + a) 6 (iI 1)) 320 4 (iI (up2 g (31 + a) 6 1 0 17 + 1)), ?_, e4, ((Fs.refl _).up _ _ _ (by omega)).up _ _ _ (by omega)⟩
        have e17 := hs.done
        clear e4 s1
        simp (disch := first | decide | omega) only [f_Sim_pass_b42, f_Sim_pass_b141, f_Sim_pass_b151, ↓reduceIte, Int.reduceEq, Nat.add_zero, true_and, and_true, gd_T, bn_S, bv_S, lq_E, wI_s, sI_s, hI_s, hT_s, hL_s, hR_s, hJ_s, hN_s, hU_s, nI_L, z_i, o_i, iI_add, iI_sub, iI_mul, iI_neg, iI_lt, iI_le, iI_eq, iI_ix, Int.toNat_natCast, toNat_L, if_neg, if_pos, gd_P, inb, ix, hM.t, hM.r15, hM.tpe, hM.lpe, hM.pR, hM.pT, hM.pL, hM.tor, hM.lor, hM.oR, hM.oT, hM.oL, hs.orw, c2, ha, f1, e17, up2_n]
        rfl
  · rw [if_neg c] at f1
    rw [if_neg c]
    refine ⟨hI h, ?_, hs, Fs.refl _⟩
    simp (disch := first | decide | omega) only [f_Sim_pass_b42, f_Sim_pass_b151, Nat.add_zero, true_and, and_true, gd_T, bn_S, bv_S, lq_E, wI_s, sI_s, hI_s, hT_s, hL_s, hR_s, hJ_s, hN_s, hU_s, nI_L, z_i, o_i, iI_add, iI_sub, iI_mul, iI_neg, iI_lt, iI_le, iI_eq, iI_ix, Int.toNat_natCast, toNat_L, if_neg, if_pos, gd_P, inb, ix, hM.t, hM.tor, hM.lor, hM.oR, hM.oT, hM.oL, f1]
    rfl
end

/-! 62 L3: the sim: orders -/
theorem emod_L (a c : Int) : a - a / c * c = a % c := by rw [Int.emod_def, Int.mul_comm]
theorem ncm (u c : Nat) : (u : Int) % (c : Int) = ((u % c : Nat) : Int) := (Int.natCast_emod u c).symm
theorem cst_L (n : Nat) : ((no_index (OfNat.ofNat n) : Nat) : Int) = OfNat.ofNat n := rfl
theorem ncm4 (u : Nat) : (u : Int) % 4 = ((u % 4 : Nat) : Int) := by omega
section
variable {xA n m p b no : Nat} {O : Nat → Nat → Int} {T C Pb : Int} {h : AH} {g : GM}
theorem holds_S (hN : Nm n m p b) (hs : Sm xA n m p b no O h g) (hv : Iv n m p b T C Pb g) (hT : T ≤ 1000000) (hC : C ≤ 1000000) (hPb : Pb ≤ 900000) {i : Nat} (hi : i < no) (hw : Wk n m p b (O i)) : f_Sim_holds h 320 (338 + n + m + p + b + i) = some (h, iI (if mHolds n m p b g (O i) = true then 1 else 0)) := by
  have hM := hs.1
  have hok := Iv.ok hv hC hPb
  have q := IvQ.le hv
  obtain ⟨vS, vH, vG, vR, vP, vB, vQ, vE⟩ := hv
  have hpr : ∀ k : Nat, k < 4 → f_Sim_priceOf h 320 (iI (k : Int)) = some (h, iI (mPrice g k)) := fun k hk => priceOf_S hs vQ (fun k hk => by have := q k hk; omega) hk
  have hpb : ∀ k : Nat, k < 4 → 0 ≤ mPrice g k ∧ mPrice g k ≤ 50 := fun k hk => by have := vQ k hk; exact mPriceAt_b this.2.1 this.2.2.1 this.2.2.2.1
  have hrm : ∀ k : Nat, k < m → f_Sim_room h 320 (iI (k : Int)) = some (h, iI (mRoom g k)) := fun k hk => room_S hN hs vR hk
  have hrb : ∀ k : Nat, k < m → 0 ≤ mRoom g k ∧ mRoom g k ≤ 60 := fun k hk => by have := vR k hk; unfold IvR1 at this; unfold mRoom; omega
  obtain ⟨-, -, -, -, v11, v11', v12, v12', -, v13, -⟩ := vS
  have v11'' : g 0 11 ≤ 1000000 := by omega
  have v12'' : g 0 12 ≤ 1000000 := by omega
  clear v11' v12'
  have hN' := hN
  unfold Nm at hN'
  obtain ⟨⟨n1, n3⟩, ⟨m1, m3⟩, ⟨p1, p4⟩, b1, b3⟩ := hN'
  obtain ⟨-, -, -, -, -, w5, w6, w7⟩ := hw
  obtain ⟨u, hu⟩ : ∃ u : Nat, O i 6 = (u : Int) := ⟨(O i 6).toNat, by omega⟩
  have un : u % n < n := Nat.mod_lt _ (by omega)
  have um : u % m < m := Nat.mod_lt _ (by omega)
  have up : u % p < p := Nat.mod_lt _ (by omega)
  have ub : u % b < b := Nat.mod_lt _ (by omega)
  have u4 : u % 4 < 4 := Nat.mod_lt _ (by omega)
  have gG : 0 ≤ g (7 + u % n) 0 ∧ g (7 + u % n) 0 ≤ 99 := by have := vG _ un; omega
  have gP : 0 ≤ g (31 + u % p) 3 ∧ g (31 + u % p) 3 ≤ 20 := by have := vP _ up; omega
  have gB : 0 ≤ g (39 + u % b) 3 ∧ g (39 + u % b) 3 ≤ 2 ∧ 0 ≤ g (39 + u % b) 2 ∧ g (39 + u % b) 2 ≤ 60 := by have := vB _ ub; omega
  have gQ : 0 ≤ g (43 + u % 4) 0 ∧ g (43 + u % 4) 0 ≤ 1000000 := by have := vQ _ u4; have := q _ u4; omega
  have gp := hpb _ u4
  have gr := hrb _ um
  have fp := hpr _ u4
  have fr := hrm _ um
  rw [hu] at w6
  clear hpr hpb hrm hrb vG vP vB vQ vR vE vH q hok
  have hc : O i 5 = 0 ∨ O i 5 = 1 ∨ O i 5 = 2 ∨ O i 5 = 3 ∨ O i 5 = 4 ∨ O i 5 = 5 ∨ O i 5 = 6 ∨ O i 5 = 7 ∨ O i 5 = 8 := by omega
  clear w5 hT hPb v13
  rcases hc with c | c | c | c | c | c | c | c | c
  · rw [show mHolds n m p b g (O i) = (decide (O i 7 % 12 ≤ g 0 11 % 12)) from by unfold mHolds; rw [c] <;> rfl]
    simp only [decide_eq_true_eq, Bool.or_eq_true, Bool.and_eq_true, hu, Int.toNat_natCast]
    by_cases e0 : O i 7 % 12 ≤ g 0 11 % 12 <;> simp (disch := first | decide | omega) only [f_Sim_holds, f_Sim_holds_b200, ↓lq_E, ↓reduceIte, Int.reduceEq, Nat.add_zero, true_and, and_true, gd_T, bn_S, bv_S, lq_E, wI_s, sI_s, hI_s, hT_s, hL_s, hR_s, hJ_s, hN_s, hU_s, nI_i, cst_L, z_i, iI_add, iI_sub, iI_mul, iI_lt, iI_le, iI_eq, iI_ix, Int.toNat_natCast, toNat_L, if_neg, if_pos, gd_P, inb, ix, hM.t, hM.r7, hM.r8, hM.r9, hM.r10, hM.r11, hM.r12, hM.r13, hM.r14, hM.r15, hM.r16, hM.r17, hM.tst, hM.lst, hM.tga, hM.lga, hM.tra, hM.lra, hM.tpe, hM.lpe, hM.tbo, hM.lbo, hM.tor, hM.lor, hM.gR, hM.gT, hM.gL, hM.pR, hM.pT, hM.pL, hM.bR, hM.bT, hM.bL, hM.oR, hM.oT, hM.oL, hs.hour, hs.coins, hs.ga, hs.pe, hs.bo, hs.st, hs.orw, c, hu, iI_div, emod_L, ncm, ncm4]
  · rw [show mHolds n m p b g (O i) = (decide (g (31 + (O i 6).toNat % p) 3 < O i 7 % 21)) from by unfold mHolds; rw [c] <;> rfl]
    simp only [decide_eq_true_eq, Bool.or_eq_true, Bool.and_eq_true, hu, Int.toNat_natCast]
    by_cases e0 : g (31 + u % p) 3 < O i 7 % 21 <;> simp (disch := first | decide | omega) only [f_Sim_holds, f_Sim_holds_b200, ↓lq_E, ↓reduceIte, Int.reduceEq, Nat.add_zero, true_and, and_true, gd_T, bn_S, bv_S, lq_E, wI_s, sI_s, hI_s, hT_s, hL_s, hR_s, hJ_s, hN_s, hU_s, nI_i, cst_L, z_i, iI_add, iI_sub, iI_mul, iI_lt, iI_le, iI_eq, iI_ix, Int.toNat_natCast, toNat_L, if_neg, if_pos, gd_P, inb, ix, hM.t, hM.r7, hM.r8, hM.r9, hM.r10, hM.r11, hM.r12, hM.r13, hM.r14, hM.r15, hM.r16, hM.r17, hM.tst, hM.lst, hM.tga, hM.lga, hM.tra, hM.lra, hM.tpe, hM.lpe, hM.tbo, hM.lbo, hM.tor, hM.lor, hM.gR, hM.gT, hM.gL, hM.pR, hM.pT, hM.pL, hM.bR, hM.bT, hM.bL, hM.oR, hM.oT, hM.oL, hs.hour, hs.coins, hs.ga, hs.pe, hs.bo, hs.st, hs.orw, c, hu, iI_div, emod_L, ncm, ncm4]
  · rw [show mHolds n m p b g (O i) = (decide (g (31 + (O i 6).toNat % p) 3 = 0)) from by unfold mHolds; rw [c] <;> rfl]
    simp only [decide_eq_true_eq, Bool.or_eq_true, Bool.and_eq_true, hu, Int.toNat_natCast]
    by_cases e0 : g (31 + u % p) 3 = 0 <;> simp (disch := first | decide | omega) only [f_Sim_holds, f_Sim_holds_b200, ↓lq_E, ↓reduceIte, Int.reduceEq, Nat.add_zero, true_and, and_true, gd_T, bn_S, bv_S, lq_E, wI_s, sI_s, hI_s, hT_s, hL_s, hR_s, hJ_s, hN_s, hU_s, nI_i, cst_L, z_i, iI_add, iI_sub, iI_mul, iI_lt, iI_le, iI_eq, iI_ix, Int.toNat_natCast, toNat_L, if_neg, if_pos, gd_P, inb, ix, hM.t, hM.r7, hM.r8, hM.r9, hM.r10, hM.r11, hM.r12, hM.r13, hM.r14, hM.r15, hM.r16, hM.r17, hM.tst, hM.lst, hM.tga, hM.lga, hM.tra, hM.lra, hM.tpe, hM.lpe, hM.tbo, hM.lbo, hM.tor, hM.lor, hM.gR, hM.gT, hM.gL, hM.pR, hM.pT, hM.pL, hM.bR, hM.bT, hM.bL, hM.oR, hM.oT, hM.oL, hs.hour, hs.coins, hs.ga, hs.pe, hs.bo, hs.st, hs.orw, c, hu, iI_div, emod_L, ncm, ncm4]
  · rw [show mHolds n m p b g (O i) = (decide (g (39 + (O i 6).toNat % b) 3 = 0)) from by unfold mHolds; rw [c] <;> rfl]
    simp only [decide_eq_true_eq, Bool.or_eq_true, Bool.and_eq_true, hu, Int.toNat_natCast]
    by_cases e0 : g (39 + u % b) 3 = 0 <;> simp (disch := first | decide | omega) only [f_Sim_holds, f_Sim_holds_b200, ↓lq_E, ↓reduceIte, Int.reduceEq, Nat.add_zero, true_and, and_true, gd_T, bn_S, bv_S, lq_E, wI_s, sI_s, hI_s, hT_s, hL_s, hR_s, hJ_s, hN_s, hU_s, nI_i, cst_L, z_i, iI_add, iI_sub, iI_mul, iI_lt, iI_le, iI_eq, iI_ix, Int.toNat_natCast, toNat_L, if_neg, if_pos, gd_P, inb, ix, hM.t, hM.r7, hM.r8, hM.r9, hM.r10, hM.r11, hM.r12, hM.r13, hM.r14, hM.r15, hM.r16, hM.r17, hM.tst, hM.lst, hM.tga, hM.lga, hM.tra, hM.lra, hM.tpe, hM.lpe, hM.tbo, hM.lbo, hM.tor, hM.lor, hM.gR, hM.gT, hM.gL, hM.pR, hM.pT, hM.pL, hM.bR, hM.bT, hM.bL, hM.oR, hM.oT, hM.oL, hs.hour, hs.coins, hs.ga, hs.pe, hs.bo, hs.st, hs.orw, c, hu, iI_div, emod_L, ncm, ncm4]
  · rw [show mHolds n m p b g (O i) = (decide (O i 7 < g 0 12)) from by unfold mHolds; rw [c] <;> rfl]
    simp only [decide_eq_true_eq, Bool.or_eq_true, Bool.and_eq_true, hu, Int.toNat_natCast]
    by_cases e0 : O i 7 < g 0 12 <;> simp (disch := first | decide | omega) only [f_Sim_holds, f_Sim_holds_b200, ↓lq_E, ↓reduceIte, Int.reduceEq, Nat.add_zero, true_and, and_true, gd_T, bn_S, bv_S, lq_E, wI_s, sI_s, hI_s, hT_s, hL_s, hR_s, hJ_s, hN_s, hU_s, nI_i, cst_L, z_i, iI_add, iI_sub, iI_mul, iI_lt, iI_le, iI_eq, iI_ix, Int.toNat_natCast, toNat_L, if_neg, if_pos, gd_P, inb, ix, hM.t, hM.r7, hM.r8, hM.r9, hM.r10, hM.r11, hM.r12, hM.r13, hM.r14, hM.r15, hM.r16, hM.r17, hM.tst, hM.lst, hM.tga, hM.lga, hM.tra, hM.lra, hM.tpe, hM.lpe, hM.tbo, hM.lbo, hM.tor, hM.lor, hM.gR, hM.gT, hM.gL, hM.pR, hM.pT, hM.pL, hM.bR, hM.bT, hM.bL, hM.oR, hM.oT, hM.oL, hs.hour, hs.coins, hs.ga, hs.pe, hs.bo, hs.st, hs.orw, c, hu, iI_div, emod_L, ncm, ncm4]
  · rw [show mHolds n m p b g (O i) = (decide (O i 7 % 30 < mRoom g ((O i 6).toNat % m)) || decide (g (43 + (O i 6).toNat % 4) 0 < O i 7 % 9)) from by unfold mHolds; rw [c] <;> rfl]
    simp only [decide_eq_true_eq, Bool.or_eq_true, Bool.and_eq_true, hu, Int.toNat_natCast]
    by_cases e0 : O i 7 % 30 < mRoom g (u % m) <;> by_cases e1 : g (43 + u % 4) 0 < O i 7 % 9 <;> simp (disch := first | decide | omega) only [f_Sim_holds, f_Sim_holds_b200, ↓lq_E, ↓reduceIte, Int.reduceEq, Nat.add_zero, true_and, and_true, gd_T, bn_S, bv_S, lq_E, wI_s, sI_s, hI_s, hT_s, hL_s, hR_s, hJ_s, hN_s, hU_s, nI_i, cst_L, z_i, iI_add, iI_sub, iI_mul, iI_lt, iI_le, iI_eq, iI_ix, Int.toNat_natCast, toNat_L, if_neg, if_pos, gd_P, inb, ix, hM.t, hM.r7, hM.r8, hM.r9, hM.r10, hM.r11, hM.r12, hM.r13, hM.r14, hM.r15, hM.r16, hM.r17, hM.tst, hM.lst, hM.tga, hM.lga, hM.tra, hM.lra, hM.tpe, hM.lpe, hM.tbo, hM.lbo, hM.tor, hM.lor, hM.gR, hM.gT, hM.gL, hM.pR, hM.pT, hM.pL, hM.bR, hM.bT, hM.bL, hM.oR, hM.oT, hM.oL, hs.hour, hs.coins, hs.ga, hs.pe, hs.bo, hs.st, hs.orw, c, hu, iI_div, emod_L, ncm, ncm4, fr, true_or, or_true, or_self, e0, e1]
  · rw [show mHolds n m p b g (O i) = (decide (O i 7 % 60 ≤ g (7 + (O i 6).toNat % n) 0) && decide (1 ≤ mPrice g ((O i 6).toNat % 4))) from by unfold mHolds; rw [c] <;> rfl]
    simp only [decide_eq_true_eq, Bool.or_eq_true, Bool.and_eq_true, hu, Int.toNat_natCast]
    by_cases e0 : O i 7 % 60 ≤ g (7 + u % n) 0 <;> by_cases e1 : 1 ≤ mPrice g (u % 4) <;> simp (disch := first | decide | omega) only [f_Sim_holds, f_Sim_holds_b200, ↓lq_E, ↓reduceIte, Int.reduceEq, Nat.add_zero, true_and, and_true, gd_T, bn_S, bv_S, lq_E, wI_s, sI_s, hI_s, hT_s, hL_s, hR_s, hJ_s, hN_s, hU_s, nI_i, cst_L, z_i, iI_add, iI_sub, iI_mul, iI_lt, iI_le, iI_eq, iI_ix, Int.toNat_natCast, toNat_L, if_neg, if_pos, gd_P, inb, ix, hM.t, hM.r7, hM.r8, hM.r9, hM.r10, hM.r11, hM.r12, hM.r13, hM.r14, hM.r15, hM.r16, hM.r17, hM.tst, hM.lst, hM.tga, hM.lga, hM.tra, hM.lra, hM.tpe, hM.lpe, hM.tbo, hM.lbo, hM.tor, hM.lor, hM.gR, hM.gT, hM.gL, hM.pR, hM.pT, hM.pL, hM.bR, hM.bT, hM.bL, hM.oR, hM.oT, hM.oL, hs.hour, hs.coins, hs.ga, hs.pe, hs.bo, hs.st, hs.orw, c, hu, iI_div, emod_L, ncm, ncm4, fp, and_true, true_and, and_self, false_and, and_false, e0, e1]
  · rw [show mHolds n m p b g (O i) = (decide (g (39 + (O i 6).toNat % b) 2 ≤ O i 7 % 20)) from by unfold mHolds; rw [c] <;> rfl]
    simp only [decide_eq_true_eq, Bool.or_eq_true, Bool.and_eq_true, hu, Int.toNat_natCast]
    by_cases e0 : g (39 + u % b) 2 ≤ O i 7 % 20 <;> simp (disch := first | decide | omega) only [f_Sim_holds, f_Sim_holds_b200, ↓lq_E, ↓reduceIte, Int.reduceEq, Nat.add_zero, true_and, and_true, gd_T, bn_S, bv_S, lq_E, wI_s, sI_s, hI_s, hT_s, hL_s, hR_s, hJ_s, hN_s, hU_s, nI_i, cst_L, z_i, iI_add, iI_sub, iI_mul, iI_lt, iI_le, iI_eq, iI_ix, Int.toNat_natCast, toNat_L, if_neg, if_pos, gd_P, inb, ix, hM.t, hM.r7, hM.r8, hM.r9, hM.r10, hM.r11, hM.r12, hM.r13, hM.r14, hM.r15, hM.r16, hM.r17, hM.tst, hM.lst, hM.tga, hM.lga, hM.tra, hM.lra, hM.tpe, hM.lpe, hM.tbo, hM.lbo, hM.tor, hM.lor, hM.gR, hM.gT, hM.gL, hM.pR, hM.pT, hM.pL, hM.bR, hM.bT, hM.bL, hM.oR, hM.oT, hM.oL, hs.hour, hs.coins, hs.ga, hs.pe, hs.bo, hs.st, hs.orw, c, hu, iI_div, emod_L, ncm, ncm4]
  · rw [show mHolds n m p b g (O i) = true from by unfold mHolds; rw [c] <;> rfl]
    simp (disch := first | decide | omega) only [f_Sim_holds, f_Sim_holds_b200, ↓lq_E, ↓reduceIte, Int.reduceEq, Nat.add_zero, true_and, and_true, gd_T, bn_S, bv_S, lq_E, wI_s, sI_s, hI_s, hT_s, hL_s, hR_s, hJ_s, hN_s, hU_s, nI_i, cst_L, z_i, iI_add, iI_sub, iI_mul, iI_lt, iI_le, iI_eq, iI_ix, Int.toNat_natCast, toNat_L, if_neg, if_pos, gd_P, inb, ix, hM.t, hM.r7, hM.r8, hM.r9, hM.r10, hM.r11, hM.r12, hM.r13, hM.r14, hM.r15, hM.r16, hM.r17, hM.tst, hM.lst, hM.tga, hM.lga, hM.tra, hM.lra, hM.tpe, hM.lpe, hM.tbo, hM.lbo, hM.tor, hM.lor, hM.gR, hM.gT, hM.gL, hM.pR, hM.pT, hM.pL, hM.bR, hM.bT, hM.bL, hM.oR, hM.oT, hM.oL, hs.hour, hs.coins, hs.ga, hs.pe, hs.bo, hs.st, hs.orw, c, hu, iI_div, emod_L, ncm, ncm4]
end

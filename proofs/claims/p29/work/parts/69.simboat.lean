/-! 69 L3: the sim's hour, V: boats -/
theorem up2_o {α : Type} (f : Nat → Nat → α) (a k : Nat) (v w : α) : up2 (up2 f a k v) a k w = up2 f a k w := by
  funext c s
  by_cases e : c = a ∧ s = k
  · obtain ⟨rfl, rfl⟩ := e
    rw [up2_e, up2_e]
  · rw [up2_n _ _ _ _ _ _ e, up2_n _ _ _ _ _ _ e, up2_n _ _ _ _ _ _ e]
section
variable {xA n m p b no : Nat} {O : Nat → Nat → Int} {T C Pb : Int} {h : AH} {g : GM}
theorem Sm.sold' (hN : Nm n m p b) (hs : Sm xA n m p b no O h g) {i : Nat} (hi : i < b) : Sm xA n m p b no O (sI h (up2 (hI h) (337 + n + m + p + i) 4 (iI 0))) (up2 (up2 g (39 + i) 4 0) (39 + i) 5 (-1)) := by
  have hN' := hN
  unfold Nm at hN'
  have l4 : L0 n m p b (39 + i) 4 := Or.inr (Or.inr (Or.inr (Or.inr (Or.inr (Or.inl ⟨by omega, by omega, by decide⟩)))))
  have l5 : L0 n m p b (39 + i) 5 := Or.inr (Or.inr (Or.inr (Or.inr (Or.inr (Or.inl ⟨by omega, by omega, by decide⟩)))))
  obtain ⟨hM, hA, hB, hD, hO, hT, hX⟩ := hs
  have a1 := (AgS.up hN hA (39 + i) 4 l4 (sA_b (by omega)) (sS_b (by omega)) (x := iI 0) rfl)
  have hm : ∀ q', q' < m → mct (up2 (up2 g (39 + i) 4 0) (39 + i) 5 (-1)) q' = mct g q' := fun q' hq' => by
    rw [mct_L0 hN l5 _ hq', mct_L0 hN l4 _ hq']
  refine ⟨hM, ?_, fun q' hq' => ?_, fun q1 q2 j1 j2 h1 h2 h3 h4 h5 => ?_, fun x hx t ht => ?_, hT, hX.1, fun q' hq' j hj => hX.2 q' hq' j (by rw [hm q' hq'] at hj; exact hj)⟩
  · intro c s hl hp
    have ne5 : ¬ (c = 39 + i ∧ s = 5) := fun y => hp ⟨by omega, by omega, y.2, by rw [y.1, up2_n _ _ _ _ _ _ (by omega), up2_e]⟩
    rw [up2_n _ _ _ _ _ _ ne5]
    refine a1 c s hl ?_
    by_cases e4 : c = 39 + i ∧ s = 4
    · exact Or.inr e4
    · refine Or.inl (fun y => hp ⟨y.1, y.2.1, y.2.2.1, ?_⟩)
      rw [up2_n _ _ _ _ _ _ (by omega), up2_n _ _ _ _ _ _ (by omega)]
      exact y.2.2.2
  · obtain ⟨b1, b2, b3, b4, b5⟩ := hB q' hq'
    unfold SB1
    rw [hm q' hq']
    refine ⟨b1, b2, b3, b4, fun j hj => ?_⟩
    obtain ⟨d1, d2, d3, d4, d5, d6, d7, d8⟩ := b5 j hj
    have d3' := d3
    unfold tp at d3'
    simp (disch := omega) only [hI_s, hR_s, up2_n]
    exact ⟨d1, d2, d3, d4, d5, d6, d7, d8⟩
  · rw [hm q1 h1] at h3
    rw [hm q2 h2] at h4
    exact hD q1 q2 j1 j2 h1 h2 h3 h4 h5
  · rw [hI_s, up2_n _ _ _ _ _ _ (by omega)]
    exact hO x hx t ht
theorem simBoat_n (hN : Nm n m p b) (hs : Sm xA n m p b no O h g) (hv : Iv n m p b T C Pb g) {i : Nat} (hi : i < b) (hc : ¬ (g (39 + i) 3 = 1 ∧ g 0 13 ≤ g (39 + i) 2 + max 1 (g (39 + i) 1 - g 0 14))) (k : AH → Nat → Nat → Int32 → Int32 → Option AH) :
    ∃ F, f_Sim_pass_b688 k h 320 (336 + n + m + p) (iI (b : Int)) (iI (i : Int)) = f_Sim_pass_b897 k (sI h F) 320 (336 + n + m + p) (iI (b : Int)) (iI (i : Int)) ∧ Sm xA n m p b no O (sI h F) (mBoat1 i g) ∧ Fs (338 + n + m + p + b + no) (hI h) F := by
  have hM := hs.1
  have hN' := hN
  unfold Nm at hN'
  have hB := hv.2.2.2.2.2.1 i hi
  have hS := hv.1
  unfold IvSc at hS
  have b1 : 1 ≤ g (39 + i) 1 ∧ g (39 + i) 1 ≤ 9 ∧ 0 ≤ g (39 + i) 2 ∧ g (39 + i) 2 ≤ 60 ∧ 0 ≤ g (39 + i) 3 ∧ g (39 + i) 3 ≤ 2 := by omega
  have b2 : 1 ≤ g 0 13 ∧ g 0 13 ≤ 60 ∧ 0 ≤ g 0 14 ∧ g 0 14 ≤ 5 := by omega
  clear hB hS hv
  have l2 : L0 n m p b (39 + i) 2 := Or.inr (Or.inr (Or.inr (Or.inr (Or.inr (Or.inl ⟨by omega, by omega, by decide⟩)))))
  have l3 : L0 n m p b (39 + i) 3 := Or.inr (Or.inr (Or.inr (Or.inr (Or.inr (Or.inl ⟨by omega, by omega, by decide⟩)))))
  unfold mBoat1
  by_cases c0 : g (39 + i) 3 = 0
  · rw [if_pos c0]
    refine ⟨hI h, ?_, hs, Fs.refl _⟩
    simp (disch := first | decide | omega) only [f_Sim_pass_b688, Nat.add_zero, true_and, and_true, gd_T, bn_S, bv_S, lq_E, wI_s, sI_s, hI_s, hT_s, hL_s, hR_s, hJ_s, hN_s, hU_s, nI_L, z_i, o_i, iI_add, iI_sub, iI_mul, iI_neg, iI_lt, iI_le, iI_eq, iI_ix, Int.toNat_natCast, toNat_L, if_neg, if_pos, gd_P, inb, ix, hM.tbo, hM.lbo, hM.bR, hM.bT, hM.bL, hs.bo, c0]
    rfl
  · rw [if_neg c0]
    by_cases c2 : g (39 + i) 3 = 2
    · rw [if_pos c2]
      by_cases c3 : g (39 + i) 2 - (g (39 + i) 1 + g 0 14) ≤ 0
      · rw [show max 0 (g (39 + i) 2 - g (39 + i) 1 - g 0 14) = 0 by omega, if_pos rfl]
        have s1 := hs.w hN (39 + i) 2 l2 (sA_b (by omega)) (sS_b (by omega)) (v := 0) rfl (by omega)
        have s2 := s1.w hN (39 + i) 3 l3 (sA_b (by omega)) (sS_b (by omega)) (v := 0) rfl (by omega)
        refine ⟨_, ?_, s2, ((Fs.refl _).up _ _ _ (by omega)).up _ _ _ (by omega)⟩
        simp (disch := first | decide | omega) only [f_Sim_pass_b688, Nat.add_zero, true_and, and_true, gd_T, bn_S, bv_S, lq_E, wI_s, sI_s, hI_s, hT_s, hL_s, hR_s, hJ_s, hN_s, hU_s, nI_L, z_i, o_i, iI_add, iI_sub, iI_mul, iI_neg, iI_lt, iI_le, iI_eq, iI_ix, Int.toNat_natCast, toNat_L, if_neg, if_pos, gd_P, inb, ix, hM.t, hM.tbo, hM.lbo, hM.bR, hM.bT, hM.bL, hs.bo, hs.current, c2, up2_e, up2_o]
      · rw [show max 0 (g (39 + i) 2 - g (39 + i) 1 - g 0 14) = g (39 + i) 2 - (g (39 + i) 1 + g 0 14) by omega, if_neg (by omega)]
        have s1 := hs.w hN (39 + i) 2 l2 (sA_b (by omega)) (sS_b (by omega)) (v := g (39 + i) 2 - (g (39 + i) 1 + g 0 14)) rfl (by omega)
        rw [up2_self (up2 g (39 + i) 2 (g (39 + i) 2 - (g (39 + i) 1 + g 0 14))) (39 + i) 3 (by rw [up2_n _ _ _ _ _ _ (by omega)]; exact c2.symm)]
        refine ⟨_, ?_, s1, (Fs.refl _).up _ _ _ (by omega)⟩
        simp (disch := first | decide | omega) only [f_Sim_pass_b688, Nat.add_zero, true_and, and_true, gd_T, bn_S, bv_S, lq_E, wI_s, sI_s, hI_s, hT_s, hL_s, hR_s, hJ_s, hN_s, hU_s, nI_L, z_i, o_i, iI_add, iI_sub, iI_mul, iI_neg, iI_lt, iI_le, iI_eq, iI_ix, Int.toNat_natCast, toNat_L, if_neg, if_pos, gd_P, inb, ix, hM.t, hM.tbo, hM.lbo, hM.bR, hM.bT, hM.bL, hs.bo, hs.current, c2, up2_e]
    · rw [if_neg c2]
      have c1 : g (39 + i) 3 = 1 := by omega
      have c4 : g (39 + i) 2 + max 1 (g (39 + i) 1 - g 0 14) < g 0 13 := by omega
      rw [if_neg (by omega), show min (g 0 13) (g (39 + i) 2 + max 1 (g (39 + i) 1 - g 0 14)) = g (39 + i) 2 + max 1 (g (39 + i) 1 - g 0 14) by omega]
      have s1 := hs.w hN (39 + i) 2 l2 (sA_b (by omega)) (sS_b (by omega)) (v := g (39 + i) 2 + max 1 (g (39 + i) 1 - g 0 14)) rfl (by omega)
      rw [up2_self (up2 g (39 + i) 2 (g (39 + i) 2 + max 1 (g (39 + i) 1 - g 0 14))) (39 + i) 3 (by rw [up2_n _ _ _ _ _ _ (by omega)]; exact c1.symm)]
      refine ⟨_, ?_, s1, (Fs.refl _).up _ _ _ (by omega)⟩
      by_cases c5 : g (39 + i) 1 ≤ g 0 14
      · rw [show max 1 (g (39 + i) 1 - g 0 14) = 1 by omega] at c4 ⊢
        simp (disch := first | decide | omega) only [f_Sim_pass_b688, f_Sim_pass_b737, Nat.add_zero, true_and, and_true, gd_T, bn_S, bv_S, lq_E, wI_s, sI_s, hI_s, hT_s, hL_s, hR_s, hJ_s, hN_s, hU_s, nI_L, z_i, o_i, iI_add, iI_sub, iI_mul, iI_neg, iI_lt, iI_le, iI_eq, iI_ix, Int.toNat_natCast, toNat_L, if_neg, if_pos, gd_P, inb, ix, hM.t, hM.tbo, hM.lbo, hM.bR, hM.bT, hM.bL, hs.bo, hs.current, hs.miles, c1, up2_e, up2_n]
      · rw [show max 1 (g (39 + i) 1 - g 0 14) = g (39 + i) 1 - g 0 14 by omega] at c4 ⊢
        simp (disch := first | decide | omega) only [f_Sim_pass_b688, f_Sim_pass_b737, Nat.add_zero, true_and, and_true, gd_T, bn_S, bv_S, lq_E, wI_s, sI_s, hI_s, hT_s, hL_s, hR_s, hJ_s, hN_s, hU_s, nI_L, z_i, o_i, iI_add, iI_sub, iI_mul, iI_neg, iI_lt, iI_le, iI_eq, iI_ix, Int.toNat_natCast, toNat_L, if_neg, if_pos, gd_P, inb, ix, hM.t, hM.tbo, hM.lbo, hM.bR, hM.bT, hM.bL, hs.bo, hs.current, hs.miles, c1, up2_e, up2_n]
end

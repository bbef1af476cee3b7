/-! 63 L3: the sim: sums, loading, grades -/
section
variable {xA n m p b no : Nat} {O : Nat → Nat → Int} {T C Pb : Int} {h : AH} {g : GM}
theorem sum_S (hs : Sm xA n m p b no O h g) (hv : Iv n m p b T C Pb g) (hPb : Pb ≤ 900000) {i : Nat} (hi : i < no) (hw : Wk n m p b (O i)) : f_Sim_sum h 320 (338 + n + m + p + b + i) = some (h, iI (mSum g (O i))) := by
  have hM := hs.1
  have q := IvQ.le hv
  obtain ⟨vS, vH, vG, vR, vP, vB, vQ, vE⟩ := hv
  have hpr : ∀ k : Nat, k < 4 → f_Sim_priceOf h 320 (iI (k : Int)) = some (h, iI (mPrice g k)) := fun k hk => priceOf_S hs vQ (fun k hk => by have := q k hk; omega) hk
  obtain ⟨-, -, w2, w3, w4, -⟩ := hw
  obtain ⟨k, hk⟩ : ∃ k : Nat, O i 2 = (k : Int) := ⟨(O i 2).toNat, by omega⟩
  have k4 : k < 4 := by omega
  have fp := hpr k k4
  have gQ : 0 ≤ g (43 + k) 0 ∧ g (43 + k) 0 ≤ 1000000 := by have := vQ _ k4; have := q _ k4; omega
  clear hpr vS vH vG vR vP vB vQ vE q hPb
  have hc : O i 3 = 0 ∨ O i 3 = 1 ∨ O i 3 = 2 ∨ O i 3 = 3 := by omega
  rcases hc with c | c | c | c
  · rw [show mSum g (O i) = O i 4 % 50 from by unfold mSum; rw [c] <;> rfl]
    simp (disch := first | decide | omega) only [f_Sim_sum, ↓lq_E, ↓reduceIte, Int.reduceEq, Nat.add_zero, true_and, and_true, gd_T, bn_S, bv_S, lq_E, wI_s, sI_s, hI_s, hT_s, hL_s, hR_s, hJ_s, hN_s, hU_s, nI_i, cst_L, z_i, iI_add, iI_sub, iI_mul, iI_lt, iI_le, iI_eq, iI_ix, Int.toNat_natCast, toNat_L, if_neg, if_pos, gd_P, inb, ix, hM.t, hM.oT, hM.oL, hs.orw, c, hk, iI_div, emod_L]
  · rw [show mSum g (O i) = g (43 + (O i 2).toNat) 0 - O i 4 % 7 from by unfold mSum; rw [c] <;> rfl]
    simp (disch := first | decide | omega) only [f_Sim_sum, ↓lq_E, ↓reduceIte, Int.reduceEq, Nat.add_zero, true_and, and_true, gd_T, bn_S, bv_S, lq_E, wI_s, sI_s, hI_s, hT_s, hL_s, hR_s, hJ_s, hN_s, hU_s, nI_i, cst_L, z_i, iI_add, iI_sub, iI_mul, iI_lt, iI_le, iI_eq, iI_ix, Int.toNat_natCast, toNat_L, if_neg, if_pos, gd_P, inb, ix, hM.t, hM.r9, hM.tst, hM.lst, hM.oT, hM.oL, hs.orw, hs.st, c, hk, iI_div, emod_L]
  · rw [show mSum g (O i) = max (g (43 + (O i 2).toNat) 0 / 2) (O i 4 % 9) from by unfold mSum; rw [c] <;> rfl]
    simp (disch := first | decide | omega) only [f_Sim_sum, ↓lq_E, ↓reduceIte, Int.reduceEq, Nat.add_zero, true_and, and_true, gd_T, bn_S, bv_S, lq_E, wI_s, sI_s, hI_s, hT_s, hL_s, hR_s, hJ_s, hN_s, hU_s, nI_i, cst_L, z_i, iI_add, iI_sub, iI_mul, iI_lt, iI_le, iI_eq, iI_ix, Int.toNat_natCast, toNat_L, if_neg, if_pos, gd_P, inb, ix, hM.t, hM.r9, hM.tst, hM.lst, hM.oT, hM.oL, hs.orw, hs.st, c, hk, iI_div, emod_L, max_E]
  · rw [show mSum g (O i) = mPrice g (O i 2).toNat * 2 + O i 4 % 5 from by unfold mSum; rw [c] <;> rfl]
    simp (disch := first | decide | omega) only [f_Sim_sum, ↓lq_E, ↓reduceIte, Int.reduceEq, Nat.add_zero, true_and, and_true, gd_T, bn_S, bv_S, lq_E, wI_s, sI_s, hI_s, hT_s, hL_s, hR_s, hJ_s, hN_s, hU_s, nI_i, cst_L, z_i, iI_add, iI_sub, iI_mul, iI_lt, iI_le, iI_eq, iI_ix, Int.toNat_natCast, toNat_L, if_neg, if_pos, gd_P, inb, ix, hM.t, hM.oT, hM.oL, hs.orw, c, hk, iI_div, emod_L, fp]
theorem Sm.quills (hN : Nm n m p b) (hs : Sm xA n m p b no O h g) {i k : Nat} (hi : i < b) (hk : k < 4) {q : Int} (hq : q ≠ 0) : Sm xA n m p b no O (sI h (up2 (up2 (hI h) (337 + n + m + p + i) 4 (iI q)) (337 + n + m + p + i) 5 (iI (k : Int)))) (up2 (up2 g (39 + i) 4 q) (39 + i) 5 (k : Int)) := by
  have hN' := hN
  unfold Nm at hN'
  have l4 : L0 n m p b (39 + i) 4 := Or.inr (Or.inr (Or.inr (Or.inr (Or.inr (Or.inl ⟨by omega, by omega, by decide⟩)))))
  have l5 : L0 n m p b (39 + i) 5 := Or.inr (Or.inr (Or.inr (Or.inr (Or.inr (Or.inl ⟨by omega, by omega, by decide⟩)))))
  obtain ⟨hM, hA, hB, hD, hO, hT, hX⟩ := hs
  have a1 := (AgS.up hN hA (39 + i) 4 l4 (sA_b (by omega)) (sS_b (by omega)) (x := iI q) rfl)
  have a2 := (AgS.up hN a1 (39 + i) 5 l5 (sA_b (by omega)) (sS_b (by omega)) (x := iI (k : Int)) rfl)
  have hm : ∀ q', q' < m → mct (up2 (up2 g (39 + i) 4 q) (39 + i) 5 (k : Int)) q' = mct g q' := fun q' hq' => by
    rw [mct_L0 hN l5 _ hq', mct_L0 hN l4 _ hq']
  refine ⟨hM, a2.mono ?_, fun q' hq' => ?_, fun q1 q2 j1 j2 h1 h2 h3 h4 h5 => ?_, fun x hx t ht => ?_, hT, hX.1, fun q' hq' j hj => hX.2 q' hq' j (by rw [hm q' hq'] at hj; exact hj)⟩
  · intro c s hp
    by_cases e5 : c = 39 + i ∧ s = 5
    · exact Or.inr e5
    · by_cases e4 : c = 39 + i ∧ s = 4
      · exact Or.inl (Or.inr e4)
      · refine Or.inl (Or.inl (fun y => hp ⟨y.1, y.2.1, y.2.2.1, ?_⟩))
        rw [up2_n _ _ _ _ _ _ (by omega), up2_n _ _ _ _ _ _ (by omega)]
        exact y.2.2.2
  · obtain ⟨b1, b2, b3, b4, b5⟩ := hB q' hq'
    unfold SB1
    rw [hm q' hq']
    refine ⟨b1, b2, b3, b4, fun j hj => ?_⟩
    obtain ⟨d1, d2, d3, d4, d5, d6, d7, d8⟩ := b5 j hj
    have d3' := d3
    unfold tp at d3'
    simp (disch := omega) only [hI_s, hR_s, up2_n]
    exact ⟨d1, d2, d3, d4, d5, d6, d7, d8⟩
  · rw [hm q1 h1] at h3
    rw [hm q2 h2] at h4
    exact hD q1 q2 j1 j2 h1 h2 h3 h4 h5
  · rw [hI_s, up2_n _ _ _ _ _ _ (by omega), up2_n _ _ _ _ _ _ (by omega)]
    exact hO x hx t ht
end

/-! 70 L3: the sim's hour, VI: a boat comes to the market -/
section
variable {xA n m p b no : Nat} {O : Nat → Nat → Int} {T C Pb : Int} {h : AH} {g : GM}
theorem simBoat_s (hN : Nm n m p b) (hs : Sm xA n m p b no O h g) (hv : Iv n m p b T C Pb g) (hPb : Pb ≤ 900000) {i : Nat} (hi : i < b) (hc : g (39 + i) 3 = 1 ∧ g 0 13 ≤ g (39 + i) 2 + max 1 (g (39 + i) 1 - g 0 14)) (k : AH → Nat → Nat → Int32 → Int32 → Option AH) :
    ∃ F, f_Sim_pass_b688 k h 320 (336 + n + m + p) (iI (b : Int)) (iI (i : Int)) = f_Sim_pass_b897 k (sI h F) 320 (336 + n + m + p) (iI (b : Int)) (iI (i : Int)) ∧ Sm xA n m p b no O (sI h F) (mBoat1 i g) ∧ Fs (338 + n + m + p + b + no) (hI h) F := by
  have hM := hs.1
  have hN' := hN
  unfold Nm at hN'
  have hB := hv.2.2.2.2.2.1 i hi
  have hS := hv.1
  unfold IvSc at hS
  obtain ⟨c1, c4⟩ := hc
  have b1 : 1 ≤ g (39 + i) 1 ∧ g (39 + i) 1 ≤ 9 ∧ 0 ≤ g (39 + i) 2 ∧ g (39 + i) 2 ≤ 60 := by omega
  have b2 : 1 ≤ g 0 13 ∧ g 0 13 ≤ 60 ∧ 0 ≤ g 0 14 ∧ g 0 14 ≤ 5 := by omega
  have b3 : 1 ≤ g (39 + i) 4 ∧ g (39 + i) 4 ≤ 40 ∧ 0 ≤ g (39 + i) 5 ∧ g (39 + i) 5 < 4 := by omega
  obtain ⟨kq, hk⟩ : ∃ kq : Nat, g (39 + i) 5 = (kq : Int) := ⟨(g (39 + i) 5).toNat, by omega⟩
  obtain ⟨q, hq⟩ : ∃ q : Nat, g (39 + i) 4 = (q : Int) := ⟨(g (39 + i) 4).toNat, by omega⟩
  have k4 : kq < 4 := by omega
  have vQ := hv.2.2.2.2.2.2.1 kq k4
  have vq := IvQ.le hv kq k4
  have h5 : hI h (337 + n + m + p + i) 5 = iI (kq : Int) := by
    have := hs.2.1.bo (i := i) (s := 5) (by omega) hi (by decide) (PL_q (by omega))
    rw [this, hk]
  clear hB hS hv
  have l : ∀ s, s < 7 → L0 n m p b (39 + i) s := fun s hs => Or.inr (Or.inr (Or.inr (Or.inr (Or.inr (Or.inl ⟨by omega, by omega, hs⟩)))))
  have lq : ∀ s, s < 4 → L0 n m p b (43 + kq) s := fun s hs => Or.inr (Or.inr (Or.inr (Or.inr (Or.inr (Or.inr ⟨by omega, by omega, hs⟩)))))
  have s1 := hs.w hN (39 + i) 2 (l 2 (by decide)) (sA_b (by omega)) (sS_b (by omega)) (v := g 0 13) rfl (by omega)
  have s2 := s1.w hN (39 + i) 3 (l 3 (by decide)) (sA_b (by omega)) (sS_b (by omega)) (v := 2) rfl (by omega)
  have e4 := hs.bo (i := i) (s := 4) (by omega) hi (by decide) (by decide)
  rw [hq] at e4
  obtain ⟨F', d1, d2, d3, d4, d5, d6, d7, d8⟩ := sell_l (h0 := h) hM hi k4 (by omega) (told := g (43 + kq) 1) (by omega) (by omega) k (336 + n + m + p) (iI (b : Int)) (iI (i : Int)) q FU (up2 (up2 (hI h) (337 + n + m + p + i) 2 (iI (g 0 13))) (337 + n + m + p + i) 3 (iI 2)) (g (43 + kq) 2) (g 0 12) (g (39 + i) 6) (g (43 + kq) 3) (g 0 16) (by unfold FU; omega) (by omega) (by omega) (by omega)
    (by simp (disch := omega) only [up2_n]; exact e4) (by simp (disch := omega) only [up2_n]; exact h5) (by simp (disch := omega) only [up2_n]; exact hs.bo (by omega) hi (by decide) (by decide)) (by simp (disch := omega) only [up2_n]; exact hs.coins) (by simp (disch := omega) only [up2_n]; exact hs.sold) (by simp (disch := omega) only [up2_n]; exact hs.pr k4) (by simp (disch := omega) only [up2_n]; exact hs.gl k4) (by simp (disch := omega) only [up2_n]; exact hs.go k4)
  generalize hw : mWorth (g (43 + kq) 1) q (g (43 + kq) 2) = w at *
  have t1 := s2.w hN (43 + kq) 2 (lq 2 (by decide)) (a := 324) (k := kq) (by rw [sA_q]; rfl) sS_q (v := g (43 + kq) 2 + (q : Int)) rfl (by omega)
  have t2 := t1.w hN (43 + kq) 3 (lq 3 (by decide)) (a := 325) (k := kq) (by rw [sA_q]; rfl) sS_q (v := g (43 + kq) 3 + (q : Int)) rfl (by omega)
  have t3 := t2.w hN 0 16 (Or.inl ⟨rfl, by decide, by decide⟩) (a := 320) (k := 3) rfl rfl (v := g 0 16 + (q : Int)) rfl (by omega)
  have t4 := t3.w hN 0 12 (Or.inl ⟨rfl, by decide, by decide⟩) (a := 320) (k := 1) rfl rfl (v := g 0 12 + w) rfl (by omega)
  have t5 := t4.w hN (39 + i) 6 (l 6 (by decide)) (sA_b (by omega)) (sS_b (by omega)) (v := g (39 + i) 6 + w) rfl (by omega)
  have t6 := t5.sold' hN hi
  have eF : F' = up2 (up2 (up2 (up2 (up2 (up2 (up2 (up2 (hI h) (337 + n + m + p + i) 2 (iI (g 0 13))) (337 + n + m + p + i) 3 (iI 2)) 324 kq (iI (g (43 + kq) 2 + (q : Int)))) 325 kq (iI (g (43 + kq) 3 + (q : Int)))) 320 3 (iI (g 0 16 + (q : Int)))) 320 1 (iI (g 0 12 + w))) (337 + n + m + p + i) 6 (iI (g (39 + i) 6 + w))) (337 + n + m + p + i) 4 (iI 0) := by
    funext c s
    by_cases q1 : c = 337 + n + m + p + i ∧ s = 4
    · obtain ⟨rfl, rfl⟩ := q1; rw [up2_e]; exact d2
    · by_cases q2 : c = 337 + n + m + p + i ∧ s = 6
      · obtain ⟨rfl, rfl⟩ := q2; simp (disch := omega) only [up2_n, up2_e]; exact d3
      · by_cases q3 : c = 320 ∧ s = 1
        · obtain ⟨rfl, rfl⟩ := q3; simp (disch := omega) only [up2_n, up2_e]; exact d4
        · by_cases q4 : c = 320 ∧ s = 3
          · obtain ⟨rfl, rfl⟩ := q4; simp (disch := omega) only [up2_n, up2_e]; exact d5
          · by_cases q5 : c = 325 ∧ s = kq
            · obtain ⟨rfl, rfl⟩ := q5; simp (disch := omega) only [up2_n, up2_e]; exact d7
            · by_cases q6 : c = 324 ∧ s = kq
              · obtain ⟨rfl, rfl⟩ := q6; simp (disch := omega) only [up2_n, up2_e]; exact d6
              · rw [d8 c s (by omega) (by omega) (by omega) (by omega), up2_n _ _ _ _ _ _ q1, up2_n _ _ _ _ _ _ q2, up2_n _ _ _ _ _ _ q3, up2_n _ _ _ _ _ _ q4, up2_n _ _ _ _ _ _ q5, up2_n _ _ _ _ _ _ q6]
  have eM : mBoat1 i g = up2 (up2 (up2 (up2 (up2 (up2 (up2 (up2 (up2 g (39 + i) 2 (g 0 13)) (39 + i) 3 2) (43 + kq) 2 (g (43 + kq) 2 + (q : Int))) (43 + kq) 3 (g (43 + kq) 3 + (q : Int))) 0 16 (g 0 16 + (q : Int))) 0 12 (g 0 12 + w)) (39 + i) 6 (g (39 + i) 6 + w)) (39 + i) 4 0) (39 + i) 5 (-1) := by
    unfold mBoat1 mSell
    rw [if_neg (by omega), if_neg (by omega), if_pos (by omega)]
    simp (disch := omega) only [up2_n, hk, hq, Int.toNat_natCast, hw]
  refine ⟨F', ?_, by rw [eF, eM]; exact t6, ?_⟩
  · refine Eq.trans ?_ d1
    clear d1 d2 d3 d4 d5 d6 d7 d8 s1 s2 t1 t2 t3 t4 t5 t6 eF eM vQ vq
    by_cases c5 : g (39 + i) 1 ≤ g 0 14
    · rw [show max 1 (g (39 + i) 1 - g 0 14) = 1 by omega] at c4
      simp (disch := first | decide | omega) only [f_Sim_pass_b688, f_Sim_pass_b737, Nat.add_zero, true_and, and_true, gd_T, bn_S, bv_S, lq_E, wI_s, sI_s, hI_s, hT_s, hL_s, hR_s, hJ_s, hN_s, hU_s, nI_L, z_i, o_i, iI_add, iI_sub, iI_mul, iI_neg, iI_lt, iI_le, iI_eq, iI_ix, Int.toNat_natCast, toNat_L, if_neg, if_pos, gd_P, inb, ix, hM.t, hM.tbo, hM.lbo, hM.bR, hM.bT, hM.bL, hs.bo, hs.current, hs.miles, c1, up2_e, up2_n, up2_o]
    · rw [show max 1 (g (39 + i) 1 - g 0 14) = g (39 + i) 1 - g 0 14 by omega] at c4
      simp (disch := first | decide | omega) only [f_Sim_pass_b688, f_Sim_pass_b737, Nat.add_zero, true_and, and_true, gd_T, bn_S, bv_S, lq_E, wI_s, sI_s, hI_s, hT_s, hL_s, hR_s, hJ_s, hN_s, hU_s, nI_L, z_i, o_i, iI_add, iI_sub, iI_mul, iI_neg, iI_lt, iI_le, iI_eq, iI_ix, Int.toNat_natCast, toNat_L, if_neg, if_pos, gd_P, inb, ix, hM.t, hM.tbo, hM.lbo, hM.bR, hM.bT, hM.bL, hs.bo, hs.current, hs.miles, c1, up2_e, up2_n, up2_o]
  · rw [eF]
    exact (((((((((Fs.refl _).up _ _ _ (by omega)).up _ _ _ (by omega)).up _ _ _ (by omega)).up _ _ _ (by omega)).up _ _ _ (by omega)).up _ _ _ (by omega)).up _ _ _ (by omega)).up _ _ _ (by omega))
end

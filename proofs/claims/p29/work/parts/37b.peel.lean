/-! 37b L3: a peeler, in the class -/
theorem letPeel_E {n m p b r : Nat} {T C Pb : Int} {h : AH} {g : GM} (hN : Nm n m p b) (hS : SkR h r) (hP : RP n m p b r (hI h) g) (hv : Iv n m p b T C Pb g) {i : Nat} (hi : i < p) :
    ∃ F, f_River_letPeel h r (r + (31 + i)) = some (sI h F) ∧ RP n m p b r F (mPeel1 i g) ∧ Fm r (hI h) F := by
  obtain ⟨⟨-, n4⟩, ⟨-, m4⟩, ⟨-, p4⟩, -⟩ := hN
  obtain ⟨hvS, hvH, hvG, hvR, hvP, hvB, hvQ, hvE⟩ := hv
  obtain ⟨v1, v2, -⟩ := hvS
  have hpi := hvP i hi
  obtain ⟨G, hG⟩ : ∃ G : Nat, g (31 + i) 0 = (G : Int) := ⟨(g (31 + i) 0).toNat, by omega⟩
  obtain ⟨K, hK⟩ : ∃ K : Nat, g (31 + i) 1 = (K : Int) := ⟨(g (31 + i) 1).toNat, by omega⟩
  rw [hG, hK] at hpi
  obtain ⟨-, p2, -, p3, p5, p6, p7, p8, p9, -⟩ := hpi
  have G1 : G < n := by omega
  have K1 : K < m := by omega
  obtain ⟨g1, g2, -⟩ := hvG G G1
  obtain ⟨r1, r2, r3, r4, r5, -, -⟩ := hvR K K1
  obtain ⟨x, hx⟩ : ∃ x : Nat, g (11 + 5 * K) 2 = (x : Int) := ⟨(g (11 + 5 * K) 2).toNat, by unfold mct at r3; omega⟩
  have hx2 : mct g K = (x : Int) := hx
  rw [hx2] at r4
  have f1 := hasGarden_E hS hP (i := (G : Int)) (by omega) (by omega) (by omega) v1
  have f2 := hasRack_E hS hP (i := (K : Int)) (by omega) (by omega) (by omega) v2
  have f3 := most_E hS hP hi (by omega) (by omega) (by omega) (by omega) (by omega)
  have f4 := free_E hS hP (K := K) (by omega) (by omega)
  have hmost : 0 ≤ mMost g i ∧ mMost g i ≤ 9 := by unfold mMost; split <;> (try split) <;> omega
  have hroom : 0 ≤ mRoom g K ∧ mRoom g K ≤ 60 := by unfold mRoom; omega
  have hpl : mPeels g i = min (mMost g i) (min (g (7 + G) 0) (mRoom g K)) := by unfold mPeels; rw [hG, hK]; rfl
  unfold mPeel1
  rw [hG, hK]
  simp only [Int.toNat_natCast]
  clear hvG hvR hvP hvB hvQ hvE hvH v1 v2
  by_cases k1 : g (31 + i) 6 = 0
  · by_cases k2 : 1 ≤ mPeels g i
    · rw [if_pos ⟨k1, k2⟩]
      generalize hq : mPeels g i = q at *
      have hq2 : q ≤ g (11 + 5 * K) 0 - g (11 + 5 * K) 1 := by unfold mRoom at hpl; omega
      have hP1 := RP.up (by omega) hP (7 + G) 0 (v := g (7 + G) 0 - q) rfl (by omega)
      have y : up2 g (7 + G) 0 (g (7 + G) 0 - q) (11 + 5 * K) 2 = (x : Int) := by rw [up2_n _ _ _ _ _ _ (by omega)]; exact hx
      have y1 : up2 g (7 + G) 0 (g (7 + G) 0 - q) (11 + 5 * K) 1 = g (11 + 5 * K) 1 := by rw [up2_n _ _ _ _ _ _ (by omega)]
      have f5 := lay_E (h := sI h (up2 (hI h) (r + (7 + G)) 0 (iI (g (7 + G) 0 - q)))) hS hP1 (K := K) (q := q) (t := g (7 + G) 2) K1 (by omega) y (by omega)
      have hP2 := RP.lay hP1 (K := K) (q := q) (t := g (7 + G) 2) K1 (by unfold mct; omega) x (by unfold mct; omega)
      rw [y1] at f5
      rw [y, y1] at hP2
      have hP3 := ((hP2.up (by omega) (31 + i) 3 (v := g (31 + i) 3 - 1) rfl (by omega)).up (by omega) (31 + i) 4 (v := g (31 + i) 4 + q) rfl (by omega)).up (by omega) 0 15 (v := g 0 15 + q) rfl (by omega)
      refine ⟨_, ?_, hP3, ?_⟩
      · clear hP2 hP3 hP1 y y1
        simp (disch := first | decide | omega) only [f_River_letPeel, Nat.add_zero, true_and, and_true, gd_T, bn_S, bv_S, lq_E, wI_s, sI_s, hI_s, hT_s, hL_s, hR_s, hJ_s, hN_s, hU_s, nI_L, z_i, o_i, iI_add, iI_sub, iI_mul, iI_neg, iI_lt, iI_le, iI_eq, iI_ix, Int.toNat_natCast, if_neg, if_pos, gd_P, inb, ix, hS.t, hS.f0, hS.f1, hS.f2, hS.f3, hS.f4, hS.f5, hS.at1, hS.al1, hS.at2, hS.al2, hS.at3, hS.al3, hS.at4, hS.al4, hS.at5, hS.al5, hS.at6, hS.al6, hS.gR, hS.gT, hS.kR, hS.kT, hS.k3, hS.k4, hS.k5, hS.k6, hS.kt1, hS.kt2, hS.kt3, hS.kt4, hS.kl1, hS.kl2, hS.kl3, hS.kl4, hS.pR, hS.pT, hS.bR, hS.bT, hS.qR, hS.qT, hP.sc, hP.pe, hP.ga, hG, hK, k1, f1, f2, f3, f4, min_E, ← hpl, f5, up2_e, up2_n]
      · exact ((((((((((Fm.refl _ _).up _ _ _ (by omega)).up _ _ _ (by omega)).up _ _ _ (by omega)).up _ _ _ (by omega)).up _ _ _ (by omega)).up _ _ _ (by omega)).up _ _ _ (by omega)).up _ _ _ (by omega)).up _ _ _ (by omega)).up 0 15 _ (by omega)
    · rw [if_neg (fun q => k2 q.2)]
      refine ⟨hI h, ?_, hP, Fm.refl _ _⟩
      simp (disch := first | decide | omega) only [f_River_letPeel, Nat.add_zero, true_and, and_true, gd_T, bn_S, bv_S, lq_E, wI_s, sI_s, hI_s, hT_s, hL_s, hR_s, hJ_s, hN_s, hU_s, nI_L, z_i, o_i, iI_add, iI_sub, iI_mul, iI_neg, iI_lt, iI_le, iI_eq, iI_ix, Int.toNat_natCast, if_neg, if_pos, gd_P, inb, ix, hS.t, hS.f0, hS.f1, hS.f2, hS.f3, hS.f4, hS.f5, hS.at1, hS.al1, hS.at2, hS.al2, hS.at3, hS.al3, hS.at4, hS.al4, hS.at5, hS.al5, hS.at6, hS.al6, hS.gR, hS.gT, hS.kR, hS.kT, hS.k3, hS.k4, hS.k5, hS.k6, hS.kt1, hS.kt2, hS.kt3, hS.kt4, hS.kl1, hS.kl2, hS.kl3, hS.kl4, hS.pR, hS.pT, hS.bR, hS.bT, hS.qR, hS.qT, hP.sc, hP.pe, hP.ga, hG, hK, k1, f1, f2, f3, f4, min_E, ← hpl]
      rfl
  · rw [if_neg (fun q => k1 q.1)]
    refine ⟨hI h, ?_, hP, Fm.refl _ _⟩
    have k3 : g (31 + i) 6 = 1 := by omega
    simp (disch := first | decide | omega) only [f_River_letPeel, Nat.add_zero, true_and, and_true, gd_T, bn_S, bv_S, lq_E, wI_s, sI_s, hI_s, hT_s, hL_s, hR_s, hJ_s, hN_s, hU_s, nI_L, z_i, o_i, iI_add, iI_sub, iI_mul, iI_neg, iI_lt, iI_le, iI_eq, iI_ix, Int.toNat_natCast, hS.pT, hP.pe, if_pos, k3]
    rfl

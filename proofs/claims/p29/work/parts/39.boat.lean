/-! 39 L3: prices, boats, the end of an hour, in the class -/
theorem mPriceAt_b {t q : Int} (h1 : 0 ≤ t) (h2 : t ≤ 50) (h3 : 0 ≤ q) : 0 ≤ mPriceAt t q ∧ mPriceAt t q ≤ 50 := by unfold mPriceAt; omega
theorem priceAt_E {n m p b r : Nat} {h : AH} {g : GM} (hS : SkR h r) (hP : RP n m p b r (hI h) g) {k : Nat} (hk : k < 4) {q : Int} (h0 : 0 ≤ q) (h1 : q < 2000000) (h2 : 0 ≤ g (43 + k) 1) (h3 : g (43 + k) 1 ≤ 50) : f_Grade_priceAt h (r + (43 + k)) (iI q) = some (h, iI (mPriceAt (g (43 + k) 1) q)) := by
  unfold mPriceAt
  by_cases c : g (43 + k) 1 - q / 4 ≤ 0
  · simp (disch := first | decide | omega) only [f_Grade_priceAt, Nat.add_zero, true_and, and_true, gd_T, bn_S, bv_S, lq_E, wI_s, sI_s, hI_s, hT_s, hL_s, hR_s, hJ_s, hN_s, hU_s, nI_L, z_i, o_i, iI_add, iI_sub, iI_mul, iI_neg, iI_lt, iI_le, iI_eq, iI_ix, Int.toNat_natCast, if_neg, if_pos, gd_P, inb, ix, hS.qT, hP.gr, iI_div]
    rw [Int.max_eq_left (by omega)]
  · simp (disch := first | decide | omega) only [f_Grade_priceAt, Nat.add_zero, true_and, and_true, gd_T, bn_S, bv_S, lq_E, wI_s, sI_s, hI_s, hT_s, hL_s, hR_s, hJ_s, hN_s, hU_s, nI_L, z_i, o_i, iI_add, iI_sub, iI_mul, iI_neg, iI_lt, iI_le, iI_eq, iI_ix, Int.toNat_natCast, if_neg, if_pos, gd_P, inb, ix, hS.qT, hP.gr, iI_div]
    rw [Int.max_eq_right (by omega)]
theorem worthOf_l {n m p b r : Nat} {h : AH} {g : GM} (hS : SkR h r) (hP : RP n m p b r (hI h) g) {k : Nat} (hk : k < 4) (h0 : 0 ≤ g (43 + k) 2) (h1 : g (43 + k) 2 < 1000000) (h2 : 0 ≤ g (43 + k) 1) (h3 : g (43 + k) 1 ≤ 50) {q : Nat} (hq : q ≤ 100) :
    ∀ (e j fu : Nat) (w : Int), e + j = q → e < fu → f_Grade_worthOf_l4 fu h (r + (43 + k)) (iI (q : Int)) (iI w) (iI (j : Int)) = some (h, iI (w + mWorth (g (43 + k) 1) e (g (43 + k) 2 + j))) := by
  intro e
  induction e with
  | zero =>
    intro j fu w he hf
    obtain ⟨fu, rfl⟩ : ∃ x, fu = x + 1 := ⟨fu - 1, by omega⟩
    show f_Grade_worthOf_b4 (f_Grade_worthOf_l4 fu) h (r + (43 + k)) (iI (q : Int)) (iI w) (iI (j : Int)) = _
    simp (disch := first | decide | omega) only [f_Grade_worthOf_b4, iI_lt, iI_le, iI_eq, iI_ix, Int.toNat_natCast, if_pos, mWorth, Int.add_zero]
  | succ e ih =>
    intro j fu w he hf
    obtain ⟨fu, rfl⟩ : ∃ x, fu = x + 1 := ⟨fu - 1, by omega⟩
    have f1 := priceAt_E hS hP hk (q := g (43 + k) 2 + j) (by omega) (by omega) h2 h3
    have f2 := ih (j + 1) fu (w + mPriceAt (g (43 + k) 1) (g (43 + k) 2 + j)) (by omega) (by omega)
    show f_Grade_worthOf_b4 (f_Grade_worthOf_l4 fu) h (r + (43 + k)) (iI (q : Int)) (iI w) (iI (j : Int)) = _
    simp (disch := first | decide | omega) only [f_Grade_worthOf_b4, Nat.add_zero, true_and, and_true, gd_T, bn_S, bv_S, lq_E, wI_s, sI_s, hI_s, hT_s, hL_s, hR_s, hJ_s, hN_s, hU_s, nI_L, z_i, o_i, iI_add, iI_sub, iI_mul, iI_neg, iI_lt, iI_le, iI_eq, iI_ix, Int.toNat_natCast, if_neg, if_pos, gd_P, inb, ix, hS.qT, hP.gr, f1]
    refine Eq.trans f2 ?_
    rw [show mWorth (g (43 + k) 1) (e + 1) (g (43 + k) 2 + (j : Int)) = mPriceAt (g (43 + k) 1) (g (43 + k) 2 + (j : Int)) + mWorth (g (43 + k) 1) e (g (43 + k) 2 + (j : Int) + 1) from rfl]
    rw [show (g (43 + k) 2 + ((j + 1 : Nat) : Int)) = g (43 + k) 2 + (j : Int) + 1 by omega, Int.add_assoc]
theorem worthOf_E {n m p b r : Nat} {h : AH} {g : GM} (hS : SkR h r) (hP : RP n m p b r (hI h) g) {k : Nat} (hk : k < 4) (h0 : 0 ≤ g (43 + k) 2) (h1 : g (43 + k) 2 < 1000000) (h2 : 0 ≤ g (43 + k) 1) (h3 : g (43 + k) 1 ≤ 50) {q : Int} (hq0 : 0 ≤ q) (hq : q ≤ 100) :
    f_Grade_worthOf h (r + (43 + k)) (iI q) = some (h, iI (mWorth (g (43 + k) 1) q.toNat (g (43 + k) 2))) := by
  have f := worthOf_l hS hP hk h0 h1 h2 h3 (q := q.toNat) (by omega) q.toNat 0 FU 0 (by omega) (by unfold FU; omega)
  rw [Int.toNat_of_nonneg hq0, Int.zero_add, show g (43 + k) 2 + ((0 : Nat) : Int) = g (43 + k) 2 by omega] at f
  exact f
theorem sell_E {n m p b r : Nat} {h : AH} {g : GM} (hm : m ≤ 4) (hb : b ≤ 4) (hS : SkR h r) (hP : RP n m p b r (hI h) g) {i : Nat} (hi : i < b) (h5 : 0 ≤ g (39 + i) 5) (h5' : g (39 + i) 5 < 4) (h4 : 0 ≤ g (39 + i) 4) (h4' : g (39 + i) 4 ≤ 40) (hq : IvQ g) (hg : ∀ k, k < 4 → g (43 + k) 2 < 1000000) :
    ∃ F, f_River_sellQuills h r (r + (39 + i)) = some (sI h F) ∧ RP n m p b r F (mSell i g) ∧ Fm r (hI h) F := by
  obtain ⟨K, hK⟩ : ∃ K : Nat, g (39 + i) 5 = (K : Int) := ⟨(g (39 + i) 5).toNat, by omega⟩
  have hk : K < 4 := by omega
  obtain ⟨q1, q2, q3, q4, q5⟩ := hq K hk
  have q6 := hg K hk
  have f1 := hasGrade_E (h := h) (r := r) (i := (K : Int)) (by omega) (by omega)
  have f2 := worthOf_E hS hP hk q4 q6 q2 q3 h4 (by omega)
  unfold mSell
  rw [hK]
  simp only [Int.toNat_natCast]
  generalize mWorth (g (43 + K) 1) (g (39 + i) 4).toNat (g (43 + K) 2) = w at *
  refine ⟨_, ?_, ((((((hP.up (by omega) (43 + K) 2 (v := g (43 + K) 2 + g (39 + i) 4) rfl (by omega)).up (by omega) (43 + K) 3 (v := g (43 + K) 3 + g (39 + i) 4) rfl (by omega)).up (by omega) 0 16 (v := g 0 16 + g (39 + i) 4) rfl (by omega)).up (by omega) 0 12 (v := g 0 12 + w) rfl (by omega)).up (by omega) (39 + i) 6 (v := g (39 + i) 6 + w) rfl (by omega)).up (by omega) (39 + i) 4 (v := 0) rfl (by omega)).up (by omega) (39 + i) 5 (v := -1) rfl (by omega), (((((((Fm.refl _ _).up _ _ _ (by omega)).up _ _ _ (by omega)).up _ _ _ (by omega)).up _ _ _ (by omega)).up _ _ _ (by omega)).up _ _ _ (by omega)).up _ _ _ (by omega)⟩
  simp (disch := first | decide | omega) only [f_River_sellQuills, f_River_sellQuills_b89, Nat.add_zero, true_and, and_true, gd_T, bn_S, bv_S, lq_E, wI_s, sI_s, hI_s, hT_s, hL_s, hR_s, hJ_s, hN_s, hU_s, nI_L, z_i, o_i, iI_add, iI_sub, iI_mul, iI_neg, iI_lt, iI_le, iI_eq, iI_ix, Int.toNat_natCast, if_neg, if_pos, gd_P, inb, ix, hS.t, hS.f0, hS.f1, hS.f2, hS.f3, hS.f4, hS.f5, hS.at1, hS.al1, hS.at2, hS.al2, hS.at3, hS.al3, hS.at4, hS.al4, hS.at5, hS.al5, hS.at6, hS.al6, hS.gR, hS.gT, hS.kR, hS.kT, hS.k3, hS.k4, hS.k5, hS.k6, hS.kt1, hS.kt2, hS.kt3, hS.kt4, hS.kl1, hS.kl2, hS.kl3, hS.kl4, hS.pR, hS.pT, hS.bR, hS.bT, hS.qR, hS.qT, hP.bo, hP.gr, hP.sc, hK, f1, f2, up2_e, up2_n]
theorem boat_E {n m p b r : Nat} {T C Pb : Int} {h : AH} {g : GM} (hN : Nm n m p b) (hS : SkR h r) (hP : RP n m p b r (hI h) g) (hv : Iv n m p b T C Pb g) {i : Nat} (hi : i < b) (hg : ∀ k, k < 4 → g (43 + k) 2 < 1000000) (k : AH → Nat → Int32 → Option AH) :
    ∃ F, (bn (f_Boat_comesToMarket h (r + (39 + i)) (iI (g 0 13)) (iI (g 0 14))) fun h6 r7 => if r7 = 0 then k h6 r (iI (i : Int)) else bv (f_River_sellQuills h6 r (r + (39 + i))) fun h11 => k h11 r (iI (i : Int))) = k (sI h F) r (iI (i : Int)) ∧ RP n m p b r F (mBoat1 i g) ∧ Fm r (hI h) F := by
  unfold Nm at hN
  obtain ⟨hvS, hvH, hvG, hvR, hvP, hvB, hvQ, hvE⟩ := hv
  unfold IvSc at hvS
  have hbi := hvB i hi
  unfold mBoat1
  by_cases c0 : g (39 + i) 3 = 0
  · rw [if_pos c0]
    refine ⟨hI h, ?_, hP, Fm.refl _ _⟩
    simp (disch := first | decide | omega) only [f_Boat_comesToMarket, Nat.add_zero, true_and, and_true, gd_T, bn_S, bv_S, lq_E, wI_s, sI_s, hI_s, hT_s, hL_s, hR_s, hJ_s, hN_s, hU_s, nI_L, z_i, o_i, iI_add, iI_sub, iI_mul, iI_neg, iI_lt, iI_le, iI_eq, iI_ix, Int.toNat_natCast, if_neg, if_pos, gd_P, inb, ix, hS.bT, hP.bo, c0, up2_e, up2_n]
    rfl
  · rw [if_neg c0]
    by_cases c2 : g (39 + i) 3 = 2
    · rw [if_pos c2]
      by_cases c3 : max 0 (g (39 + i) 2 - g (39 + i) 1 - g 0 14) = 0
      · rw [c3, if_pos rfl]
        refine ⟨_, ?_, (hP.up (by omega) (39 + i) 2 (v := 0) rfl (by omega)).up (by omega) (39 + i) 3 (v := 0) rfl (by omega), ((Fm.refl _ _).up _ _ _ (by omega)).up _ _ _ (by omega)⟩
        simp (disch := first | decide | omega) only [f_Boat_comesToMarket, f_Boat_comesToMarket_b40, Nat.add_zero, true_and, and_true, gd_T, bn_S, bv_S, lq_E, wI_s, sI_s, hI_s, hT_s, hL_s, hR_s, hJ_s, hN_s, hU_s, nI_L, z_i, o_i, iI_add, iI_sub, iI_mul, iI_neg, iI_lt, iI_le, iI_eq, iI_ix, Int.toNat_natCast, if_neg, if_pos, gd_P, inb, ix, hS.bT, hP.bo, c2, max_E, c3, up2_e, up2_n]
      · rw [if_neg c3]
        refine ⟨_, ?_, (hP.up (by omega) (39 + i) 2 (v := max 0 (g (39 + i) 2 - g (39 + i) 1 - g 0 14)) rfl (by omega)).up (by omega) (39 + i) 3 (v := 2) rfl (by omega), ((Fm.refl _ _).up _ _ _ (by omega)).up _ _ _ (by omega)⟩
        simp (disch := first | decide | omega) only [f_Boat_comesToMarket, f_Boat_comesToMarket_b40, Nat.add_zero, true_and, and_true, gd_T, bn_S, bv_S, lq_E, wI_s, sI_s, hI_s, hT_s, hL_s, hR_s, hJ_s, hN_s, hU_s, nI_L, z_i, o_i, iI_add, iI_sub, iI_mul, iI_neg, iI_lt, iI_le, iI_eq, iI_ix, Int.toNat_natCast, if_neg, if_pos, gd_P, inb, ix, hS.bT, hP.bo, c2, max_E, up2_e, up2_n]
    · rw [if_neg c2]
      have c1 : g (39 + i) 3 = 1 := by omega
      by_cases c3 : min (g 0 13) (g (39 + i) 2 + max 1 (g (39 + i) 1 - g 0 14)) = g 0 13
      · rw [if_pos c3]
        have P1 := (hP.up (by omega) (39 + i) 2 (v := g 0 13) rfl (by omega)).up (by omega) (39 + i) 3 (v := 2) rfl (by omega)
        obtain ⟨F, q1, q2, q3⟩ := sell_E (h := sI h (up2 (up2 (hI h) (r + (39 + i)) 2 (iI (g 0 13))) (r + (39 + i)) 3 (iI 2))) (by omega) (by omega) hS P1 hi (by simp (disch := omega) only [up2_n]; omega) (by simp (disch := omega) only [up2_n]; omega) (by simp (disch := omega) only [up2_n]; omega) (by simp (disch := omega) only [up2_n]; omega) (hvQ.congr fun k hk s hs => by simp (disch := omega) only [up2_n]) (fun k hk => by simp (disch := omega) only [up2_n]; exact hg k hk)
        refine ⟨F, ?_, q2, (((Fm.refl _ _).up _ _ _ (by omega)).up _ _ _ (by omega)).trans q3⟩
        simp (disch := first | decide | omega) only [f_Boat_comesToMarket, f_Boat_comesToMarket_b91, Nat.add_zero, true_and, and_true, gd_T, bn_S, bv_S, lq_E, wI_s, sI_s, hI_s, hT_s, hL_s, hR_s, hJ_s, hN_s, hU_s, nI_L, z_i, o_i, iI_add, iI_sub, iI_mul, iI_neg, iI_lt, iI_le, iI_eq, iI_ix, Int.toNat_natCast, if_neg, if_pos, gd_P, inb, ix, hS.bT, hP.bo, c1, max_E, min_E, c3, q1, up2_e, up2_n]
      · rw [if_neg c3]
        refine ⟨_, ?_, (hP.up (by omega) (39 + i) 2 (v := min (g 0 13) (g (39 + i) 2 + max 1 (g (39 + i) 1 - g 0 14))) rfl (by omega)).up (by omega) (39 + i) 3 (v := 1) rfl (by omega), ((Fm.refl _ _).up _ _ _ (by omega)).up _ _ _ (by omega)⟩
        simp (disch := first | decide | omega) only [f_Boat_comesToMarket, f_Boat_comesToMarket_b91, Nat.add_zero, true_and, and_true, gd_T, bn_S, bv_S, lq_E, wI_s, sI_s, hI_s, hT_s, hL_s, hR_s, hJ_s, hN_s, hU_s, nI_L, z_i, o_i, iI_add, iI_sub, iI_mul, iI_neg, iI_lt, iI_le, iI_eq, iI_ix, Int.toNat_natCast, if_neg, if_pos, gd_P, inb, ix, hS.bT, hP.bo, c1, max_E, min_E, up2_e, up2_n]

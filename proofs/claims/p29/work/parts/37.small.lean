/-! 37 L3: the small steps of an hour, in the class -/
theorem RP.lay {n m p b r : Nat} {F : Nat → Nat → Int32} {g : GM} (hP : RP n m p b r F g) {K : Nat} {q t : Int} (hK : K < m) (h0 : 0 ≤ mct g K) (x : Nat) (hx : (mct g K).toNat = x) :
    RP n m p b r (up2 (up2 (up2 (up2 (up2 (up2 F (r + (12 + 5 * K)) x (iI q)) (r + (13 + 5 * K)) x (iI t)) (r + (14 + 5 * K)) x (iI 0)) (r + (15 + 5 * K)) x (iI 0)) (r + (11 + 5 * K)) 2 (iI (g (11 + 5 * K) 2 + 1))) (r + (11 + 5 * K)) 1 (iI (g (11 + 5 * K) 1 + q))) (mLay K q t g) := by
  have a := (((((Ag.up hP (12 + 5 * K) x (v := q) rfl).up (13 + 5 * K) x (v := t) rfl).up (14 + 5 * K) x (v := 0) rfl).up (15 + 5 * K) x (v := 0) rfl).up (11 + 5 * K) 2 (v := g (11 + 5 * K) 2 + 1) rfl).up (11 + 5 * K) 1 (v := g (11 + 5 * K) 1 + q) rfl
  subst hx
  refine Ag.mono a ?_
  intro c s hl
  have hct : ∀ k, k < m → mct (mLay K q t g) k = if k = K then mct g K + 1 else mct g k := by
    intro k hk
    unfold mLay
    by_cases e : k = K
    · subst e
      rw [if_pos rfl]
      show up2 _ _ _ _ (11 + 5 * k) 2 = _
      rw [up2_n _ _ _ _ _ _ (by omega), up2_e]
      rfl
    · rw [if_neg e]
      show up2 _ _ _ _ (11 + 5 * k) 2 = _
      simp (disch := omega) only [up2_n]
      rfl
  unfold Lv at hl
  unfold Lv
  rcases hl with hl | hl | hl | hl | hl | hl
  · omega
  · omega
  · omega
  · omega
  · rw [hct _ (by omega)] at hl
    by_cases e : (c - 11) / 5 = K
    · rw [if_pos e] at hl
      rw [e]
      by_cases e2 : (s : Int) < mct g K
      · omega
      · have : s = (mct g K).toNat := by omega
        omega
    · rw [if_neg e] at hl
      omega
  · omega
theorem lay_E {n m p b r : Nat} {h : AH} {g : GM} (hS : SkR h r) (hP : RP n m p b r (hI h) g) {K : Nat} {q t : Int} (hK : K < m) (hm : m ≤ 4) (h0 : 0 ≤ mct g K) (h1 : mct g K < 60) :
    f_Rack_lay h (r + (11 + 5 * K)) (iI q) (iI t) = some (sI h (up2 (up2 (up2 (up2 (up2 (up2 (hI h) (r + (12 + 5 * K)) (mct g K).toNat (iI q)) (r + (13 + 5 * K)) (mct g K).toNat (iI t)) (r + (14 + 5 * K)) (mct g K).toNat (iI 0)) (r + (15 + 5 * K)) (mct g K).toNat (iI 0)) (r + (11 + 5 * K)) 2 (iI (g (11 + 5 * K) 2 + 1))) (r + (11 + 5 * K)) 1 (iI (g (11 + 5 * K) 1 + q)))) := by
  obtain ⟨g1, g2, g3, g4, g5, g6, g7, g8, g9, ga, gb, gc, gd, ge⟩ := hS.2.2.2.2.2.2.2.2.2.1 K (by omega)
  have e1 := hP.ra K 1 hK (by decide)
  have e2 := hP.ra K 2 hK (by decide)
  unfold mct at h0 h1
  unfold mct
  simp (disch := omega) only [f_Rack_lay, true_and, and_true, gd_T, bn_S, bv_S, lq_E, wI_s, sI_s, hI_s, hT_s, hL_s, hR_s, hJ_s, hN_s, hU_s, nI_L, z_i, o_i, iI_add, iI_sub, iI_mul, iI_neg, iI_lt, iI_le, iI_eq, iI_ix, Int.toNat_natCast, inb, ix, g2, g3, g4, g5, g6, g7, g8, g9, ga, gb, gc, gd, ge, e1, e2, up2_n, up2_e, if_neg, if_pos, gd_P]
theorem free_E {n m p b r : Nat} {h : AH} {g : GM} (hS : SkR h r) (hP : RP n m p b r (hI h) g) {K : Nat} (hK : K < m) (hm : m ≤ 4) : f_Rack_free h (r + (11 + 5 * K)) = some (h, iI (mRoom g K)) := by
  have g2 := (hS.2.2.2.2.2.2.2.2.2.1 K (by omega)).2.1
  have e1 := hP.ra K 0 hK (by decide)
  have e2 := hP.ra K 1 hK (by decide)
  simp (disch := omega) only [f_Rack_free, true_and, and_true, gd_T, bn_S, bv_S, lq_E, wI_s, sI_s, hI_s, hT_s, hL_s, hR_s, hJ_s, hN_s, hU_s, nI_L, z_i, o_i, iI_add, iI_sub, iI_mul, iI_neg, g2, e1, e2]
  rfl
theorem most_E {n m p b r : Nat} {h : AH} {g : GM} (hS : SkR h r) (hP : RP n m p b r (hI h) g) {i : Nat} (hi : i < p) (hp : p ≤ 8) (h1 : 0 ≤ g (31 + i) 3) (h2 : g (31 + i) 3 ≤ 20) (h3 : 1 ≤ g (31 + i) 2) (h4 : g (31 + i) 2 ≤ 9) : f_Peeler_mostInAnHour h (r + (31 + i)) = some (h, iI (mMost g i)) := by
  have g2 := (hS.2.2.2.2.2.2.2.2.2.2.1 i (by omega)).2
  have e1 := hP.pe i 2 hi (by decide)
  have e2 := hP.pe i 3 hi (by decide)
  unfold mMost
  by_cases c1 : g (31 + i) 3 < 1
  · simp (disch := omega) only [f_Peeler_mostInAnHour, true_and, and_true, gd_T, bn_S, bv_S, lq_E, wI_s, sI_s, hI_s, hT_s, hL_s, hR_s, hJ_s, hN_s, hU_s, nI_L, z_i, o_i, iI_add, iI_sub, iI_mul, iI_neg, iI_lt, iI_le, iI_eq, iI_ix, Int.toNat_natCast, g2, e1, e2, if_neg, if_pos]
  · by_cases c2 : g (31 + i) 3 < 10
    · simp (disch := omega) only [f_Peeler_mostInAnHour, true_and, and_true, gd_T, bn_S, bv_S, lq_E, wI_s, sI_s, hI_s, hT_s, hL_s, hR_s, hJ_s, hN_s, hU_s, nI_L, z_i, o_i, iI_add, iI_sub, iI_mul, iI_neg, iI_lt, iI_le, iI_eq, iI_ix, Int.toNat_natCast, g2, e1, e2, if_neg, if_pos, iI_div]
    · simp (disch := omega) only [f_Peeler_mostInAnHour, true_and, and_true, gd_T, bn_S, bv_S, lq_E, wI_s, sI_s, hI_s, hT_s, hL_s, hR_s, hJ_s, hN_s, hU_s, nI_L, z_i, o_i, iI_add, iI_sub, iI_mul, iI_neg, iI_lt, iI_le, iI_eq, iI_ix, Int.toNat_natCast, g2, e1, e2, if_neg, if_pos]
theorem letPeel_E {n m p b r : Nat} {T C Pb : Int} {h : AH} {g : GM} (hN : Nm n m p b) (hS : SkR h r) (hP : RP n m p b r (hI h) g) (hv : Iv n m p b T C Pb g) (hb : Pb < 1000000) {i : Nat} (hi : i < p) :
    ∃ F, f_River_letPeel h r (r + (31 + i)) = some (sI h F) ∧ RP n m p b r F (mPeel1 i g) ∧ Fm r (hI h) F := by
  unfold Nm at hN
  obtain ⟨hvS, hvH, hvG, hvR, hvP, hvB, hvQ, hvE⟩ := hv
  unfold IvSc at hvS
  have hpi := hvP i hi
  obtain ⟨G, hG⟩ : ∃ G : Nat, g (31 + i) 0 = (G : Int) := ⟨(g (31 + i) 0).toNat, by omega⟩
  obtain ⟨K, hK⟩ : ∃ K : Nat, g (31 + i) 1 = (K : Int) := ⟨(g (31 + i) 1).toNat, by omega⟩
  rw [hG, hK] at hpi
  have hg1 := hvG G (by omega)
  obtain ⟨r1, r2, r3, r4, r5, -, -⟩ := hvR K (by omega)
  have s0 := hS.1
  have s1 := hS.2.1
  have s2 := hS.2.2.1
  obtain ⟨t1, t2, t3, t4, -⟩ := hS.2.2.2.2.2.2.2.1
  obtain ⟨a1, a2⟩ := hS.2.2.2.2.2.2.2.2.1 G (by omega)
  obtain ⟨b1, b2, -⟩ := hS.2.2.2.2.2.2.2.2.2.1 K (by omega)
  obtain ⟨c1, c2⟩ := hS.2.2.2.2.2.2.2.2.2.2.1 i (by omega)
  have e0 := hP.pe i 0 hi (by decide)
  have e1 := hP.pe i 1 hi (by decide)
  have e3 := hP.pe i 3 hi (by decide)
  have e4 := hP.pe i 4 hi (by decide)
  have e6 := hP.pe i 6 hi (by decide)
  rw [hG] at e0
  rw [hK] at e1
  have q0 := hP.ga G 0 (by omega) (by decide)
  have q2 := hP.ga G 2 (by omega) (by decide)
  have q15 := hP.sc 15 (by decide) (by decide)
  have f1 := hasGarden_E hS hP (i := (G : Int)) (by omega) (by omega) (by omega) hvS.1
  have f2 := hasRack_E hS hP (i := (K : Int)) (by omega) (by omega) (by omega) hvS.2.1
  have f3 := most_E hS hP hi (by omega) (by omega) (by omega) (by omega) (by omega)
  have f4 := free_E hS hP (K := K) (by omega) (by omega)
  have hmost : 0 ≤ mMost g i ∧ mMost g i ≤ 9 := by unfold mMost; split <;> (try split) <;> omega
  have hroom : 0 ≤ mRoom g K ∧ mRoom g K ≤ 60 := by unfold mRoom; omega
  have hpl : mPeels g i = min (mMost g i) (min (g (7 + G) 0) (mRoom g K)) := by unfold mPeels; rw [hG, hK]; rfl
  unfold mPeel1
  rw [hG, hK]
  simp only [Int.toNat_natCast]
  by_cases k1 : g (31 + i) 6 = 0
  · by_cases k2 : 1 ≤ mPeels g i
    · rw [if_pos ⟨k1, k2⟩]
      rw [k1] at e6
      generalize hq : mPeels g i = q at *
      have hq2 : q ≤ g (11 + 5 * K) 0 - g (11 + 5 * K) 1 := by unfold mRoom at hpl; omega
      have hP1 := RP.up (by omega) hP (7 + G) 0 (v := g (7 + G) 0 - q) rfl (by omega)
      have f5 := lay_E (h := sI h (up2 (hI h) (r + (7 + G)) 0 (iI (g (7 + G) 0 - q)))) hS hP1 (K := K) (q := q) (t := g (7 + G) 2) (by omega) (by omega) (by unfold mct at r3 ⊢; rw [up2_n _ _ _ _ _ _ (by omega)]; exact r3) (by unfold mct at r4 ⊢; rw [up2_n _ _ _ _ _ _ (by omega)]; omega)
      have hP2 := RP.lay hP1 (K := K) (q := q) (t := g (7 + G) 2) (by omega) (by unfold mct at r3 ⊢; rw [up2_n _ _ _ _ _ _ (by omega)]; exact r3) _ rfl
      have hP3 := ((hP2.up (by omega) (31 + i) 3 (v := g (31 + i) 3 - 1) rfl (by omega)).up (by omega) (31 + i) 4 (v := g (31 + i) 4 + q) rfl (by omega)).up (by omega) 0 15 (v := g 0 15 + q) rfl (by omega)
      refine ⟨_, ?_, hP3, ?_⟩
      · simp (disch := omega) only [f_River_letPeel, true_and, and_true, gd_T, bn_S, bv_S, lq_E, wI_s, sI_s, hI_s, hT_s, hL_s, hR_s, hJ_s, hN_s, hU_s, nI_L, z_i, o_i, iI_add, iI_sub, iI_mul, iI_neg, iI_lt, iI_le, iI_eq, iI_ix, Int.toNat_natCast, inb, ix, s0, s1, s2, t1, t2, t3, t4, a1, a2, b1, b2, c1, c2, e0, e1, e3, e4, e6, q0, q2, q15, f1, f2, f3, f4, min_E, ← hpl, f5, if_neg, if_pos, gd_P, up2_n, up2_e]
      · exact (((((((((((Fm.refl _ _).up _ _ _ (by omega)).up _ _ _ (by omega)).up _ _ _ (by omega)).up _ _ _ (by omega)).up _ _ _ (by omega)).up _ _ _ (by omega)).up _ _ _ (by omega)).up _ _ _ (by omega)).up _ _ _ (by omega)).up 0 15 _ (by omega))
    · rw [if_neg (fun q => k2 q.2)]
      rw [k1] at e6
      refine ⟨hI h, ?_, hP, Fm.refl _ _⟩
      simp (disch := omega) only [f_River_letPeel, true_and, and_true, gd_T, bn_S, bv_S, lq_E, wI_s, sI_s, hI_s, hT_s, hL_s, hR_s, hJ_s, hN_s, hU_s, nI_L, z_i, o_i, iI_add, iI_sub, iI_mul, iI_neg, iI_lt, iI_le, iI_eq, iI_ix, Int.toNat_natCast, inb, ix, s0, s1, s2, t1, t2, t3, t4, a1, a2, b1, b2, c1, c2, e0, e1, e3, e4, e6, q0, q2, q15, f1, f2, f3, f4, min_E, ← hpl, if_neg, if_pos, gd_P]
      rfl
  · rw [if_neg (fun q => k1 q.1)]
    refine ⟨hI h, ?_, hP, Fm.refl _ _⟩
    simp (disch := omega) only [f_River_letPeel, true_and, and_true, gd_T, bn_S, bv_S, lq_E, wI_s, sI_s, hI_s, hT_s, hL_s, hR_s, hJ_s, hN_s, hU_s, nI_L, z_i, o_i, iI_add, iI_sub, iI_mul, iI_neg, iI_lt, iI_le, iI_eq, iI_ix, Int.toNat_natCast, c2, e6, if_neg, if_pos]
    rfl

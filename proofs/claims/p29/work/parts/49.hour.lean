/-! 49 L3: an hour, in the class -/
theorem endHour_E {n m p b r : Nat} {T C Pb : Int} {h : AH} {g : GM} (hN : Nm n m p b) (hS : SkR h r) (hP : RP n m p b r (hI h) g) (hv : Iv n m p b T C Pb g) (hC : C ≤ 1000000) (hPb : Pb ≤ 900000) (hh : g 0 11 + 1 ≤ T) :
    ∃ F, f_River_endHour h r = some (sI h F) ∧ RP n m p b r F (mEnd (mIt mGlut1 4 0 g)) ∧ Fm r (hI h) F ∧ Iv n m p b T 99999 Pb (mEnd (mIt mGlut1 4 0 g)) := by
  have hm : m ≤ 4 := by unfold Nm at hN; omega
  obtain ⟨F, e1, e2, e3, e4, e5⟩ := loopF (n := n) (m := m) (p := p) (b := b) (r := r) (fun fu h x => f_River_endHour_l2 fu h r x) (fun h => f_River_endHour_b2 (fun _ _ _ => none) h r (iI 4)) mGlut1 4
    (fun _ g => Iv n m p b T C Pb g ∧ g 0 11 + 1 ≤ T) (by
      intro fu i h g hi ⟨hv, hh⟩ hS hP
      have q := IvQ.le hv i hi
      have q2 := hv.2.2.2.2.2.2.1 i hi
      refine ⟨_, ?_, hP.up hm (43 + i) 2 (v := max 0 (g (43 + i) 2 - 1)) rfl (by omega), (Fm.refl _ _).up _ _ _ (by omega), hv.glut hN hi, by unfold mGlut1; rw [up2_n _ _ _ _ _ _ (by omega)]; exact hh⟩
      show f_River_endHour_b2 (f_River_endHour_l2 fu) h r (iI (i : Int)) = _
      simp (disch := first | decide | omega) only [f_River_endHour_b2, Nat.add_zero, true_and, and_true, gd_T, bn_S, bv_S, lq_E, wI_s, sI_s, hI_s, hT_s, hL_s, hR_s, hJ_s, hN_s, hU_s, nI_L, z_i, o_i, iI_add, iI_sub, iI_mul, iI_neg, iI_lt, iI_le, iI_eq, iI_ix, Int.toNat_natCast, if_neg, if_pos, gd_P, inb, ix, hS.t, hS.f0, hS.f1, hS.f2, hS.f3, hS.f4, hS.f5, hS.at1, hS.al1, hS.at2, hS.al2, hS.at3, hS.al3, hS.at4, hS.al4, hS.at5, hS.al5, hS.at6, hS.al6, hS.gR, hS.gT, hS.kR, hS.kT, hS.k3, hS.k4, hS.k5, hS.k6, hS.kt1, hS.kt2, hS.kt3, hS.kt4, hS.kl1, hS.kl2, hS.kl3, hS.kl4, hS.pR, hS.pT, hS.bR, hS.bT, hS.qR, hS.qT, hP.gr, max_E]
      rfl) (by
      intro fu h g _ hS hP
      show f_River_endHour_b2 (f_River_endHour_l2 fu) h r (iI 4) = _
      simp (disch := first | decide | omega) only [f_River_endHour_b2, nI_L, iI_lt, iI_le, iI_eq, iI_ix, Int.toNat_natCast, if_neg, if_pos, gd_P, inb, ix]) 4 0 FU h g (by omega) (by unfold FU; omega) ⟨hv, hh⟩ hS hP
  have hS4 := e4.1
  unfold IvSc at hS4
  refine ⟨_, ?_, (e2.up hm 0 11 (v := mIt mGlut1 4 0 g 0 11 + 1) rfl (by omega)).up hm 0 12 (v := min 99999 (mIt mGlut1 4 0 g 0 12)) rfl (by omega), (e3.up 0 11 _ (by omega)).up 0 12 _ (by omega), e4.endh hN e5⟩
  refine Eq.trans e1 ?_
  generalize mIt mGlut1 4 0 g = g2 at *
  have s12 := e2.sc 12 (by decide) (by decide)
  have s11 := e2.sc 11 (by decide) (by decide)
  simp (disch := first | decide | omega) only [f_River_endHour_b2, Nat.add_zero, true_and, and_true, gd_T, bn_S, bv_S, lq_E, wI_s, sI_s, hI_s, hT_s, hL_s, hR_s, hJ_s, hN_s, hU_s, nI_L, z_i, o_i, iI_add, iI_sub, iI_mul, iI_neg, iI_lt, iI_le, iI_eq, iI_ix, Int.toNat_natCast, if_neg, if_pos, gd_P, inb, ix, hS.t, s11, s12, min_E, up2_e, up2_n]
theorem boat2_E {n m p b r : Nat} {T C Pb : Int} {h : AH} {g : GM} (hN : Nm n m p b) (hS : SkR h r) (hP : RP n m p b r (hI h) g) (hv : Iv n m p b T C Pb g) {i : Nat} (hi : i < b) (hg : ∀ k, k < 4 → g (43 + k) 2 < 1000000) (k : AH → Nat → Int32 → Option AH) :
    ∃ F, f_River_letHourGo_b127 k h r (iI (i : Int)) = f_River_letHourGo_b170 k (sI h F) r (iI (i : Int)) ∧ RP n m p b r F (mBoat1 i g) ∧ Fm r (hI h) F := by
  unfold Nm at hN
  obtain ⟨hvS, hvH, hvG, hvR, hvP, hvB, hvQ, hvE⟩ := hv
  unfold IvSc at hvS
  have hbi := hvB i hi
  have s9 := hP.sc 9 (by decide) (by decide)
  rw [hvS.2.2.2.1] at s9
  have s13 := hP.sc 13 (by decide) (by decide)
  have s14 := hP.sc 14 (by decide) (by decide)
  unfold mBoat1
  by_cases c0 : g (39 + i) 3 = 0
  · rw [if_pos c0]
    refine ⟨hI h, ?_, hP, Fm.refl _ _⟩
    simp (disch := first | decide | omega) only [f_River_letHourGo_b127, s9, s13, s14, hS.t, hS.f3, hS.at4, hS.al4, hS.bR, f_Boat_comesToMarket, Nat.add_zero, true_and, and_true, gd_T, bn_S, bv_S, lq_E, wI_s, sI_s, hI_s, hT_s, hL_s, hR_s, hJ_s, hN_s, hU_s, nI_L, z_i, o_i, iI_add, iI_sub, iI_mul, iI_neg, iI_lt, iI_le, iI_eq, iI_ix, Int.toNat_natCast, if_neg, if_pos, gd_P, inb, ix, hS.bT, hP.bo, c0, up2_e, up2_n]
    rfl
  · rw [if_neg c0]
    by_cases c2 : g (39 + i) 3 = 2
    · rw [if_pos c2]
      by_cases c3 : max 0 (g (39 + i) 2 - g (39 + i) 1 - g 0 14) = 0
      · rw [c3, if_pos rfl]
        refine ⟨_, ?_, (hP.up (by omega) (39 + i) 2 (v := 0) rfl (by omega)).up (by omega) (39 + i) 3 (v := 0) rfl (by omega), ((Fm.refl _ _).up _ _ _ (by omega)).up _ _ _ (by omega)⟩
        simp (disch := first | decide | omega) only [f_River_letHourGo_b127, s9, s13, s14, hS.t, hS.f3, hS.at4, hS.al4, hS.bR, f_Boat_comesToMarket, f_Boat_comesToMarket_b40, Nat.add_zero, true_and, and_true, gd_T, bn_S, bv_S, lq_E, wI_s, sI_s, hI_s, hT_s, hL_s, hR_s, hJ_s, hN_s, hU_s, nI_L, z_i, o_i, iI_add, iI_sub, iI_mul, iI_neg, iI_lt, iI_le, iI_eq, iI_ix, Int.toNat_natCast, if_neg, if_pos, gd_P, inb, ix, hS.bT, hP.bo, c2, max_E, c3, up2_e, up2_n]
      · rw [if_neg c3]
        refine ⟨_, ?_, (hP.up (by omega) (39 + i) 2 (v := max 0 (g (39 + i) 2 - g (39 + i) 1 - g 0 14)) rfl (by omega)).up (by omega) (39 + i) 3 (v := 2) rfl (by omega), ((Fm.refl _ _).up _ _ _ (by omega)).up _ _ _ (by omega)⟩
        simp (disch := first | decide | omega) only [f_River_letHourGo_b127, s9, s13, s14, hS.t, hS.f3, hS.at4, hS.al4, hS.bR, f_Boat_comesToMarket, f_Boat_comesToMarket_b40, Nat.add_zero, true_and, and_true, gd_T, bn_S, bv_S, lq_E, wI_s, sI_s, hI_s, hT_s, hL_s, hR_s, hJ_s, hN_s, hU_s, nI_L, z_i, o_i, iI_add, iI_sub, iI_mul, iI_neg, iI_lt, iI_le, iI_eq, iI_ix, Int.toNat_natCast, if_neg, if_pos, gd_P, inb, ix, hS.bT, hP.bo, c2, max_E, up2_e, up2_n]
    · rw [if_neg c2]
      have c1 : g (39 + i) 3 = 1 := by omega
      by_cases c3 : min (g 0 13) (g (39 + i) 2 + max 1 (g (39 + i) 1 - g 0 14)) = g 0 13
      · rw [if_pos c3]
        have P1 := (hP.up (by omega) (39 + i) 2 (v := g 0 13) rfl (by omega)).up (by omega) (39 + i) 3 (v := 2) rfl (by omega)
        obtain ⟨F, q1, q2, q3⟩ := sell_E (h := sI h (up2 (up2 (hI h) (r + (39 + i)) 2 (iI (g 0 13))) (r + (39 + i)) 3 (iI 2))) (by omega) (by omega) hS P1 hi (by simp (disch := omega) only [up2_n]; omega) (by simp (disch := omega) only [up2_n]; omega) (by simp (disch := omega) only [up2_n]; omega) (by simp (disch := omega) only [up2_n]; omega) (hvQ.congr fun k hk s hs => by simp (disch := omega) only [up2_n]) (fun k hk => by simp (disch := omega) only [up2_n]; exact hg k hk)
        refine ⟨F, ?_, q2, (((Fm.refl _ _).up _ _ _ (by omega)).up _ _ _ (by omega)).trans q3⟩
        simp (disch := first | decide | omega) only [f_River_letHourGo_b127, s9, s13, s14, hS.t, hS.f3, hS.at4, hS.al4, hS.bR, f_Boat_comesToMarket, f_Boat_comesToMarket_b91, Nat.add_zero, true_and, and_true, gd_T, bn_S, bv_S, lq_E, wI_s, sI_s, hI_s, hT_s, hL_s, hR_s, hJ_s, hN_s, hU_s, nI_L, z_i, o_i, iI_add, iI_sub, iI_mul, iI_neg, iI_lt, iI_le, iI_eq, iI_ix, Int.toNat_natCast, if_neg, if_pos, gd_P, inb, ix, hS.bT, hP.bo, c1, max_E, min_E, c3, q1, up2_e, up2_n]
      · rw [if_neg c3]
        refine ⟨_, ?_, (hP.up (by omega) (39 + i) 2 (v := min (g 0 13) (g (39 + i) 2 + max 1 (g (39 + i) 1 - g 0 14))) rfl (by omega)).up (by omega) (39 + i) 3 (v := 1) rfl (by omega), ((Fm.refl _ _).up _ _ _ (by omega)).up _ _ _ (by omega)⟩
        simp (disch := first | decide | omega) only [f_River_letHourGo_b127, s9, s13, s14, hS.t, hS.f3, hS.at4, hS.al4, hS.bR, f_Boat_comesToMarket, f_Boat_comesToMarket_b91, Nat.add_zero, true_and, and_true, gd_T, bn_S, bv_S, lq_E, wI_s, sI_s, hI_s, hT_s, hL_s, hR_s, hJ_s, hN_s, hU_s, nI_L, z_i, o_i, iI_add, iI_sub, iI_mul, iI_neg, iI_lt, iI_le, iI_eq, iI_ix, Int.toNat_natCast, if_neg, if_pos, gd_P, inb, ix, hS.bT, hP.bo, c1, max_E, min_E, up2_e, up2_n]
theorem boats_E {n m p b r : Nat} {T C Pb : Int} {h : AH} {g : GM} (hN : Nm n m p b) (hS : SkR h r) (hP : RP n m p b r (hI h) g) (hv : Iv n m p b T C Pb g) (hC : C ≤ 900000) (hPb : Pb ≤ 900000) (hh : g 0 11 + 1 ≤ T) :
    ∃ F, f_River_letHourGo_b125 h r = some (sI h F) ∧ RP n m p b r F (mEnd (mIt mGlut1 4 0 (mIt mBoat1 b 0 g))) ∧ Fm r (hI h) F ∧ Iv n m p b T 99999 Pb (mEnd (mIt mGlut1 4 0 (mIt mBoat1 b 0 g))) := by
  have hb : b ≤ 4 := by unfold Nm at hN; omega
  have key := loopF (n := n) (m := m) (p := p) (b := b) (r := r) (fun fu h x => f_River_letHourGo_l127 fu h r x) (fun h => f_River_letHourGo_b176 h r) mBoat1 b
    (fun i g => Iv n m p b T (C + 2000 * (i : Int)) Pb g ∧ g 0 11 + 1 ≤ T) ?_ ?_ b 0 FU h g (by omega) (by unfold FU; omega) ⟨hv.coins (by omega), hh⟩ hS hP
  · obtain ⟨F, e1, e2, e3, e4, e5⟩ := key
    obtain ⟨F', d1, d2, d3, d4⟩ := endHour_E (h := sI h F) hN hS e2 e4 (by omega) hPb e5
    refine ⟨F', ?_, d2, e3.trans d3, d4⟩
    refine Eq.trans e1 ?_
    simp (disch := first | decide | omega) only [f_River_letHourGo_b176, Nat.add_zero, true_and, and_true, gd_T, bn_S, bv_S, lq_E, wI_s, sI_s, hI_s, hT_s, hL_s, hR_s, hJ_s, hN_s, hU_s, if_neg, if_pos, gd_P, inb, ix, hS.t, d1]
  · intro fu i h g hi ⟨hv, hh⟩ hS hP
    have hS4 := hv.1
    unfold IvSc at hS4
    have q := IvQ.le hv
    obtain ⟨F, e1, e2, e3⟩ := boat2_E hN hS hP hv hi (fun k hk => by have := q k hk; omega) (f_River_letHourGo_l127 fu)
    have hh2 : mBoat1 i g 0 11 = g 0 11 := by unfold mBoat1 mSell; split <;> (try split) <;> (try split) <;> (try simp (disch := omega) only [up2_n])
    refine ⟨F, ?_, e2, e3, (hv.boat hN hi).coins (by omega), by rw [hh2]; exact hh⟩
    show f_River_letHourGo_b127 (f_River_letHourGo_l127 fu) h r (iI (i : Int)) = _
    refine e1.trans ?_
    simp only [f_River_letHourGo_b170, lq_E, nI_L, iI_add]
    rfl
  · intro fu h g ⟨hv, hh⟩ hS hP
    have hS4 := hv.1
    unfold IvSc at hS4
    show f_River_letHourGo_b127 (f_River_letHourGo_l127 fu) h r (iI (b : Int)) = _
    have s9 := hP.sc 9 (by decide) (by decide)
    rw [hS4.2.2.2.1] at s9
    simp (disch := first | decide | omega) only [f_River_letHourGo_b127, Nat.add_zero, true_and, and_true, gd_T, bn_S, bv_S, lq_E, wI_s, sI_s, hI_s, hT_s, hL_s, hR_s, hJ_s, hN_s, hU_s, iI_lt, iI_le, iI_eq, iI_ix, Int.toNat_natCast, nI_L, if_neg, if_pos, gd_P, inb, ix, hS.t, s9]

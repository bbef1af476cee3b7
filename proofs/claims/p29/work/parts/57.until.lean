/-! 57 L3: until, dry, mean -/
-- a boat at the cell a
theorem come_E {h : AH} {a : Nat} (hT7 : hT h a = 7) {s0 mi wy M Cu : Int} (e1 : hI h a 1 = iI s0) (e2 : hI h a 2 = iI mi) (e3 : hI h a 3 = iI wy) (hs : 1 ≤ s0 ∧ s0 ≤ 9) (hm : 0 ≤ mi ∧ mi ≤ 60) (hw : wy = 1 ∨ wy = 2) (hM : 1 ≤ M ∧ M ≤ 60) (hC : 0 ≤ Cu ∧ Cu ≤ 5) :
    ∃ (mi' wy' : Int) (x : Int32), f_Boat_comesToMarket h a (iI M) (iI Cu) = some (sI h (up2 (up2 (hI h) a 2 (iI mi')) a 3 (iI wy')), x) ∧ 0 ≤ mi' ∧ mi' ≤ 60 ∧ (wy' = 0 ∨ wy' = 1 ∨ wy' = 2) := by
  rcases hw with rfl | rfl
  · by_cases c3 : min M (mi + max 1 (s0 - Cu)) = M
    · refine ⟨M, 2, iI 1, ?_, by omega, by omega, by omega⟩
      simp (disch := first | decide | omega) only [f_Boat_comesToMarket, f_Boat_comesToMarket_b91, Nat.add_zero, true_and, and_true, gd_T, bn_S, bv_S, lq_E, wI_s, sI_s, hI_s, hT_s, hL_s, hR_s, hJ_s, hN_s, hU_s, nI_L, z_i, o_i, iI_add, iI_sub, iI_mul, iI_neg, iI_lt, iI_le, iI_eq, iI_ix, Int.toNat_natCast, if_neg, if_pos, gd_P, inb, ix, hT7, e1, e2, e3, max_E, min_E, c3, up2_e, up2_n]
    · refine ⟨min M (mi + max 1 (s0 - Cu)), 1, iI 0, ?_, by omega, by omega, by omega⟩
      simp (disch := first | decide | omega) only [f_Boat_comesToMarket, f_Boat_comesToMarket_b91, Nat.add_zero, true_and, and_true, gd_T, bn_S, bv_S, lq_E, wI_s, sI_s, hI_s, hT_s, hL_s, hR_s, hJ_s, hN_s, hU_s, nI_L, z_i, o_i, iI_add, iI_sub, iI_mul, iI_neg, iI_lt, iI_le, iI_eq, iI_ix, Int.toNat_natCast, if_neg, if_pos, gd_P, inb, ix, hT7, e1, e2, e3, max_E, min_E, up2_e, up2_n]
  · by_cases c3 : max 0 (mi - s0 - Cu) = 0
    · refine ⟨0, 0, iI 0, ?_, by omega, by omega, by omega⟩
      simp (disch := first | decide | omega) only [f_Boat_comesToMarket, f_Boat_comesToMarket_b40, Nat.add_zero, true_and, and_true, gd_T, bn_S, bv_S, lq_E, wI_s, sI_s, hI_s, hT_s, hL_s, hR_s, hJ_s, hN_s, hU_s, nI_L, z_i, o_i, iI_add, iI_sub, iI_mul, iI_neg, iI_lt, iI_le, iI_eq, iI_ix, Int.toNat_natCast, if_neg, if_pos, gd_P, inb, ix, hT7, e1, e2, e3, max_E, c3, up2_e, up2_n]
    · refine ⟨max 0 (mi - s0 - Cu), 2, iI 0, ?_, by omega, by omega, by omega⟩
      simp (disch := first | decide | omega) only [f_Boat_comesToMarket, f_Boat_comesToMarket_b40, Nat.add_zero, true_and, and_true, gd_T, bn_S, bv_S, lq_E, wI_s, sI_s, hI_s, hT_s, hL_s, hR_s, hJ_s, hN_s, hU_s, nI_L, z_i, o_i, iI_add, iI_sub, iI_mul, iI_neg, iI_lt, iI_le, iI_eq, iI_ix, Int.toNat_natCast, if_neg, if_pos, gd_P, inb, ix, hT7, e1, e2, e3, max_E, up2_e, up2_n]
theorem until_l {h0 : AH} (hQ : SkQ h0) (hS : SkR h0 206) {i : Nat} (hT7 : hT h0 (265 + (39 + i)) = 7) (hi : i < 4) {s0 M Cu : Int} (hs : 1 ≤ s0 ∧ s0 ≤ 9) (hM : 1 ≤ M ∧ M ≤ 60) (hC : 0 ≤ Cu ∧ Cu ≤ 5) : ∀ (e j fu : Nat) (F : Nat → Nat → Int32) (mi wy : Int), e + j = 151 → e < fu → F (265 + (39 + i)) 1 = iI s0 → F (265 + (39 + i)) 2 = iI mi → F (265 + (39 + i)) 3 = iI wy → F 206 13 = iI M → F 206 14 = iI Cu → 0 ≤ mi ∧ mi ≤ 60 → (wy = 0 ∨ wy = 1 ∨ wy = 2) →
    ∃ F' v, f_QuillBoats_until_l47 fu (sI h0 F) 200 (265 + (39 + i)) (iI (j : Int)) = some (sI h0 F', iI v) ∧ Fm 265 F F' ∧ (v = -1 ∨ ((j : Int) ≤ v ∧ v ≤ 150)) ∧ (wy = 0 → j ≤ 150 → v = j) ∧ (wy ≠ 0 → v ≠ j) := by
  intro e
  induction e with
  | zero =>
    intro j fu F mi wy he hf e1 e2 e3 e13 e14 hm hw
    obtain ⟨fu, rfl⟩ : ∃ x, fu = x + 1 := ⟨fu - 1, by omega⟩
    refine ⟨F, -1, ?_, Fm.refl _ _, by omega, by omega, by omega⟩
    show f_QuillBoats_until_b47 (f_QuillBoats_until_l47 fu) (sI h0 F) 200 (265 + (39 + i)) (iI (j : Int)) = _
    simp (disch := first | decide | omega) only [f_QuillBoats_until_b47, nI_L, z_i, o_i, iI_add, iI_sub, iI_mul, iI_neg, iI_lt, iI_le, iI_eq, iI_ix, Int.toNat_natCast, if_neg, if_pos, gd_P, inb, ix]
  | succ e ih =>
    intro j fu F mi wy he hf e1 e2 e3 e13 e14 hm hw
    obtain ⟨fu, rfl⟩ : ∃ x, fu = x + 1 := ⟨fu - 1, by omega⟩
    by_cases c : wy = 0
    · refine ⟨F, (j : Int), ?_, Fm.refl _ _, by omega, by omega, by omega⟩
      show f_QuillBoats_until_b47 (f_QuillBoats_until_l47 fu) (sI h0 F) 200 (265 + (39 + i)) (iI (j : Int)) = _
      simp (disch := first | decide | omega) only [f_QuillBoats_until_b47, Nat.add_zero, true_and, and_true, gd_T, bn_S, bv_S, lq_E, wI_s, sI_s, hI_s, hT_s, hL_s, hR_s, hJ_s, hN_s, hU_s, nI_L, z_i, o_i, iI_add, iI_sub, iI_mul, iI_neg, iI_lt, iI_le, iI_eq, iI_ix, Int.toNat_natCast, if_neg, if_pos, gd_P, inb, ix, hT7, e3, c]
    · obtain ⟨mi', wy', x, d1, d2, d3, d4⟩ := come_E (h := sI h0 F) hT7 e1 e2 e3 hs hm (by omega) hM hC
      obtain ⟨F2, v, a1, a2, a3, a4, a5⟩ := ih (j + 1) fu (up2 (up2 F (265 + (39 + i)) 2 (iI mi')) (265 + (39 + i)) 3 (iI wy')) mi' wy' (by omega) (by omega) (by simp (disch := omega) only [up2_n]; exact e1) (by simp (disch := omega) only [up2_n, up2_e]) (by simp (disch := omega) only [up2_e]) (by simp (disch := omega) only [up2_n]; exact e13) (by simp (disch := omega) only [up2_n]; exact e14) ⟨d2, d3⟩ d4
      refine ⟨F2, v, ?_, (((Fm.refl _ _).up _ _ _ (by omega)).up _ _ _ (by omega)).trans a2, by omega, by omega, by omega⟩
      refine Eq.trans ?_ a1
      show f_QuillBoats_until_b47 (f_QuillBoats_until_l47 fu) (sI h0 F) 200 (265 + (39 + i)) (iI (j : Int)) = _
      simp (disch := first | decide | omega) only [f_QuillBoats_until_b47, Nat.add_zero, true_and, and_true, gd_T, bn_S, bv_S, lq_E, wI_s, sI_s, hI_s, hT_s, hL_s, hR_s, hJ_s, hN_s, hU_s, nI_L, z_i, o_i, iI_add, iI_sub, iI_mul, iI_neg, iI_lt, iI_le, iI_eq, iI_ix, Int.toNat_natCast, if_neg, if_pos, gd_P, inb, ix, hT7, hQ.t, hQ.r4, hS.t, e3, e13, e14, d1]
      rfl
theorem until_C {n m p b no : Nat} {O : Nat → Nat → Int} {T C Pb : Int} {h : AH} {g : GM} (hN : Nm n m p b) (hc : Cl n m p b O no h g) (hv : Iv n m p b T C Pb g) {i : Nat} (hi : i < b) :
    ∃ F v, f_QuillBoats_until h 200 (iI (i : Int)) = some (sI h F, iI v) ∧ Cl n m p b O no (sI h F) g ∧ Fc (hI h) F ∧ (v = 0 ↔ g (39 + i) 3 = 0) ∧ -1 ≤ v ∧ v ≤ 150 := by
  obtain ⟨vS, vH, vG, vR, vP, vB, vQ, vE⟩ := hv
  unfold IvSc at vS
  have vBi := vB i hi
  have hN' := hN
  unfold Nm at hN'
  obtain ⟨hQ, hS, hS2, hO, hP, hA, h1⟩ := hc
  have hT7 := hS2.bT (i := i) (by omega)
  have f1 := hasBoat_E hS hP (i := (i : Int)) (by omega) (by omega) (by omega) vS.2.2.2.1
  -- the copy of the boat
  have cpb : ∃ F1, f_Boat_copyFrom h (265 + (39 + i)) (206 + (39 + i)) = some (sI h F1) ∧ Fm 265 (hI h) F1 ∧ F1 (265 + (39 + i)) 1 = iI (g (39 + i) 1) ∧ F1 (265 + (39 + i)) 2 = iI (g (39 + i) 2) ∧ F1 (265 + (39 + i)) 3 = iI (g (39 + i) 3) := by
    refine ⟨up2 (up2 (up2 (up2 (up2 (up2 (up2 (hI h) (265 + (39 + i)) 0 (iI (g (39 + i) 0))) (265 + (39 + i)) 1 (iI (g (39 + i) 1))) (265 + (39 + i)) 2 (iI (g (39 + i) 2))) (265 + (39 + i)) 3 (iI (g (39 + i) 3))) (265 + (39 + i)) 4 (iI (g (39 + i) 4))) (265 + (39 + i)) 5 (iI (g (39 + i) 5))) (265 + (39 + i)) 6 (iI (g (39 + i) 6)), ?_, (((((((Fm.refl _ _).up _ _ _ (by omega)).up _ _ _ (by omega)).up _ _ _ (by omega)).up _ _ _ (by omega)).up _ _ _ (by omega)).up _ _ _ (by omega)).up _ _ _ (by omega), by simp (disch := omega) only [up2_n, up2_e], by simp (disch := omega) only [up2_n, up2_e], by simp (disch := omega) only [up2_n, up2_e]⟩
    simp (disch := first | decide | omega) only [f_Boat_copyFrom, Nat.add_zero, true_and, and_true, gd_T, bn_S, bv_S, lq_E, wI_s, sI_s, hI_s, hT_s, hL_s, hR_s, hJ_s, hN_s, hU_s, if_neg, if_pos, gd_P, inb, ix, hS.bT, hT7, hP.bo, up2_e, up2_n]
  obtain ⟨F1, c1, c2, c3, c4, c5⟩ := cpb
  obtain ⟨F, v, a1, a2, a3, a4, a5⟩ := until_l (h0 := h) hQ hS hT7 (by omega) (s0 := g (39 + i) 1) (M := g 0 13) (Cu := g 0 14) (by omega) (by omega) (by omega) 151 0 FU F1 (g (39 + i) 2) (g (39 + i) 3) (by omega) (by unfold FU; omega) c3 c4 c5 ((c2 206 13 (by omega)).trans (hP.sc 13 (by decide) (by decide))) ((c2 206 14 (by omega)).trans (hP.sc 14 (by decide) (by decide))) (by omega) (by omega)
  have fm := c2.trans a2
  refine ⟨F, v, ?_, ⟨hQ, hS, hS2, hO, hP.fr hN fun c s hc => fm _ _ (by omega), hA.fr fun c s hc => fm _ _ (by omega), (fm 200 1 (by omega)).trans h1⟩, fm.c (by omega) (by omega), ?_, by omega, by omega⟩
  · have a1' : f_QuillBoats_until_l47 FU (sI h F1) 200 (265 + (39 + i)) (iI 0) = some (sI h F, iI v) := a1
    simp (disch := first | decide | omega) only [f_QuillBoats_until, Nat.add_zero, true_and, and_true, gd_T, bn_S, bv_S, lq_E, wI_s, sI_s, hI_s, hT_s, hL_s, hR_s, hJ_s, hN_s, hU_s, nI_L, z_i, o_i, iI_add, iI_sub, iI_mul, iI_neg, iI_lt, iI_le, iI_eq, iI_ix, Int.toNat_natCast, if_neg, if_pos, gd_P, inb, ix, hQ.t, hQ.r4, hQ.r9, hS.t, hS.f3, hS.at4, hS.al4, hS.bR, hS2.t, hS2.f3, hS2.at4, hS2.al4, hS2.bR, hT7, f1, c1, a1']
  · constructor
    · intro q
      by_cases c : g (39 + i) 3 = 0
      · exact c
      · exact absurd (by omega) (a5 c)
    · intro q
      have := a4 q (by omega)
      omega
-- drying
theorem mGradeOf_le {t s s' : Int} (h : s ≤ s') : mGradeOf t s ≤ mGradeOf t s' := by unfold mGradeOf; omega
theorem drying_l {n m p b r : Nat} {h : AH} {g : GM} (hS : SkR h r) (hP : RP n m p b r (hI h) g) (h0 : 0 ≤ g 0 11) (h1 : g 0 11 ≤ 10000) (hH : IvH g) {th : Int} (ht : 1 ≤ th ∧ th ≤ 9) : ∀ (e j fu : Nat) (d s : Int), e + j = 301 → e < fu → 1 ≤ j → 0 ≤ d ∧ d ≤ 30 + 3 * j → 0 ≤ s ∧ s ≤ 10000 + j →
    ∃ v w : Int, f_River_drying_l30 fu h r (iI 0) (iI th) (iI d) (iI s) (iI (j : Int)) = some (h, iI v) ∧ f_River_drying_l30 fu h r (iI 1) (iI th) (iI d) (iI s) (iI (j : Int)) = some (h, iI w) ∧ ((v = -1 ∧ w = -1) ∨ (1 ≤ v ∧ v ≤ 300 ∧ mGradeOf th s ≤ w ∧ w ≤ 3)) := by
  intro e
  induction e with
  | zero =>
    intro j fu d s he hf hj hd hs
    obtain ⟨fu, rfl⟩ : ∃ x, fu = x + 1 := ⟨fu - 1, by omega⟩
    refine ⟨-1, -1, ?_, ?_, Or.inl ⟨rfl, rfl⟩⟩
    · show f_River_drying_b30 (f_River_drying_l30 fu) h r (iI 0) (iI th) (iI d) (iI s) (iI (j : Int)) = _
      simp (disch := first | decide | omega) only [f_River_drying_b30, nI_L, z_i, o_i, iI_add, iI_sub, iI_mul, iI_neg, iI_lt, iI_le, iI_eq, iI_ix, Int.toNat_natCast, if_neg, if_pos, gd_P, inb, ix]
    · show f_River_drying_b30 (f_River_drying_l30 fu) h r (iI 1) (iI th) (iI d) (iI s) (iI (j : Int)) = _
      simp (disch := first | decide | omega) only [f_River_drying_b30, nI_L, z_i, o_i, iI_add, iI_sub, iI_mul, iI_neg, iI_lt, iI_le, iI_eq, iI_ix, Int.toNat_natCast, if_neg, if_pos, gd_P, inb, ix]
  | succ e ih =>
    intro j fu d s he hf hj hd hs
    obtain ⟨fu, rfl⟩ : ∃ x, fu = x + 1 := ⟨fu - 1, by omega⟩
    have hx : ((g 0 11 + (j : Int) - 1) % 12).toNat < 12 := by omega
    have hsh := hH _ hx
    have e6 := hP.sh _ hx
    have e11 := hP.sc 11 (by decide) (by decide)
    have fm := floorMod_E (h := h) (a := g 0 11 + (j : Int) - 1) (b := 12) (by omega) (by omega) (by decide) (by decide)
    generalize hsv : g 6 ((g 0 11 + (j : Int) - 1) % 12).toNat = sh at *
    obtain ⟨s', hs', hs1, hs2⟩ : ∃ s' : Int, (s' = if sh = 0 then s + 1 else s + 0) ∧ s ≤ s' ∧ s' ≤ s + 1 := ⟨_, rfl, by split <;> omega, by split <;> omega⟩
    have step : ∀ what : Int, f_River_drying_l30 (fu + 1) h r (iI what) (iI th) (iI d) (iI s) (iI (j : Int)) = (bn (f_Rack_isDry h (iI th) (iI (d + sh))) fun h3 r4 => if r4 = 0 then f_River_drying_l30 fu h3 r (iI what) (iI th) (iI (d + sh)) (iI s') (iI ((j : Int) + 1)) else if ¬ iI what = 0 then bn (f_Rack_gradeOf h3 (iI th) (iI s')) fun h8 r9 => some (h8, r9) else some (h3, iI (j : Int))) := by
      intro what
      show f_River_drying_b30 (f_River_drying_l30 fu) h r (iI what) (iI th) (iI d) (iI s) (iI (j : Int)) = _
      by_cases c : sh = 0
      · rw [if_pos c] at hs'
        subst hs'
        simp (disch := first | decide | omega) only [f_River_drying_b30, f_River_drying_b71, Nat.add_zero, true_and, and_true, gd_T, bn_S, bv_S, lq_E, wI_s, sI_s, hI_s, hT_s, hL_s, hR_s, hJ_s, hN_s, hU_s, nI_L, iI_add, iI_sub, iI_mul, iI_neg, iI_lt, iI_le, iI_eq, iI_ix, Int.toNat_natCast, if_neg, if_pos, gd_P, inb, ix, hS.t, hS.f5, hS.at6, hS.al6, e11, fm, z_i, e6]
        rfl
      · rw [if_neg c] at hs'
        subst hs'
        simp (disch := first | decide | omega) only [f_River_drying_b30, f_River_drying_b71, Nat.add_zero, true_and, and_true, gd_T, bn_S, bv_S, lq_E, wI_s, sI_s, hI_s, hT_s, hL_s, hR_s, hJ_s, hN_s, hU_s, nI_L, iI_add, iI_sub, iI_mul, iI_neg, iI_lt, iI_le, iI_eq, iI_ix, Int.toNat_natCast, if_neg, if_pos, gd_P, inb, ix, hS.t, hS.f5, hS.at6, hS.al6, e11, fm, z_i, e6]
        rfl
    by_cases c : d + sh < 3 * th
    · obtain ⟨v, w, a1, a2, a3⟩ := ih (j + 1) fu (d + sh) s' (by omega) (by omega) (by omega) (by omega) (by omega)
      have mg := mGradeOf_le (t := th) hs1
      refine ⟨v, w, ?_, ?_, by omega⟩
      · rw [step]
        refine Eq.trans ?_ a1
        simp (disch := first | decide | omega) only [f_Rack_isDry, Nat.add_zero, true_and, and_true, gd_T, bn_S, bv_S, lq_E, wI_s, sI_s, hI_s, hT_s, hL_s, hR_s, hJ_s, hN_s, hU_s, nI_L, z_i, o_i, iI_add, iI_sub, iI_mul, iI_neg, iI_lt, iI_le, iI_eq, iI_ix, Int.toNat_natCast, if_neg, if_pos, gd_P, inb, ix]
        rfl
      · rw [step]
        refine Eq.trans ?_ a2
        simp (disch := first | decide | omega) only [f_Rack_isDry, Nat.add_zero, true_and, and_true, gd_T, bn_S, bv_S, lq_E, wI_s, sI_s, hI_s, hT_s, hL_s, hR_s, hJ_s, hN_s, hU_s, nI_L, z_i, o_i, iI_add, iI_sub, iI_mul, iI_neg, iI_lt, iI_le, iI_eq, iI_ix, Int.toNat_natCast, if_neg, if_pos, gd_P, inb, ix]
        rfl
    · have mg := mGradeOf_le (t := th) hs1
      have mb := mGradeOf_b th s'
      have gr := gradeOf_E (h := h) (t := th) (s := s') (by omega) (by omega) (by omega) (by omega)
      refine ⟨(j : Int), mGradeOf th s', ?_, ?_, by omega⟩
      · rw [step]
        simp (disch := first | decide | omega) only [f_Rack_isDry, Nat.add_zero, true_and, and_true, gd_T, bn_S, bv_S, lq_E, wI_s, sI_s, hI_s, hT_s, hL_s, hR_s, hJ_s, hN_s, hU_s, nI_L, z_i, o_i, iI_add, iI_sub, iI_mul, iI_neg, iI_lt, iI_le, iI_eq, iI_ix, Int.toNat_natCast, if_neg, if_pos, gd_P, inb, ix]
      · rw [step]
        simp (disch := first | decide | omega) only [f_Rack_isDry, Nat.add_zero, true_and, and_true, gd_T, bn_S, bv_S, lq_E, wI_s, sI_s, hI_s, hT_s, hL_s, hR_s, hJ_s, hN_s, hU_s, nI_L, z_i, o_i, iI_add, iI_sub, iI_mul, iI_neg, iI_lt, iI_le, iI_eq, iI_ix, Int.toNat_natCast, if_neg, if_pos, gd_P, inb, ix, gr]
theorem dry_C {n m p b no : Nat} {O : Nat → Nat → Int} {T C Pb : Int} {h : AH} {g : GM} (hN : Nm n m p b) (hc : Cl n m p b O no h g) (hv : Iv n m p b T C Pb g) (hT : T ≤ 9000) {K j : Nat} (hK : K < m) (hj : (j : Int) < mct g K) :
    ∃ v w : Int, f_QuillBoats_dry h 200 (iI (K : Int)) (iI (j : Int)) (iI 0) = some (h, iI v) ∧ f_QuillBoats_dry h 200 (iI (K : Int)) (iI (j : Int)) (iI 1) = some (h, iI w) ∧ ((v = -1 ∧ w = -1) ∨ (1 ≤ v ∧ v ≤ 300 ∧ mGradeOf (g (13 + 5 * K) j) (g (15 + 5 * K) j) ≤ w ∧ w ≤ 3)) := by
  obtain ⟨vS, vH, vG, vR, vP, vB, vQ, vE⟩ := hv
  unfold IvSc at vS
  obtain ⟨r1, r2, r3, r4, r5, r6, r7⟩ := vR K hK
  have r8 := r7 j hj
  have hN' := hN
  unfold Nm at hN'
  obtain ⟨hQ, hS, hS2, hO, hP, hA, h1⟩ := hc
  obtain ⟨v, w, a1, a2, a3⟩ := drying_l hS hP (by omega) (by omega) vH (th := g (13 + 5 * K) j) (by omega) 300 1 FU (g (14 + 5 * K) j) (g (15 + 5 * K) j) (by omega) (by unfold FU; omega) (by omega) (by omega) (by omega)
  have f1 := hasBundle_E (by omega) hS hP vS.2.1 hK hj (by omega)
  obtain ⟨-, b1, b2, b3, -⟩ := ofBundle_E (by omega) hS hP vS.2.1 hK hj (by omega) (by omega) (by omega) (by omega) (by omega)
  have f2 := isWithin_E (h := h) (x := 0) (a := 0) (c := 1) (by decide) (by decide) (by decide) (by decide)
  have f3 := isWithin_E (h := h) (x := 1) (a := 0) (c := 1) (by decide) (by decide) (by decide) (by decide)
  have a1' : f_River_drying_l30 FU h 206 (iI 0) (iI (g (13 + 5 * K) j)) (iI (g (14 + 5 * K) j)) (iI (g (15 + 5 * K) j)) (iI 1) = some (h, iI v) := a1
  have a2' : f_River_drying_l30 FU h 206 (iI 1) (iI (g (13 + 5 * K) j)) (iI (g (14 + 5 * K) j)) (iI (g (15 + 5 * K) j)) (iI 1) = some (h, iI w) := a2
  refine ⟨v, w, ?_, ?_, a3⟩
  · simp (disch := first | decide | omega) only [f_QuillBoats_dry, f_River_drying, Nat.add_zero, true_and, and_true, gd_T, bn_S, bv_S, lq_E, wI_s, sI_s, hI_s, hT_s, hL_s, hR_s, hJ_s, hN_s, hU_s, nI_L, z_i, o_i, iI_add, iI_sub, iI_mul, iI_neg, iI_lt, iI_le, iI_eq, iI_ix, Int.toNat_natCast, if_neg, if_pos, gd_P, inb, ix, hQ.t, hQ.r4, hS.t, f1, f2, b1, b2, b3, a1']
  · simp (disch := first | decide | omega) only [f_QuillBoats_dry, f_River_drying, Nat.add_zero, true_and, and_true, gd_T, bn_S, bv_S, lq_E, wI_s, sI_s, hI_s, hT_s, hL_s, hR_s, hJ_s, hN_s, hU_s, nI_L, z_i, o_i, iI_add, iI_sub, iI_mul, iI_neg, iI_lt, iI_le, iI_eq, iI_ix, Int.toNat_natCast, if_neg, if_pos, gd_P, inb, ix, hQ.t, hQ.r4, hS.t, f1, f3, b1, b2, b3, a2']

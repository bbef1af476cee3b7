/-! 81 L3: the sim and the class tell alike, I -/
section
variable {xA n m p b no : Nat} {O : Nat → Nat → Int} {T C Pb : Int} {h : AH} {g : GM}
theorem same1_E (hNm : Nm n m p b) (hb : Bo xA n m p b no O h g) (hv : Iv n m p b T C Pb g) (hC : C ≤ 900000) (hTm : T ≤ 9000) (hPb : Pb ≤ 800000) (hno : no ≤ 100) (h10 : g 0 10 = (no : Int)) :
    ∃ h', f_Sim_isSame h 320 200 = f_Sim_isSame_l31 FU h' 320 200 (iI 0) ∧ Bo xA n m p b no O h' g ∧ Gx 16 256 h h' := by
  have hS4 := hv.1
  unfold IvSc at hS4
  obtain ⟨s6, s7, s8, s9, -⟩ := hS4
  have key := loopB (fun fu h i => f_Sim_isSame_l2 fu h 320 200 (iI (i : Int))) (fun h => f_Sim_isSame_l31 FU h 320 200 (iI 0)) 16 1 16 (fun h => Bo xA n m p b no O h g) (by
    intro fu i h hi hb
    obtain ⟨h', e1, e2⟩ := counted_S hNm hb.2 hv hno hi
    have f1 := count_E hNm hb.1 s7 s9 i hi
    have em : mRow m b no g i = mCnt m b g i := by
      unfold mRow
      by_cases q : i = 6
      · subst q; rw [if_pos rfl]; exact h10.symm
      · rw [if_neg q]
    rw [em] at e1
    have hQ := hb.1.1
    have hM := hb.2.1
    have hjj : ((i + 1 : Nat) : Int) = (i : Int) + 1 := rfl
    refine ⟨h', ?_, hb.ext hNm e2, e2⟩
    show f_Sim_isSame_b2 (f_Sim_isSame_l2 fu) h 320 200 (iI (i : Int)) = _
    simp (disch := first | decide | omega) only [f_Sim_isSame_b2, Nat.add_zero, true_and, and_true, gd_T, bn_S, bv_S, lq_E, wI_s, sI_s, hI_s, hT_s, hL_s, hR_s, hJ_s, hN_s, hU_s, nI_i, cst_L, z_i, iI_add, iI_lt, iI_le, iI_eq, iI_ix, Int.toNat_natCast, toNat_L, if_neg, if_pos, gd_P, inb, ix, hQ.t, hM.t, f1, e1, hjj]) (by
    intro fu h _
    show f_Sim_isSame_b2 (f_Sim_isSame_l2 fu) h 320 200 (iI 16) = _
    simp (disch := first | decide | omega) only [f_Sim_isSame_b2, nI_L, iI_lt, iI_le, iI_eq, iI_ix, Int.toNat_natCast, toNat_L, if_pos]) 16 0 FU h (by omega) (by unfold FU; omega) hb
  exact key
theorem same2_E (hb : Bo xA n m p b no O h g) (hH : IvH g) : f_Sim_isSame_l31 FU h 320 200 (iI 0) = f_Sim_isSame_l63 FU h 320 200 (iI 0) (iI 0) := by
  have hQ := hb.1.1
  have hM := hb.2.1
  have hs := hb.2
  have hc := hb.1
  obtain ⟨h', e1, e2, -⟩ := loopB (fun fu h i => f_Sim_isSame_l31 fu h 320 200 (iI (i : Int))) (fun h => f_Sim_isSame_l63 FU h 320 200 (iI 0) (iI 0)) 12 0 0 (fun x => x = h) (by
    intro fu i h' hi he
    subst he
    have f1 := shade_E hc hi
    have f2 := hs.sh hi
    have b1 := hH i hi
    have hjj : ((i + 1 : Nat) : Int) = (i : Int) + 1 := rfl
    refine ⟨h', ?_, rfl, Gx.refl _⟩
    show f_Sim_isSame_b31 (f_Sim_isSame_l31 fu) h' 320 200 (iI (i : Int)) = _
    simp (disch := first | decide | omega) only [f_Sim_isSame_b31, Nat.add_zero, true_and, and_true, gd_T, bn_S, bv_S, lq_E, wI_s, sI_s, hI_s, hT_s, hL_s, hR_s, hJ_s, hN_s, hU_s, nI_i, cst_L, z_i, iI_add, iI_lt, iI_le, iI_eq, iI_ix, Int.toNat_natCast, toNat_L, if_neg, if_pos, gd_P, inb, ix, hQ.t, hM.t, hM.r7, hM.tsh, hM.lsh, f1, f2, hjj]) (by
    intro fu h' _
    show f_Sim_isSame_b31 (f_Sim_isSame_l31 fu) h' 320 200 (iI 12) = _
    simp (disch := first | decide | omega) only [f_Sim_isSame_b31, nI_L, iI_lt, iI_le, iI_eq, iI_ix, Int.toNat_natCast, toNat_L, if_pos]) 12 0 FU h (by omega) (by unfold FU; omega) rfl
  subst e2
  exact e1
theorem same3_E (hNm : Nm n m p b) (hb : Bo xA n m p b no O h g) (hv : Iv n m p b T C Pb g) : f_Sim_isSame_l63 FU h 320 200 (iI 0) (iI 0) = f_Sim_isSame_l184 FU h 320 200 (iI 0) (iI 0) := by
  have hQ := hb.1.1
  have hM := hb.2.1
  have hs := hb.2
  have hc := hb.1
  have hN' := hNm
  unfold Nm at hN'
  have hS4 := hv.1
  unfold IvSc at hS4
  obtain ⟨s6, s7, s8, s9, -⟩ := hS4
  have vP := hv.2.2.2.2.1
  have vG := hv.2.2.1
  clear hv
  obtain ⟨h', e1, e2, -⟩ := loopB (fun fu h i => f_Sim_isSame_l63 fu h 320 200 (iI 0) (iI (i : Int))) (fun h => f_Sim_isSame_l184 FU h 320 200 (iI 0) (iI 0)) n 0 0 (fun x => x = h) (by
    intro fu i h' hi he
    subst he
    refine ⟨h', ?_, rfl, Gx.refl _⟩
    have hii : ((i + 1 : Nat) : Int) = (i : Int) + 1 := rfl
    -- peelers of it
    have k1 := loopA0 (fun fu' x y => f_Sim_isSame_l89 (f_Sim_isSame_l63 fu) fu' h' 320 200 (iI 0) (iI (i : Int)) x (335 + n + m) (iI (p : Int)) y) (fun x => f_Sim_isSame_l130 (f_Sim_isSame_l63 fu) FU h' 320 200 (iI 0) (iI (i : Int)) x (iI 0)) (fun j => if g (31 + j) 0 = (i : Int) then 1 else 0) p (by unfold FU; omega) (by
      intro fu' j s hj
      have b1 := vP j hj
      have b2 : 0 ≤ g (31 + j) 0 ∧ g (31 + j) 0 < 4 := by omega
      have q0 := hs.pe (i := j) (s := 0) (by omega) hj (by decide)
      have hjj : ((j + 1 : Nat) : Int) = (j : Int) + 1 := rfl
      clear b1
      show f_Sim_isSame_b89 (f_Sim_isSame_l63 fu) (f_Sim_isSame_l89 (f_Sim_isSame_l63 fu) fu') h' 320 200 (iI 0) (iI (i : Int)) (iI s) (335 + n + m) (iI (p : Int)) (iI (j : Int)) = _
      by_cases c : g (31 + j) 0 = (i : Int)
      · simp (disch := first | decide | omega) only [f_Sim_isSame_b89, f_Sim_isSame_b118, Nat.add_zero, true_and, and_true, gd_T, bn_S, bv_S, lq_E, wI_s, sI_s, hI_s, hT_s, hL_s, hR_s, hJ_s, hN_s, hU_s, nI_L, z_i, o_i, iI_add, iI_sub, iI_mul, iI_neg, iI_lt, iI_le, iI_eq, iI_ix, Int.toNat_natCast, toNat_L, if_neg, if_pos, gd_P, inb, ix, hM.tpe, hM.lpe, hM.pR, hM.pT, hM.pL, q0, hjj, c, not_true_eq_false, ↓reduceIte]
      · simp (disch := first | decide | omega) only [f_Sim_isSame_b89, f_Sim_isSame_b118, Nat.add_zero, true_and, and_true, gd_T, bn_S, bv_S, lq_E, wI_s, sI_s, hI_s, hT_s, hL_s, hR_s, hJ_s, hN_s, hU_s, nI_L, z_i, o_i, iI_add, iI_sub, iI_mul, iI_neg, iI_lt, iI_le, iI_eq, iI_ix, Int.toNat_natCast, toNat_L, if_neg, if_pos, gd_P, inb, ix, hM.tpe, hM.lpe, hM.pR, hM.pT, hM.pL, q0, hjj, c, not_false_eq_true, ↓reduceIte]) (by
      intro fu' s
      show f_Sim_isSame_b89 (f_Sim_isSame_l63 fu) (f_Sim_isSame_l89 (f_Sim_isSame_l63 fu) fu') h' 320 200 (iI 0) (iI (i : Int)) (iI s) (335 + n + m) (iI (p : Int)) (iI (p : Int)) = _
      simp (disch := first | decide | omega) only [f_Sim_isSame_b89, nI_L, iI_lt, iI_le, iI_eq, iI_ix, Int.toNat_natCast, toNat_L, if_pos]) 0
    rw [Int.zero_add] at k1
    have f3 := garden_E3 hNm hc s6 s8 (fun i hi => by have := vP i hi; omega) hi
    have em : sumF (fun j => if g (31 + j) 0 = (i : Int) then 1 else 0) p = mOfG p g i := rfl
    rw [em] at k1
    generalize mOfG p g i = of at *
    obtain ⟨h2, k2, k3, -⟩ := loopB (fun fu' h j => f_Sim_isSame_l130 (f_Sim_isSame_l63 fu) fu' h 320 200 (iI 0) (iI (i : Int)) (iI of) (iI (j : Int))) (fun h => f_Sim_isSame_l63 fu h 320 200 (iI 0) (iI ((i + 1 : Nat) : Int))) 3 0 0 (fun x => x = h') (by
      intro fu' j h2 hj he
      subst he
      have f1 : f_QuillBoats_garden h2 200 (iI (i : Int)) (iI (j : Int)) = some (h2, iI (g (7 + i) j)) := by
        rcases (show j = 0 ∨ j = 1 ∨ j = 2 by omega) with rfl | rfl | rfl
        · exact garden_E0 hNm hc s6 hi
        · exact garden_E1 hNm hc s6 hi
        · exact garden_E2 hNm hc s6 hi
      have q1 := hs.ga (i := i) (s := j) (by omega) hi hj
      have hjj : ((j + 1 : Nat) : Int) = (j : Int) + 1 := rfl
      refine ⟨h2, ?_, rfl, Gx.refl _⟩
      show f_Sim_isSame_b130 (f_Sim_isSame_l63 fu) (f_Sim_isSame_l130 (f_Sim_isSame_l63 fu) fu') h2 320 200 (iI 0) (iI (i : Int)) (iI of) (iI (j : Int)) = _
      clear k1 em
      simp (disch := first | decide | omega) only [f_Sim_isSame_b130, Nat.add_zero, true_and, and_true, gd_T, bn_S, bv_S, lq_E, wI_s, sI_s, hI_s, hT_s, hL_s, hR_s, hJ_s, hN_s, hU_s, nI_i, cst_L, z_i, iI_add, iI_lt, iI_le, iI_eq, iI_ix, Int.toNat_natCast, toNat_L, if_neg, if_pos, gd_P, inb, ix, hQ.t, hM.t, hM.r12, hM.tga, hM.lga, hM.gR, hM.gT, hM.gL, f1, q1, hjj]) (by
      intro fu' h2 he
      subst he
      show f_Sim_isSame_b130 (f_Sim_isSame_l63 fu) (f_Sim_isSame_l130 (f_Sim_isSame_l63 fu) fu') h2 320 200 (iI 0) (iI (i : Int)) (iI of) (iI 3) = _
      clear k1 em
      simp (disch := first | decide | omega) only [f_Sim_isSame_b130, Nat.add_zero, true_and, and_true, gd_T, bn_S, bv_S, lq_E, wI_s, sI_s, hI_s, hT_s, hL_s, hR_s, hJ_s, hN_s, hU_s, nI_L, z_i, iI_add, iI_lt, iI_le, iI_eq, iI_ix, Int.toNat_natCast, toNat_L, if_pos, gd_P, hQ.t, f3, hii]) 3 0 FU h' (by omega) (by unfold FU; omega) rfl
    subst k3
    refine Eq.trans ?_ (Eq.trans k1 k2)
    clear k1 k2
    show f_Sim_isSame_b63 (f_Sim_isSame_l63 fu) h2 320 200 (iI 0) (iI (i : Int)) = _
    simp (disch := first | decide | omega) only [f_Sim_isSame_b63, Nat.add_zero, true_and, and_true, gd_T, bn_S, bv_S, lq_E, wI_s, sI_s, hI_s, hT_s, hL_s, hR_s, hJ_s, hN_s, hU_s, nI_i, cst_L, z_i, iI_lt, iI_le, iI_eq, iI_ix, Int.toNat_natCast, toNat_L, if_neg, if_pos, gd_P, inb, ix, hM.t, hM.r12, hM.r15, hM.tga, hM.lga, hM.tpe, hM.lpe]
    all_goals rfl) (by
    intro fu h' he
    subst he
    show f_Sim_isSame_b63 (f_Sim_isSame_l63 fu) h' 320 200 (iI 0) (iI (n : Int)) = _
    simp (disch := first | decide | omega) only [f_Sim_isSame_b63, Nat.add_zero, true_and, and_true, gd_T, bn_S, bv_S, lq_E, wI_s, sI_s, hI_s, hT_s, hL_s, hR_s, hJ_s, hN_s, hU_s, nI_i, cst_L, z_i, iI_lt, iI_le, iI_eq, iI_ix, Int.toNat_natCast, toNat_L, if_neg, if_pos, gd_P, inb, ix, hM.t, hM.r12, hM.tga, hM.lga]
    all_goals rfl) n 0 FU h (by omega) (by unfold FU; omega) rfl
  subst e2
  exact e1
end

/-! 82 L3: the sim and the class tell alike, II: racks, peelers -/
section
variable {xA n m p b no : Nat} {O : Nat → Nat → Int} {T C Pb : Int} {h : AH} {g : GM}
theorem same4r_E (hNm : Nm n m p b) (hb : Bo xA n m p b no O h g) (hv : Iv n m p b T C Pb g) (hTm : T ≤ 9000) {i : Nat} (hi : i < m) (k184 : AH → Nat → Nat → Int32 → Int32 → Option (AH × Int32)) :
    f_Sim_isSame_l320 k184 FU h 320 200 (iI 0) (iI (i : Int)) (iI 0) = k184 h 320 200 (iI 0) (iI ((i + 1 : Nat) : Int)) := by
  have hQ := hb.1.1
  have hM := hb.2.1
  have hs := hb.2
  have hc := hb.1
  have hN' := hNm
  unfold Nm at hN'
  have hS4 := hv.1
  unfold IvSc at hS4
  obtain ⟨s6, s7, s8, s9, -⟩ := hS4
  obtain ⟨r1, r2, r3, r4, r5, r6, r7⟩ := hv.2.2.2.1 i hi
  clear hv
  have hii : ((i + 1 : Nat) : Int) = (i : Int) + 1 := rfl
  obtain ⟨b1, b2, b3, b4, b5⟩ := hs.2.2.1 i hi
  obtain ⟨h', e1, e2, -⟩ := loopB (fun fu h j => f_Sim_isSame_l320 k184 fu h 320 200 (iI 0) (iI (i : Int)) (iI (j : Int))) (fun h => k184 h 320 200 (iI 0) (iI ((i + 1 : Nat) : Int))) (mct g i).toNat 0 0 (fun x => x = h) (by
    intro fu j h' hj he
    subst he
    have jc : (j : Int) < mct g i := by omega
    obtain ⟨c1, c2, c3, c4, c5, c6, c7, c8⟩ := b5 j jc
    have d := r7 j jc
    have hjj : ((j + 1 : Nat) : Int) = (j : Int) + 1 := rfl
    have f0 := bundle_E0 hNm hc s7 hi jc (by omega) (by omega) (by omega) (by omega) (by omega)
    have f1 := bundle_E1 hNm hc s7 hi jc (by omega) (by omega) (by omega) (by omega) (by omega)
    have f2 := bundle_E2 hNm hc s7 hi jc (by omega) (by omega) (by omega) (by omega) (by omega)
    have f3 := bundle_E3 hNm hc s7 hi jc (by omega) (by omega) (by omega) (by omega) (by omega)
    have f4 := bundle_E4 hNm hc s7 hi jc (by omega) (by omega) (by omega) (by omega) (by omega)
    have f5 := grade_S (h := h') c1 c2 c6 c8 d.2.1 d.2.2.1 d.2.2.2.2.2.1 (by omega)
    have gb := mGradeOf_b (g (13 + 5 * i) j) (g (15 + 5 * i) j)
    generalize mGradeOf (g (13 + 5 * i) j) (g (15 + 5 * i) j) = gr at *
    clear b5 r7
    refine ⟨h', ?_, rfl, Gx.refl _⟩
    obtain ⟨h2, k2, k3, -⟩ := loopB (fun fu' h w => f_Sim_isSame_l346 k184 (f_Sim_isSame_l320 k184 fu) fu' h 320 200 (iI 0) (iI (i : Int)) (iI (j : Int)) (hR h' (hR h' (334 + n) i) j) (iI (w : Int))) (fun h => f_Sim_isSame_l320 k184 fu h 320 200 (iI 0) (iI (i : Int)) (iI ((j + 1 : Nat) : Int))) 4 0 0 (fun x => x = h') (by
      intro fu' w h2 hw he
      subst he
      obtain ⟨v, ev1, ev2, ev3⟩ : ∃ v : Int, f_QuillBoats_bundle h2 200 (iI (i : Int)) (iI (j : Int)) (iI (w : Int)) = some (h2, iI v) ∧ hI h2 (hR h2 (hR h2 (334 + n) i) j) w = iI v ∧ True := by
        rcases (show w = 0 ∨ w = 1 ∨ w = 2 ∨ w = 3 by omega) with rfl | rfl | rfl | rfl
        · exact ⟨_, f0, c5, trivial⟩
        · exact ⟨_, f1, c6, trivial⟩
        · exact ⟨_, f2, c7, trivial⟩
        · exact ⟨_, f3, c8, trivial⟩
      have hww : ((w + 1 : Nat) : Int) = (w : Int) + 1 := rfl
      refine ⟨h2, ?_, rfl, Gx.refl _⟩
      show f_Sim_isSame_b346 k184 (f_Sim_isSame_l320 k184 fu) (f_Sim_isSame_l346 k184 (f_Sim_isSame_l320 k184 fu) fu') h2 320 200 (iI 0) (iI (i : Int)) (iI (j : Int)) (hR h2 (hR h2 (334 + n) i) j) (iI (w : Int)) = _
      clear f0 f1 f2 f3 f4 f5 c5 c6 c7 c8 d
      simp (disch := first | decide | omega) only [f_Sim_isSame_b346, Nat.add_zero, true_and, and_true, gd_T, bn_S, bv_S, lq_E, wI_s, sI_s, hI_s, hT_s, hL_s, hR_s, hJ_s, hN_s, hU_s, nI_L, z_i, iI_add, iI_lt, iI_le, iI_eq, iI_ix, Int.toNat_natCast, toNat_L, if_neg, gd_P, inb, ix, hQ.t, c1, c2, ev1, ev2, hww, ↓reduceIte]) (by
      intro fu' h2 he
      subst he
      show f_Sim_isSame_b346 k184 (f_Sim_isSame_l320 k184 fu) (f_Sim_isSame_l346 k184 (f_Sim_isSame_l320 k184 fu) fu') h2 320 200 (iI 0) (iI (i : Int)) (iI (j : Int)) (hR h2 (hR h2 (334 + n) i) j) (iI 4) = _
      clear f0 f1 f2 f3 c5 c6 c7 c8 d
      simp (disch := first | decide | omega) only [f_Sim_isSame_b346, Nat.add_zero, true_and, and_true, gd_T, bn_S, bv_S, lq_E, wI_s, sI_s, hI_s, hT_s, hL_s, hR_s, hJ_s, hN_s, hU_s, nI_L, z_i, iI_add, iI_lt, iI_le, iI_eq, iI_ix, Int.toNat_natCast, toNat_L, if_pos, gd_P, hQ.t, f4, f5, hjj, ↓reduceIte]) 4 0 FU h' (by omega) (by unfold FU; omega) rfl
    subst k3
    refine Eq.trans ?_ k2
    clear k2 f0 f1 f2 f3 f4 f5 c5 c6 c7 c8 d
    show f_Sim_isSame_b320 k184 (f_Sim_isSame_l320 k184 fu) h2 320 200 (iI 0) (iI (i : Int)) (iI (j : Int)) = _
    simp (disch := first | decide | omega) only [f_Sim_isSame_b320, Nat.add_zero, true_and, and_true, gd_T, bn_S, bv_S, lq_E, wI_s, sI_s, hI_s, hT_s, hL_s, hR_s, hJ_s, hN_s, hU_s, nI_i, cst_L, z_i, iI_lt, iI_le, iI_eq, iI_ix, Int.toNat_natCast, toNat_L, if_neg, if_pos, gd_P, inb, ix, hM.t, hM.r14, hM.tra, hM.lra, b1, b2]
    all_goals rfl) (by
    intro fu h' he
    subst he
    show f_Sim_isSame_b320 k184 (f_Sim_isSame_l320 k184 fu) h' 320 200 (iI 0) (iI (i : Int)) (iI ((mct g i).toNat : Int)) = _
    clear b5 r7
    simp (disch := first | decide | omega) only [f_Sim_isSame_b320, Nat.add_zero, true_and, and_true, gd_T, bn_S, bv_S, lq_E, wI_s, sI_s, hI_s, hT_s, hL_s, hR_s, hJ_s, hN_s, hU_s, nI_i, cst_L, z_i, iI_add, iI_lt, iI_le, iI_eq, iI_ix, Int.toNat_natCast, toNat_L, if_neg, if_pos, gd_P, inb, ix, hM.t, hM.r14, hM.tra, hM.lra, b1, b2, hii]
    all_goals rfl) (mct g i).toNat 0 FU h (by omega) (by unfold FU; omega) rfl
  subst e2
  exact e1
theorem same4_E (hNm : Nm n m p b) (hb : Bo xA n m p b no O h g) (hv : Iv n m p b T C Pb g) (hTm : T ≤ 9000) :
    ∃ h', f_Sim_isSame_l184 FU h 320 200 (iI 0) (iI 0) = f_Sim_isSame_l409 FU h' 320 200 (iI 0) (iI 0) ∧ Bo xA n m p b no O h' g ∧ Gx 3 12 h h' := by
  have hN' := hNm
  unfold Nm at hN'
  have hS4 := hv.1
  unfold IvSc at hS4
  obtain ⟨s6, s7, s8, s9, -⟩ := hS4
  have vP := hv.2.2.2.2.1
  have vR := hv.2.2.2.1
  obtain ⟨h', e1, e2, e3⟩ := loopB (fun fu h i => f_Sim_isSame_l184 fu h 320 200 (iI 0) (iI (i : Int))) (fun h => f_Sim_isSame_l409 FU h 320 200 (iI 0) (iI 0)) m 1 4 (fun h => Bo xA n m p b no O h g) (by
    intro fu i h hi hb
    have hQ := hb.1.1
    have hM := hb.2.1
    have hs := hb.2
    have hc := hb.1
    have tb := hs.2.2.2.2.2.1
    unfold tp at tb
    have hii : ((i + 1 : Nat) : Int) = (i : Int) + 1 := rfl
    obtain ⟨b1, b2, b3, b4, b5⟩ := hs.2.2.1 i hi
    have r := vR i hi
    have rb : 0 ≤ mct g i ∧ mct g i ≤ 60 := by unfold IvR1 at r; omega
    have k1 := loopA0 (fun fu' x y => f_Sim_isSame_l210 (f_Sim_isSame_l184 fu) fu' h 320 200 (iI 0) (iI (i : Int)) x (335 + n + m) (iI (p : Int)) y) (fun x => f_Sim_isSame_b210 (f_Sim_isSame_l184 fu) (fun _ _ _ _ _ _ _ _ _ => none) h 320 200 (iI 0) (iI (i : Int)) x (335 + n + m) (iI (p : Int)) (iI (p : Int))) (fun j => if g (31 + j) 1 = (i : Int) then 1 else 0) p (by unfold FU; omega) (by
      intro fu' j s hj
      have b1 := vP j hj
      have b2 : 0 ≤ g (31 + j) 1 ∧ g (31 + j) 1 < 4 := by omega
      have q0 := hs.pe (i := j) (s := 1) (by omega) hj (by decide)
      have hjj : ((j + 1 : Nat) : Int) = (j : Int) + 1 := rfl
      clear b1 r rb b5 tb
      show f_Sim_isSame_b210 (f_Sim_isSame_l184 fu) (f_Sim_isSame_l210 (f_Sim_isSame_l184 fu) fu') h 320 200 (iI 0) (iI (i : Int)) (iI s) (335 + n + m) (iI (p : Int)) (iI (j : Int)) = _
      by_cases c : g (31 + j) 1 = (i : Int)
      · simp (disch := first | decide | omega) only [f_Sim_isSame_b210, f_Sim_isSame_b239, Nat.add_zero, true_and, and_true, gd_T, bn_S, bv_S, lq_E, wI_s, sI_s, hI_s, hT_s, hL_s, hR_s, hJ_s, hN_s, hU_s, nI_L, z_i, o_i, iI_add, iI_sub, iI_mul, iI_neg, iI_lt, iI_le, iI_eq, iI_ix, Int.toNat_natCast, toNat_L, if_neg, if_pos, gd_P, inb, ix, hM.tpe, hM.lpe, hM.pR, hM.pT, hM.pL, q0, hjj, c, not_true_eq_false, ↓reduceIte]
      · simp (disch := first | decide | omega) only [f_Sim_isSame_b210, f_Sim_isSame_b239, Nat.add_zero, true_and, and_true, gd_T, bn_S, bv_S, lq_E, wI_s, sI_s, hI_s, hT_s, hL_s, hR_s, hJ_s, hN_s, hU_s, nI_L, z_i, o_i, iI_add, iI_sub, iI_mul, iI_neg, iI_lt, iI_le, iI_eq, iI_ix, Int.toNat_natCast, toNat_L, if_neg, if_pos, gd_P, inb, ix, hM.tpe, hM.lpe, hM.pR, hM.pT, hM.pL, q0, hjj, c, not_false_eq_true, ↓reduceIte]) (by
      intro fu' s
      show f_Sim_isSame_b210 (f_Sim_isSame_l184 fu) (f_Sim_isSame_l210 (f_Sim_isSame_l184 fu) fu') h 320 200 (iI 0) (iI (i : Int)) (iI s) (335 + n + m) (iI (p : Int)) (iI (p : Int)) = _
      unfold f_Sim_isSame_b210
      have c1 : iI (p : Int) ≤ iI (p : Int) := by rw [iI_le (by omega) (by omega) (by omega) (by omega)]; omega
      simp only [if_pos c1]) 0
    rw [Int.zero_add] at k1
    have em : sumF (fun j => if g (31 + j) 1 = (i : Int) then 1 else 0) p = mToR p g i := rfl
    rw [em] at k1
    have f0 := fun (h : AH) (hc : Cl n m p b O no h g) => rack_E0 hNm hc s7 hi
    have f1 := fun (h : AH) (hc : Cl n m p b O no h g) => rack_E1 hNm hc s7 hi
    have f2 := fun (h : AH) (hc : Cl n m p b O no h g) => rack_E2 hNm hc s7 hi
    have f3 := fun (h : AH) (hc : Cl n m p b O no h g) => rack_E3 hNm hc s7 s8 (fun i hi => by have := vP i hi; omega) hi
    generalize mToR p g i = to at *
    -- the row
    obtain ⟨F, hF⟩ : ∃ F : Nat → Nat → Int32, F = (up2 (up2 (up2 (up2 (up1 (hI h) (hN h) (fun _ => 0)) (hN h) 0 (iI (g (11 + 5 * i) 0))) (hN h) 1 (iI (mRoom g i))) (hN h) 2 (iI ((mct g i).toNat : Int))) (hN h) 3 (iI to)) := ⟨_, rfl⟩
    have gx : Gx 1 4 h (sI (hA h 101 4) F) := Gx.row F fun a ha => by
      rw [hF]
      funext s
      simp (disch := omega) only [up2_n, up1_n]
    have hb2 := hb.ext hNm gx
    have gx0 : Gx 1 4 h (sI (hA h 101 4) (up2 (up1 (hI h) (hN h) (fun _ => iI 0)) (hN h) 0 (iI (g (11 + 5 * i) 0)))) := Gx.row _ fun a ha => by
      funext s
      simp (disch := omega) only [up2_n, up1_n]
    have froom := room_S hNm (hb.ext hNm gx0).2 vR hi
    have qh := hs.ho (i := i) (by omega) hi
    have w0 : F (hN h) 0 = iI (g (11 + 5 * i) 0) := by rw [hF]; simp (disch := omega) only [up2_n, up2_e]
    have w1 : F (hN h) 1 = iI (mRoom g i) := by rw [hF]; simp (disch := omega) only [up2_n, up2_e]
    have w2 : F (hN h) 2 = iI ((mct g i).toNat : Int) := by rw [hF]; simp (disch := omega) only [up2_n, up2_e]
    have w3 : F (hN h) 3 = iI to := by rw [hF]; simp (disch := omega) only [up2_n, up2_e]
    have s1 : f_Sim_isSame_b210 (f_Sim_isSame_l184 fu) (fun _ _ _ _ _ _ _ _ _ => none) h 320 200 (iI 0) (iI (i : Int)) (iI to) (335 + n + m) (iI (p : Int)) (iI (p : Int)) = f_Sim_isSame_l288 (f_Sim_isSame_l184 fu) FU (sI (hA h 101 4) F) 320 200 (iI 0) (iI (i : Int)) (hN h) (iI 0) := by
      rw [hF]
      clear k1 f0 f1 f2 f3 gx hb2 gx0 w0 w1 w2 w3 r b5 hF
      simp (disch := first | decide | omega) only [f_Sim_isSame_b210, Nat.add_zero, true_and, and_true, gd_T, bn_S, bv_S, lq_E, wI_s, sI_s, hI_s, hT_s, hL_s, hR_s, hJ_s, hN_s, hU_s, hN_a, hU_a, hT_a, hL_a, hI_a, hR_a, hJ_a, up1_e, up1_n, nI_i, cst_L, z_i, iI_lt, iI_le, iI_eq, iI_ix, Int.toNat_natCast, toNat_L, if_neg, if_pos, gd_P, inb, ix, hM.t, hM.r13, hM.r14, hM.tho, hM.lho, hM.tra, hM.lra, b1, b2, qh, froom, up2_n, up2_e]
    -- the four
    obtain ⟨h2, k2, k3, -⟩ := loopB (fun fu' h2 w => f_Sim_isSame_l288 (f_Sim_isSame_l184 fu) fu' h2 320 200 (iI 0) (iI (i : Int)) (hN h) (iI (w : Int))) (fun h2 => f_Sim_isSame_l320 (f_Sim_isSame_l184 fu) FU h2 320 200 (iI 0) (iI (i : Int)) (iI 0)) 4 0 0 (fun x => x = sI (hA h 101 4) F) (by
      intro fu' w h2 hw he
      have hc2 : Cl n m p b O no h2 g := by rw [he]; exact hb2.1
      have t1 : hT h2 (hN h) = 101 := by rw [he, hT_s, hT_a, up1_e]
      have t2 : hL h2 (hN h) = 4 := by rw [he, hL_s, hL_a, up1_e]
      have t3 : hI h2 = F := by rw [he, hI_s]
      obtain ⟨v, ev1, ev2⟩ : ∃ v : Int, f_QuillBoats_rack h2 200 (iI (i : Int)) (iI (w : Int)) = some (h2, iI v) ∧ hI h2 (hN h) w = iI v := by
        rw [t3]
        rcases (show w = 0 ∨ w = 1 ∨ w = 2 ∨ w = 3 by omega) with rfl | rfl | rfl | rfl
        · exact ⟨_, f0 h2 hc2, w0⟩
        · exact ⟨_, f1 h2 hc2, w1⟩
        · refine ⟨_, f2 h2 hc2, ?_⟩
          rw [w2]
          congr 1
          exact Int.toNat_of_nonneg rb.1
        · exact ⟨_, f3 h2 hc2, w3⟩
      have hww : ((w + 1 : Nat) : Int) = (w : Int) + 1 := rfl
      have hQ2 := hc2.1
      refine ⟨h2, ?_, he, Gx.refl _⟩
      show f_Sim_isSame_b288 (f_Sim_isSame_l184 fu) (f_Sim_isSame_l288 (f_Sim_isSame_l184 fu) fu') h2 320 200 (iI 0) (iI (i : Int)) (hN h) (iI (w : Int)) = _
      clear k1 f0 f1 f2 f3 gx hb2 gx0 w0 w1 w2 w3 r b5 hF s1 he froom hc2
      simp (disch := first | decide | omega) only [f_Sim_isSame_b288, Nat.add_zero, true_and, and_true, gd_T, bn_S, bv_S, lq_E, wI_s, sI_s, hI_s, hT_s, hL_s, hR_s, hJ_s, hN_s, hU_s, nI_L, z_i, iI_add, iI_lt, iI_le, iI_eq, iI_ix, Int.toNat_natCast, toNat_L, if_neg, gd_P, inb, ix, hQ2.t, t1, t2, ev1, ev2, hww, ↓reduceIte]) (by
      intro fu' h2 he
      show f_Sim_isSame_b288 (f_Sim_isSame_l184 fu) (f_Sim_isSame_l288 (f_Sim_isSame_l184 fu) fu') h2 320 200 (iI 0) (iI (i : Int)) (hN h) (iI 4) = _
      simp (disch := first | decide | omega) only [f_Sim_isSame_b288, nI_L, iI_lt, iI_le, iI_eq, iI_ix, Int.toNat_natCast, toNat_L, if_pos]) 4 0 FU _ (by omega) (by unfold FU; omega) rfl
    subst k3
    have k4 := same4r_E hNm hb2 hv hTm hi (f_Sim_isSame_l184 fu)
    refine ⟨_, ?_, hb2, gx⟩
    refine Eq.trans ?_ (Eq.trans k1 (Eq.trans s1 (Eq.trans k2 k4)))
    clear k1 s1 k2 k4 f0 f1 f2 f3 gx hb2 gx0 w0 w1 w2 w3 r b5 hF froom
    show f_Sim_isSame_b184 (f_Sim_isSame_l184 fu) h 320 200 (iI 0) (iI (i : Int)) = _
    simp (disch := first | decide | omega) only [f_Sim_isSame_b184, Nat.add_zero, true_and, and_true, gd_T, bn_S, bv_S, lq_E, wI_s, sI_s, hI_s, hT_s, hL_s, hR_s, hJ_s, hN_s, hU_s, nI_i, cst_L, z_i, iI_lt, iI_le, iI_eq, iI_ix, Int.toNat_natCast, toNat_L, if_neg, if_pos, gd_P, inb, ix, hM.t, hM.r14, hM.r15, hM.tra, hM.lra, hM.tpe, hM.lpe]
    all_goals rfl) (by
    intro fu h hb
    have hM := hb.2.1
    show f_Sim_isSame_b184 (f_Sim_isSame_l184 fu) h 320 200 (iI 0) (iI (m : Int)) = _
    simp (disch := first | decide | omega) only [f_Sim_isSame_b184, Nat.add_zero, true_and, and_true, gd_T, bn_S, bv_S, lq_E, wI_s, sI_s, hI_s, hT_s, hL_s, hR_s, hJ_s, hN_s, hU_s, nI_i, cst_L, z_i, iI_lt, iI_le, iI_eq, iI_ix, Int.toNat_natCast, toNat_L, if_neg, if_pos, gd_P, inb, ix, hM.t, hM.r14, hM.tra, hM.lra]
    all_goals rfl) m 0 FU h (by omega) (by unfold FU; omega) hb
  exact ⟨h', e1, e2, e3.mono (by omega) (by omega)⟩
theorem same5_E (hNm : Nm n m p b) (hb : Bo xA n m p b no O h g) (hv : Iv n m p b T C Pb g) : f_Sim_isSame_l409 FU h 320 200 (iI 0) (iI 0) = f_Sim_isSame_l474 FU h 320 200 (iI (sumF (fun i => g (31 + i) 3) p)) (iI 0) := by
  have hQ := hb.1.1
  have hM := hb.2.1
  have hs := hb.2
  have hc := hb.1
  have hN' := hNm
  unfold Nm at hN'
  have hS4 := hv.1
  unfold IvSc at hS4
  obtain ⟨s6, s7, s8, s9, -⟩ := hS4
  have vP := hv.2.2.2.2.1
  clear hv
  have k := loopA0 (fun fu x y => f_Sim_isSame_l409 fu h 320 200 x y) (fun x => f_Sim_isSame_l474 FU h 320 200 x (iI 0)) (fun i => g (31 + i) 3) p (by unfold FU; omega) (by
    intro fu i s hi
    have hii : ((i + 1 : Nat) : Int) = (i : Int) + 1 := rfl
    have q3 := hs.pe (i := i) (s := 3) (by omega) hi (by decide)
    obtain ⟨h2, k2, k3, -⟩ := loopB (fun fu' h w => f_Sim_isSame_l421 (f_Sim_isSame_l409 fu) fu' h 320 200 (iI s) (iI (i : Int)) (iI (w : Int))) (fun h => f_Sim_isSame_l409 fu h 320 200 (iI (s + g (31 + i) 3)) (iI ((i + 1 : Nat) : Int))) 6 0 0 (fun x => x = h) (by
      intro fu' w h2 hw he
      subst he
      have f1 : f_QuillBoats_peeler h2 200 (iI (i : Int)) (iI (w : Int)) = some (h2, iI (g (31 + i) w)) := by
        rcases (show w = 0 ∨ w = 1 ∨ w = 2 ∨ w = 3 ∨ w = 4 ∨ w = 5 by omega) with rfl | rfl | rfl | rfl | rfl | rfl
        · exact peeler_E0 hNm hc s8 hi
        · exact peeler_E1 hNm hc s8 hi
        · exact peeler_E2 hNm hc s8 hi
        · exact peeler_E3 hNm hc s8 hi
        · exact peeler_E4 hNm hc s8 hi
        · exact peeler_E5 hNm hc s8 hi
      have q1 := hs.pe (i := i) (s := w) (by omega) hi (by omega)
      have hww : ((w + 1 : Nat) : Int) = (w : Int) + 1 := rfl
      refine ⟨h2, ?_, rfl, Gx.refl _⟩
      show f_Sim_isSame_b421 (f_Sim_isSame_l409 fu) (f_Sim_isSame_l421 (f_Sim_isSame_l409 fu) fu') h2 320 200 (iI s) (iI (i : Int)) (iI (w : Int)) = _
      simp (disch := first | decide | omega) only [f_Sim_isSame_b421, Nat.add_zero, true_and, and_true, gd_T, bn_S, bv_S, lq_E, wI_s, sI_s, hI_s, hT_s, hL_s, hR_s, hJ_s, hN_s, hU_s, nI_L, z_i, iI_add, iI_lt, iI_le, iI_eq, iI_ix, Int.toNat_natCast, toNat_L, if_neg, gd_P, inb, ix, hQ.t, hM.t, hM.r15, hM.tpe, hM.lpe, hM.pR, hM.pT, hM.pL, f1, q1, hww, ↓reduceIte]) (by
      intro fu' h2 he
      subst he
      show f_Sim_isSame_b421 (f_Sim_isSame_l409 fu) (f_Sim_isSame_l421 (f_Sim_isSame_l409 fu) fu') h2 320 200 (iI s) (iI (i : Int)) (iI 6) = _
      simp (disch := first | decide | omega) only [f_Sim_isSame_b421, Nat.add_zero, true_and, and_true, gd_T, bn_S, bv_S, lq_E, wI_s, sI_s, hI_s, hT_s, hL_s, hR_s, hJ_s, hN_s, hU_s, nI_L, z_i, iI_add, iI_lt, iI_le, iI_eq, iI_ix, Int.toNat_natCast, toNat_L, if_pos, gd_P, inb, ix, hM.t, hM.r15, hM.tpe, hM.lpe, hM.pR, hM.pT, hM.pL, q3, hii]) 6 0 FU h (by omega) (by unfold FU; omega) rfl
    subst k3
    refine Eq.trans ?_ k2
    show f_Sim_isSame_b409 (f_Sim_isSame_l409 fu) h2 320 200 (iI s) (iI (i : Int)) = _
    simp (disch := first | decide | omega) only [f_Sim_isSame_b409, Nat.add_zero, true_and, and_true, gd_T, bn_S, bv_S, lq_E, wI_s, sI_s, hI_s, hT_s, hL_s, hR_s, hJ_s, hN_s, hU_s, nI_i, cst_L, z_i, iI_lt, iI_le, iI_eq, iI_ix, Int.toNat_natCast, toNat_L, if_neg, if_pos, gd_P, inb, ix, hM.t, hM.r15, hM.tpe, hM.lpe]
    all_goals rfl) (by
    intro fu s
    show f_Sim_isSame_b409 (f_Sim_isSame_l409 fu) h 320 200 (iI s) (iI (p : Int)) = _
    simp (disch := first | decide | omega) only [f_Sim_isSame_b409, Nat.add_zero, true_and, and_true, gd_T, bn_S, bv_S, lq_E, wI_s, sI_s, hI_s, hT_s, hL_s, hR_s, hJ_s, hN_s, hU_s, nI_i, cst_L, z_i, iI_lt, iI_le, iI_eq, iI_ix, Int.toNat_natCast, toNat_L, if_neg, if_pos, gd_P, inb, ix, hM.t, hM.r15, hM.tpe, hM.lpe]
    all_goals rfl) 0
  rw [Int.zero_add] at k
  exact k
end

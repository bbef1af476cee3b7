/-! 85 L3: the law's looks, I: gardens, racks, peelers -/
theorem mGradeOf_lo {t s : Int} (h1 : 1 ≤ t) (h2 : t ≤ 9) (h3 : 0 ≤ s) : (t - 1) / 3 ≤ mGradeOf t s ∧ mGradeOf t s ≤ 3 := by unfold mGradeOf; omega
section
variable {xA n m p b no : Nat} {O : Nat → Nat → Int} {T C Pb : Int} {h : AH} {g : GM}
theorem law1_E (hNm : Nm n m p b) (hc : Cl n m p b O no h g) (hv : Iv n m p b T C Pb g) (k28 : AH → Nat → Nat → Nat → Int32 → Option (AH × Int32)) (sc sm : Nat) (t : Int32) :
    f_Law_law_l152 k28 FU h sc 200 sm t (iI 0) (iI 0) (iI 0) (iI 0) (iI 0) (iI 0) = f_Law_law_l195 k28 FU h sc 200 sm t (iI 0) (iI 0) (iI 0) (iI 0) (iI 0) (iI 0) := by
  have hN' := hNm
  unfold Nm at hN'
  have hQ := hc.1
  have hS4 := hv.1
  unfold IvSc at hS4
  obtain ⟨s6, s7, s8, s9, -⟩ := hS4
  have vG := hv.2.2.1
  clear hv
  have f2 : f_QuillBoats_count h 200 (iI 2) = some (h, iI (n : Int)) := by
    have := count_E hNm hc s7 s9 2 (by omega)
    rw [show mCnt m b g 2 = g 0 6 from rfl, s6] at this
    exact this
  obtain ⟨h', e1, e2, -⟩ := loopB (fun fu h i => f_Law_law_l152 k28 fu h sc 200 sm t (iI 0) (iI 0) (iI 0) (iI 0) (iI 0) (iI (i : Int))) (fun h => f_Law_law_l195 k28 FU h sc 200 sm t (iI 0) (iI 0) (iI 0) (iI 0) (iI 0) (iI 0)) n 0 0 (fun x => x = h) (by
    intro fu i h' hi he
    subst he
    have f1 := garden_E0 hNm hc s6 hi
    have v := vG i hi
    have v0 : 0 ≤ g (7 + i) 0 ∧ g (7 + i) 0 ≤ 99 := by omega
    have hii : ((i + 1 : Nat) : Int) = (i : Int) + 1 := rfl
    refine ⟨h', ?_, rfl, Gx.refl _⟩
    show f_Law_law_b152 k28 (f_Law_law_l152 k28 fu) h' sc 200 sm t (iI 0) (iI 0) (iI 0) (iI 0) (iI 0) (iI (i : Int)) = _
    clear v
    simp (disch := first | decide | omega) only [f_Law_law_b152, Nat.add_zero, true_and, and_true, gd_T, bn_S, bv_S, lq_E, wI_s, sI_s, hI_s, hT_s, hL_s, hR_s, hJ_s, hN_s, hU_s, nI_L, z_i, o_i, iI_add, iI_sub, iI_mul, iI_neg, iI_lt, iI_le, iI_eq, iI_ix, Int.toNat_natCast, toNat_L, if_neg, if_pos, gd_P, inb, ix, hQ.t, f2, f1, hii]) (by
    intro fu h' he
    subst he
    show f_Law_law_b152 k28 (f_Law_law_l152 k28 fu) h' sc 200 sm t (iI 0) (iI 0) (iI 0) (iI 0) (iI 0) (iI (n : Int)) = _
    simp (disch := first | decide | omega) only [f_Law_law_b152, Nat.add_zero, true_and, and_true, gd_T, bn_S, bv_S, lq_E, wI_s, sI_s, hI_s, hT_s, hL_s, hR_s, hJ_s, hN_s, hU_s, nI_L, z_i, o_i, iI_add, iI_sub, iI_mul, iI_neg, iI_lt, iI_le, iI_eq, iI_ix, Int.toNat_natCast, toNat_L, if_neg, if_pos, gd_P, inb, ix, hQ.t, f2]) n 0 FU h (by omega) (by unfold FU; omega) rfl
  subst e2
  exact e1
-- the bundles of a rack
theorem law2r_E (hNm : Nm n m p b) (hc : Cl n m p b O no h g) (hv : Iv n m p b T C Pb g) (hTm : T ≤ 9000) {i : Nat} (hi : i < m) (k28 : AH → Nat → Nat → Nat → Int32 → Option (AH × Int32)) (k195 : AH → Nat → Nat → Nat → Int32 → Int32 → Int32 → Int32 → Int32 → Int32 → Int32 → Option (AH × Int32)) (sc sm : Nat) (t : Int32) (A : Int) :
    f_Law_law_l217 k28 k195 FU h sc 200 sm t (iI 0) (iI 0) (iI 0) (iI A) (iI 0) (iI (i : Int)) (iI (g (11 + 5 * i) 0)) (iI 0) = k195 h sc 200 sm t (iI 0) (iI 0) (iI 0) (iI (A + g (11 + 5 * i) 1)) (iI 0) (iI ((i + 1 : Nat) : Int)) := by
  have hN' := hNm
  unfold Nm at hN'
  have hQ := hc.1
  have hS4 := hv.1
  unfold IvSc at hS4
  obtain ⟨s6, s7, s8, s9, -⟩ := hS4
  obtain ⟨r1, r2, r3, r4, r5, r6, r7⟩ := hv.2.2.2.1 i hi
  have fd := fun (j : Nat) (hj : (j : Int) < mct g i) => dry_C hNm hc hv hTm hi hj
  clear hv
  have f1 := rack_E1 hNm hc s7 hi
  have f2 := rack_E2 hNm hc s7 hi
  have jn : ((mct g i).toNat : Int) = mct g i := Int.toNat_of_nonneg r3
  have f2' : f_QuillBoats_rack h 200 (iI (i : Int)) (iI 2) = some (h, iI ((mct g i).toNat : Int)) := by rw [jn]; exact f2
  have hii : ((i + 1 : Nat) : Int) = (i : Int) + 1 := rfl
  obtain ⟨h', e1, e2, -⟩ := loopB (fun fu h j => f_Law_law_l217 k28 k195 fu h sc 200 sm t (iI 0) (iI 0) (iI 0) (iI (A + sumF (fun j => g (12 + 5 * i) j) j)) (iI 0) (iI (i : Int)) (iI (g (11 + 5 * i) 0 - sumF (fun j => g (12 + 5 * i) j) j)) (iI (j : Int))) (fun h => k195 h sc 200 sm t (iI 0) (iI 0) (iI 0) (iI (A + g (11 + 5 * i) 1)) (iI 0) (iI ((i + 1 : Nat) : Int))) (mct g i).toNat 0 0 (fun x => x = h) (by
    intro fu j h' hj he
    subst he
    have jc : (j : Int) < mct g i := by omega
    obtain ⟨v, w, y1, y2, y3⟩ := fd j jc
    have d := r7 j jc
    have b0 := bundle_E0 hNm hc s7 hi jc (by omega) (by omega) (by omega) (by omega) (by omega)
    have b1 := bundle_E1 hNm hc s7 hi jc (by omega) (by omega) (by omega) (by omega) (by omega)
    have b2 := bundle_E2 hNm hc s7 hi jc (by omega) (by omega) (by omega) (by omega) (by omega)
    have b4 := bundle_E4 hNm hc s7 hi jc (by omega) (by omega) (by omega) (by omega) (by omega)
    have gl := mGradeOf_lo (t := g (13 + 5 * i) j) (s := g (15 + 5 * i) j) d.2.1 d.2.2.1 d.2.2.2.2.2.1
    have d1 : 1 ≤ g (13 + 5 * i) j ∧ g (13 + 5 * i) j ≤ 9 := ⟨d.2.1, d.2.2.1⟩
    have d2 : 0 ≤ g (14 + 5 * i) j ∧ g (14 + 5 * i) j < 3 * g (13 + 5 * i) j := ⟨d.2.2.2.1, d.2.2.2.2.1⟩
    have d0 : 1 ≤ g (12 + 5 * i) j := d.1
    have d00 : g (12 + 5 * i) j ≤ 60 := by
      have := (sumF_nn (f := fun j => g (12 + 5 * i) j) (mct g i).toNat (fun k hk => by have := r7 k (by omega); show 0 ≤ g (12 + 5 * i) k; omega)).2 j hj
      have h5 : g (12 + 5 * i) j ≤ sumF (fun j => g (12 + 5 * i) j) (mct g i).toNat := this
      omega
    generalize mGradeOf (g (13 + 5 * i) j) (g (15 + 5 * i) j) = gr at *
    have hjj : ((j + 1 : Nat) : Int) = (j : Int) + 1 := rfl
    have hsu : sumF (fun j => g (12 + 5 * i) j) (j + 1) = sumF (fun j => g (12 + 5 * i) j) j + g (12 + 5 * i) j := rfl
    refine ⟨h', ?_, rfl, Gx.refl _⟩
    show f_Law_law_b217 k28 k195 (f_Law_law_l217 k28 k195 fu) h' sc 200 sm t (iI 0) (iI 0) (iI 0) (iI (A + sumF (fun j => g (12 + 5 * i) j) j)) (iI 0) (iI (i : Int)) (iI (g (11 + 5 * i) 0 - sumF (fun j => g (12 + 5 * i) j) j)) (iI (j : Int)) = _
    show _ = f_Law_law_l217 k28 k195 fu h' sc 200 sm t (iI 0) (iI 0) (iI 0) (iI (A + sumF (fun j => g (12 + 5 * i) j) (j + 1))) (iI 0) (iI (i : Int)) (iI (g (11 + 5 * i) 0 - sumF (fun j => g (12 + 5 * i) j) (j + 1))) (iI ((j + 1 : Nat) : Int))
    rw [hsu, ← Int.add_assoc, ← Int.sub_sub]
    generalize A + sumF (fun j => g (12 + 5 * i) j) j = A1
    generalize g (11 + 5 * i) 0 - sumF (fun j => g (12 + 5 * i) j) j = R1
    have n0 : (mct g i).toNat ≤ 60 := by omega
    clear fd r6 r7 d f1 f2 hsu r1 r2 r4 r5
    have n1 : ¬ ((mct g i).toNat : Int) ≤ (j : Int) := by omega
    have n2 : ¬ g (12 + 5 * i) j < 1 := by omega
    have n3 : ¬ 3 * g (13 + 5 * i) j ≤ g (14 + 5 * i) j := by omega
    have n4 : ¬ gr < (g (13 + 5 * i) j - 1) / 3 := by omega
    have n5 : gr ≤ 3 := gl.2
    have p2 := fun (f : AH → Int32 → Option (AH × Int32)) => bn_C (f := f) f2'
    have q0 := fun (f : AH → Int32 → Option (AH × Int32)) => bn_C (f := f) b0
    have q1 := fun (f : AH → Int32 → Option (AH × Int32)) => bn_C (f := f) b1
    have q2 := fun (f : AH → Int32 → Option (AH × Int32)) => bn_C (f := f) b2
    have q4 := fun (f : AH → Int32 → Option (AH × Int32)) => bn_C (f := f) b4
    have z1 := fun (f : AH → Int32 → Option (AH × Int32)) => bn_C (f := f) y1
    have z2 := fun (f : AH → Int32 → Option (AH × Int32)) => bn_C (f := f) y2
    have m1 : ¬ v = 0 := by omega
    have m2 : ¬ 300 < v := by omega
    have m3 : -1 ≤ v := by omega
    have m4 : -1 ≤ w ∧ w ≤ 3 := by omega
    simp only [f_Law_law_b217, nI_L, z_i, iI_neg]
    by_cases m5 : 0 ≤ v
    · have m6 : gr ≤ w := by omega
      clear y3 f2' b0 b1 b2 b4 y1 y2
      simp (disch := first | decide | omega) only [f_Law_law_b374, ↓lq_E, ↓reduceIte, ↓p2, ↓q0, ↓q1, ↓q2, ↓q4, ↓z1, ↓z2, hQ.t, gd_T, nI_L, iI_add, iI_sub, iI_mul, iI_div, iI_lt, iI_le, iI_eq, iI_ix, Int.toNat_natCast, toNat_L, n1, n2, n3, n4, n5, m1, m2, m5, m6, hjj]
    · have m6 : -1 ≤ w := by omega
      clear y3 f2' b0 b1 b2 b4 y1 y2
      simp (disch := first | decide | omega) only [f_Law_law_b374, ↓lq_E, ↓reduceIte, ↓p2, ↓q0, ↓q1, ↓q2, ↓q4, ↓z1, ↓z2, hQ.t, gd_T, nI_L, iI_add, iI_sub, iI_mul, iI_div, iI_lt, iI_le, iI_eq, iI_ix, Int.toNat_natCast, toNat_L, n1, n2, n3, n4, n5, m1, m2, m5, m6, hjj]) (by
    intro fu h' he
    subst he
    show f_Law_law_b217 k28 k195 (f_Law_law_l217 k28 k195 fu) h' sc 200 sm t (iI 0) (iI 0) (iI 0) (iI (A + sumF (fun j => g (12 + 5 * i) j) (mct g i).toNat)) (iI 0) (iI (i : Int)) (iI (g (11 + 5 * i) 0 - sumF (fun j => g (12 + 5 * i) j) (mct g i).toNat)) (iI ((mct g i).toNat : Int)) = _
    rw [← r6, show g (11 + 5 * i) 0 - g (11 + 5 * i) 1 = mRoom g i from rfl]
    have rb : 0 ≤ mRoom g i ∧ mRoom g i ≤ 60 := by unfold mRoom; omega
    clear fd r6 r7
    have p2 := fun (f : AH → Int32 → Option (AH × Int32)) => bn_C (f := f) f2'
    have p1 := fun (f : AH → Int32 → Option (AH × Int32)) => bn_C (f := f) f1
    have n1 : ((mct g i).toNat : Int) ≤ ((mct g i).toNat : Int) := Int.le_refl _
    have n2 : 0 ≤ mRoom g i := rb.1
    simp only [f_Law_law_b217, nI_L, z_i, iI_neg]
    clear f2' f1
    simp (disch := first | decide | omega) only [↓lq_E, ↓reduceIte, ↓p2, ↓p1, hQ.t, gd_T, nI_L, iI_add, iI_lt, iI_le, iI_eq, iI_ix, Int.toNat_natCast, toNat_L, n1, n2, hii, not_true_eq_false]) (mct g i).toNat 0 FU h (by omega) (by unfold FU; omega) rfl
  subst e2
  have e3 : sumF (fun j => g (12 + 5 * i) j) 0 = 0 := rfl
  rw [e3, Int.add_zero, Int.sub_zero] at e1
  exact e1
theorem law2_E (hNm : Nm n m p b) (hc : Cl n m p b O no h g) (hv : Iv n m p b T C Pb g) (hTm : T ≤ 9000) (k28 : AH → Nat → Nat → Nat → Int32 → Option (AH × Int32)) (sc sm : Nat) (t : Int32) :
    f_Law_law_l195 k28 FU h sc 200 sm t (iI 0) (iI 0) (iI 0) (iI 0) (iI 0) (iI 0) = f_Law_law_l413 k28 FU h sc 200 sm t (iI 0) (iI 0) (iI 0) (iI (sumF (fun k => g (11 + 5 * k) 1) m)) (iI 0) (iI 0) := by
  have hN' := hNm
  unfold Nm at hN'
  have hQ := hc.1
  have hS4 := hv.1
  unfold IvSc at hS4
  obtain ⟨s6, s7, s8, s9, -⟩ := hS4
  have f3 : f_QuillBoats_count h 200 (iI 3) = some (h, iI (m : Int)) := by
    have := count_E hNm hc s7 s9 3 (by omega)
    rw [show mCnt m b g 3 = g 0 7 from rfl, s7] at this
    exact this
  have k := loopA0 (fun fu x y => f_Law_law_l195 k28 fu h sc 200 sm t (iI 0) (iI 0) (iI 0) x (iI 0) y) (fun x => f_Law_law_l413 k28 FU h sc 200 sm t (iI 0) (iI 0) (iI 0) x (iI 0) (iI 0)) (fun k => g (11 + 5 * k) 1) m (by unfold FU; omega) (by
    intro fu i s hi
    have f0 := rack_E0 hNm hc s7 hi
    have k2 := law2r_E hNm hc hv hTm hi k28 (f_Law_law_l195 k28 fu) sc sm t s
    refine Eq.trans ?_ k2
    clear hv k2
    show f_Law_law_b195 k28 (f_Law_law_l195 k28 fu) h sc 200 sm t (iI 0) (iI 0) (iI 0) (iI s) (iI 0) (iI (i : Int)) = _
    simp (disch := first | decide | omega) only [f_Law_law_b195, Nat.add_zero, true_and, and_true, gd_T, bn_S, bv_S, lq_E, wI_s, sI_s, hI_s, hT_s, hL_s, hR_s, hJ_s, hN_s, hU_s, nI_L, z_i, o_i, iI_add, iI_sub, iI_mul, iI_neg, iI_lt, iI_le, iI_eq, iI_ix, Int.toNat_natCast, toNat_L, if_neg, if_pos, gd_P, inb, ix, hQ.t, f3, f0]) (by
    intro fu s
    clear hv
    show f_Law_law_b195 k28 (f_Law_law_l195 k28 fu) h sc 200 sm t (iI 0) (iI 0) (iI 0) (iI s) (iI 0) (iI (m : Int)) = _
    simp (disch := first | decide | omega) only [f_Law_law_b195, Nat.add_zero, true_and, and_true, gd_T, bn_S, bv_S, lq_E, wI_s, sI_s, hI_s, hT_s, hL_s, hR_s, hJ_s, hN_s, hU_s, nI_L, z_i, o_i, iI_add, iI_sub, iI_mul, iI_neg, iI_lt, iI_le, iI_eq, iI_ix, Int.toNat_natCast, toNat_L, if_neg, if_pos, gd_P, inb, ix, hQ.t, f3]) 0
  rw [Int.zero_add] at k
  exact k
theorem law3_E (hNm : Nm n m p b) (hc : Cl n m p b O no h g) (hv : Iv n m p b T C Pb g) (k28 : AH → Nat → Nat → Nat → Int32 → Option (AH × Int32)) (sc sm : Nat) (t : Int32) (A : Int) :
    f_Law_law_l413 k28 FU h sc 200 sm t (iI 0) (iI 0) (iI 0) (iI A) (iI 0) (iI 0) = f_Law_law_l468 k28 FU h sc 200 sm t (iI (sumF (fun i => g (31 + i) 4) p)) (iI 0) (iI 0) (iI A) (iI 0) (iI 0) := by
  have hN' := hNm
  unfold Nm at hN'
  have hQ := hc.1
  have hS4 := hv.1
  unfold IvSc at hS4
  obtain ⟨s6, s7, s8, s9, -⟩ := hS4
  have vP := hv.2.2.2.2.1
  clear hv
  have f3 : f_QuillBoats_count h 200 (iI 4) = some (h, iI (p : Int)) := by
    have := count_E hNm hc s7 s9 4 (by omega)
    rw [show mCnt m b g 4 = g 0 8 from rfl, s8] at this
    exact this
  have k := loopA0 (fun fu x y => f_Law_law_l413 k28 fu h sc 200 sm t x (iI 0) (iI 0) (iI A) (iI 0) y) (fun x => f_Law_law_l468 k28 FU h sc 200 sm t x (iI 0) (iI 0) (iI A) (iI 0) (iI 0)) (fun i => g (31 + i) 4) p (by unfold FU; omega) (by
    intro fu i s hi
    have f0 := peeler_E3 hNm hc s8 hi
    have f4 := peeler_E4 hNm hc s8 hi
    have v := vP i hi
    have v0 : 0 ≤ g (31 + i) 3 ∧ g (31 + i) 3 ≤ 20 := by omega
    have hii : ((i + 1 : Nat) : Int) = (i : Int) + 1 := rfl
    clear v
    show f_Law_law_b413 k28 (f_Law_law_l413 k28 fu) h sc 200 sm t (iI s) (iI 0) (iI 0) (iI A) (iI 0) (iI (i : Int)) = _
    simp (disch := first | decide | omega) only [f_Law_law_b413, Nat.add_zero, true_and, and_true, gd_T, bn_S, bv_S, lq_E, wI_s, sI_s, hI_s, hT_s, hL_s, hR_s, hJ_s, hN_s, hU_s, nI_L, z_i, o_i, iI_add, iI_sub, iI_mul, iI_neg, iI_lt, iI_le, iI_eq, iI_ix, Int.toNat_natCast, toNat_L, if_neg, if_pos, gd_P, inb, ix, hQ.t, f3, f0, f4, hii]) (by
    intro fu s
    show f_Law_law_b413 k28 (f_Law_law_l413 k28 fu) h sc 200 sm t (iI s) (iI 0) (iI 0) (iI A) (iI 0) (iI (p : Int)) = _
    simp (disch := first | decide | omega) only [f_Law_law_b413, Nat.add_zero, true_and, and_true, gd_T, bn_S, bv_S, lq_E, wI_s, sI_s, hI_s, hT_s, hL_s, hR_s, hJ_s, hN_s, hU_s, nI_L, z_i, o_i, iI_add, iI_sub, iI_mul, iI_neg, iI_lt, iI_le, iI_eq, iI_ix, Int.toNat_natCast, toNat_L, if_neg, if_pos, gd_P, inb, ix, hQ.t, f3]) 0
  rw [Int.zero_add] at k
  exact k
end

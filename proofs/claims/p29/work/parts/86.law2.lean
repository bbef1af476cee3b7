/-! 86 L3: the law's looks, II: boats, grades -/
theorem loopZ {α : Type} (L : Nat → AH → Nat → Option α) (K : AH → Option α) (N : Nat) (c d : Nat) (J : AH → Prop)
    (hstep : ∀ (fu i : Nat) (h : AH), i < N → J h → ∃ h', L (fu + 1) h i = L fu h' (i + 1) ∧ J h' ∧ Fz c d h h')
    (hend : ∀ (fu : Nat) (h : AH), J h → L (fu + 1) h N = K h) :
    ∀ (k i fu : Nat) (h : AH), i + k = N → k < fu → J h → ∃ h', L fu h i = K h' ∧ J h' ∧ Fz (k * c) (k * d) h h' := by
  intro k
  induction k with
  | zero =>
    intro i fu h e hf hJ
    obtain ⟨fu, rfl⟩ : ∃ x, fu = x + 1 := ⟨fu - 1, by omega⟩
    obtain rfl : i = N := by omega
    exact ⟨h, hend fu h hJ, hJ, (Fz.refl h).mono (by omega) (by omega)⟩
  | succ k ih =>
    intro i fu h e hf hJ
    obtain ⟨fu, rfl⟩ : ∃ x, fu = x + 1 := ⟨fu - 1, by omega⟩
    obtain ⟨h1, e1, e2, e3⟩ := hstep fu i h (by omega) hJ
    obtain ⟨h2, d1, d2, d3⟩ := ih (i + 1) fu h1 (by omega) (by omega) e2
    refine ⟨h2, e1.trans d1, d2, (e3.trans d3).mono ?_ ?_⟩
    · rw [Nat.succ_mul]; omega
    · rw [Nat.succ_mul]; omega
theorem mPriceAt_d {t q q' : Int} (h : q ≤ q') : mPriceAt t q' ≤ mPriceAt t q := by unfold mPriceAt; omega
theorem mWorth_5 {t q : Int} : mWorth t 5 q ≤ 5 * mPriceAt t q := by
  rw [show mWorth t 5 q = mPriceAt t q + (mPriceAt t (q + 1) + (mPriceAt t (q + 1 + 1) + (mPriceAt t (q + 1 + 1 + 1) + (mPriceAt t (q + 1 + 1 + 1 + 1) + 0)))) from rfl]
  have h1 := mPriceAt_d (t := t) (q := q) (q' := q + 1) (by omega)
  have h2 := mPriceAt_d (t := t) (q := q) (q' := q + 1 + 1) (by omega)
  have h3 := mPriceAt_d (t := t) (q := q) (q' := q + 1 + 1 + 1) (by omega)
  have h4 := mPriceAt_d (t := t) (q := q) (q' := q + 1 + 1 + 1 + 1) (by omega)
  omega
theorem mWorth_nn {t : Int} : ∀ (k : Nat) (q : Int), 0 ≤ mWorth t k q := by
  intro k
  induction k with
  | zero => intro q; exact Int.le_refl _
  | succ k ih =>
    intro q
    have := ih (q + 1)
    have h2 : 0 ≤ mPriceAt t q := by unfold mPriceAt; omega
    rw [show mWorth t (k + 1) q = mPriceAt t q + mWorth t k (q + 1) from rfl]
    omega
section
variable {xA n m p b no : Nat} {O : Nat → Nat → Int} {T C Pb : Int} {h : AH} {g : GM}
theorem law4s_E (hNm : Nm n m p b) (hb : Bo xA n m p b no O h g) (hv : Iv n m p b T C Pb g) {i : Nat} (hi : i < b) (k28 : AH → Nat → Nat → Nat → Int32 → Option (AH × Int32)) (k468 : AH → Nat → Nat → Nat → Int32 → Int32 → Int32 → Int32 → Int32 → Int32 → Int32 → Option (AH × Int32)) (sc sm : Nat) (t a5 a6 a7 a8 : Int32) (A : Int) :
    ∃ h', f_Law_law_b468 k28 k468 h sc 200 sm t a5 a6 a7 a8 (iI A) (iI (i : Int)) = k468 h' sc 200 sm t a5 a6 a7 a8 (iI (A + g (39 + i) 4)) (iI ((i + 1 : Nat) : Int)) ∧ Bo xA n m p b no O h' g ∧ Fz 0 0 h h' := by
  have hN' := hNm
  unfold Nm at hN'
  have hc := hb.1
  have hQ := hc.1
  have hS4 := hv.1
  unfold IvSc at hS4
  obtain ⟨s6, s7, s8, s9, -, -, -, -, v13, v13', -⟩ := hS4
  obtain ⟨F, v, u1, u2, u3, u4, u5, u6⟩ := until_C hNm hc hv hi
  have vB := hv.2.2.2.2.2.1 i hi
  clear hv
  have c5 : f_QuillBoats_count h 200 (iI 5) = some (h, iI (b : Int)) := by
    have := count_E hNm hc s7 s9 5 (by omega)
    rw [show mCnt m b g 5 = g 0 9 from rfl, s9] at this
    exact this
  have c13 : f_QuillBoats_count h 200 (iI 13) = some (h, iI (g 0 13)) := count_E hNm hc s7 s9 13 (by omega)
  have f0 := boat_E0 hNm hc s9 hi
  have f2 := boat_E2 hNm hc s9 hi
  have f3 := boat_E3 hNm hc s9 hi
  have f4 := boat_E4 hNm hc s9 hi
  have f5 := boat_E5 hNm hc s9 hi
  obtain ⟨b1, b2, b3, b4, b5, b6, b7⟩ := vB
  have n1 : ¬ (b : Int) ≤ (i : Int) := by omega
  have hii : ((i + 1 : Nat) : Int) = (i : Int) + 1 := rfl
  refine ⟨sI h F, ?_, ⟨u2, hb.2.fc hNm u3⟩, u3.z⟩
  clear u2 u3 hb hc s6 s7 s8 s9 b3 b4
  generalize g (39 + i) 0 = ho at *
  generalize g (39 + i) 2 = mi at *
  generalize g (39 + i) 3 = wy at *
  generalize g (39 + i) 4 = qu at *
  generalize g (39 + i) 5 = gr at *
  generalize g 0 13 = M at *
  rcases b7 with ⟨rfl, rfl, rfl, rfl⟩ | ⟨rfl, w2, w3, w4, w5⟩ | ⟨rfl, rfl, rfl⟩
  · have v0 : v = 0 := u4.mpr rfl
    subst v0
    have m3 : ¬ M < 0 := by omega
    have m4 : ¬ ho < 0 := by omega
    clear u4
    have p5 := fun (f : AH → Int32 → Option (AH × Int32)) => bn_C (f := f) c5
    have p13 := fun (f : AH → Int32 → Option (AH × Int32)) => bn_C (f := f) c13
    have q0 := fun (f : AH → Int32 → Option (AH × Int32)) => bn_C (f := f) f0
    have q2 := fun (f : AH → Int32 → Option (AH × Int32)) => bn_C (f := f) f2
    have q3 := fun (f : AH → Int32 → Option (AH × Int32)) => bn_C (f := f) f3
    have q4 := fun (f : AH → Int32 → Option (AH × Int32)) => bn_C (f := f) f4
    have q5 := fun (f : AH → Int32 → Option (AH × Int32)) => bn_C (f := f) f5
    have qu := fun (f : AH → Int32 → Option (AH × Int32)) => bn_C (f := f) u1
    clear c5 c13 f0 f2 f3 f4 f5 u1
    simp only [f_Law_law_b468, nI_L, z_i, iI_neg]
    simp (disch := first | decide | omega) only [↓lq_E, ↓reduceIte, ↓p5, ↓p13, ↓q0, ↓q2, ↓q3, ↓q4, ↓q5, ↓qu, hQ.t, gd_T, nI_L, z_i, iI_add, iI_lt, iI_le, iI_eq, iI_ix, Int.toNat_natCast, toNat_L, n1, hii, not_true_eq_false, Int.reduceEq, Int.reduceLE, Int.reduceLT, Int.reduceNeg, not_false_eq_true, m3, m4]
    simp only [f_Law_law_b534, nI_L, z_i, iI_neg]
    simp (disch := first | decide | omega) only [↓lq_E, ↓reduceIte, ↓p5, ↓p13, ↓q0, ↓q2, ↓q3, ↓q4, ↓q5, ↓qu, hQ.t, gd_T, nI_L, z_i, iI_add, iI_lt, iI_le, iI_eq, iI_ix, Int.toNat_natCast, toNat_L, n1, hii, not_true_eq_false, Int.reduceEq, Int.reduceLE, Int.reduceLT, Int.reduceNeg, not_false_eq_true, m3, m4]
    simp only [f_Law_law_b545, nI_L, z_i, iI_neg]
    simp (disch := first | decide | omega) only [↓lq_E, ↓reduceIte, ↓p5, ↓p13, ↓q0, ↓q2, ↓q3, ↓q4, ↓q5, ↓qu, hQ.t, gd_T, nI_L, z_i, iI_add, iI_lt, iI_le, iI_eq, iI_ix, Int.toNat_natCast, toNat_L, n1, hii, not_true_eq_false, Int.reduceEq, Int.reduceLE, Int.reduceLT, Int.reduceNeg, not_false_eq_true, m3, m4]
    simp only [f_Law_law_b560, nI_L, z_i, iI_neg]
    simp (disch := first | decide | omega) only [↓lq_E, ↓reduceIte, ↓p5, ↓p13, ↓q0, ↓q2, ↓q3, ↓q4, ↓q5, ↓qu, hQ.t, gd_T, nI_L, z_i, iI_add, iI_lt, iI_le, iI_eq, iI_ix, Int.toNat_natCast, toNat_L, n1, hii, not_true_eq_false, Int.reduceEq, Int.reduceLE, Int.reduceLT, Int.reduceNeg, not_false_eq_true, m3, m4]
    simp only [f_Law_law_b595, nI_L, z_i, iI_neg]
    simp (disch := first | decide | omega) only [↓lq_E, ↓reduceIte, ↓p5, ↓p13, ↓q0, ↓q2, ↓q3, ↓q4, ↓q5, ↓qu, hQ.t, gd_T, nI_L, z_i, iI_add, iI_lt, iI_le, iI_eq, iI_ix, Int.toNat_natCast, toNat_L, n1, hii, not_true_eq_false, Int.reduceEq, Int.reduceLE, Int.reduceLT, Int.reduceNeg, not_false_eq_true, m3, m4]
    simp only [f_Law_law_b610, nI_L, z_i, iI_neg]
    simp (disch := first | decide | omega) only [↓lq_E, ↓reduceIte, ↓p5, ↓p13, ↓q0, ↓q2, ↓q3, ↓q4, ↓q5, ↓qu, hQ.t, gd_T, nI_L, z_i, iI_add, iI_lt, iI_le, iI_eq, iI_ix, Int.toNat_natCast, toNat_L, n1, hii, not_true_eq_false, Int.reduceEq, Int.reduceLE, Int.reduceLT, Int.reduceNeg, not_false_eq_true, m3, m4]
    simp only [f_Law_law_b623, nI_L, z_i, iI_neg]
    simp (disch := first | decide | omega) only [↓lq_E, ↓reduceIte, ↓p5, ↓p13, ↓q0, ↓q2, ↓q3, ↓q4, ↓q5, ↓qu, hQ.t, gd_T, nI_L, z_i, iI_add, iI_lt, iI_le, iI_eq, iI_ix, Int.toNat_natCast, toNat_L, n1, hii, not_true_eq_false, Int.reduceEq, Int.reduceLE, Int.reduceLT, Int.reduceNeg, not_false_eq_true, m3, m4]
    simp only [f_Law_law_b637, nI_L, z_i, iI_neg]
    simp (disch := first | decide | omega) only [↓lq_E, ↓reduceIte, ↓p5, ↓p13, ↓q0, ↓q2, ↓q3, ↓q4, ↓q5, ↓qu, hQ.t, gd_T, nI_L, z_i, iI_add, iI_lt, iI_le, iI_eq, iI_ix, Int.toNat_natCast, toNat_L, n1, hii, not_true_eq_false, Int.reduceEq, Int.reduceLE, Int.reduceLT, Int.reduceNeg, not_false_eq_true, m3, m4]
  · have v0 : ¬ v = 0 := fun y => by have := u4.mp y; omega
    have m0 : ¬ mi < 0 := by omega
    have m1 : ¬ qu ≤ 0 := by omega
    have m2 : ¬ qu = 0 := by omega
    have m3 : ¬ ho < qu := by omega
    have m4 : 0 ≤ gr := w4
    have m5 : ¬ M < mi := by omega
    clear u4
    have p5 := fun (f : AH → Int32 → Option (AH × Int32)) => bn_C (f := f) c5
    have p13 := fun (f : AH → Int32 → Option (AH × Int32)) => bn_C (f := f) c13
    have q0 := fun (f : AH → Int32 → Option (AH × Int32)) => bn_C (f := f) f0
    have q2 := fun (f : AH → Int32 → Option (AH × Int32)) => bn_C (f := f) f2
    have q3 := fun (f : AH → Int32 → Option (AH × Int32)) => bn_C (f := f) f3
    have q4 := fun (f : AH → Int32 → Option (AH × Int32)) => bn_C (f := f) f4
    have q5 := fun (f : AH → Int32 → Option (AH × Int32)) => bn_C (f := f) f5
    have qu := fun (f : AH → Int32 → Option (AH × Int32)) => bn_C (f := f) u1
    clear c5 c13 f0 f2 f3 f4 f5 u1
    simp only [f_Law_law_b468, nI_L, z_i, iI_neg]
    simp (disch := first | decide | omega) only [↓lq_E, ↓reduceIte, ↓p5, ↓p13, ↓q0, ↓q2, ↓q3, ↓q4, ↓q5, ↓qu, hQ.t, gd_T, nI_L, z_i, iI_add, iI_lt, iI_le, iI_eq, iI_ix, Int.toNat_natCast, toNat_L, n1, hii, not_true_eq_false, Int.reduceEq, Int.reduceLE, Int.reduceLT, Int.reduceNeg, not_false_eq_true, m0, m1, m2, m3, m4, m5, v0]
    simp only [f_Law_law_b534, nI_L, z_i, iI_neg]
    simp (disch := first | decide | omega) only [↓lq_E, ↓reduceIte, ↓p5, ↓p13, ↓q0, ↓q2, ↓q3, ↓q4, ↓q5, ↓qu, hQ.t, gd_T, nI_L, z_i, iI_add, iI_lt, iI_le, iI_eq, iI_ix, Int.toNat_natCast, toNat_L, n1, hii, not_true_eq_false, Int.reduceEq, Int.reduceLE, Int.reduceLT, Int.reduceNeg, not_false_eq_true, m0, m1, m2, m3, m4, m5, v0]
    simp only [f_Law_law_b545, nI_L, z_i, iI_neg]
    simp (disch := first | decide | omega) only [↓lq_E, ↓reduceIte, ↓p5, ↓p13, ↓q0, ↓q2, ↓q3, ↓q4, ↓q5, ↓qu, hQ.t, gd_T, nI_L, z_i, iI_add, iI_lt, iI_le, iI_eq, iI_ix, Int.toNat_natCast, toNat_L, n1, hii, not_true_eq_false, Int.reduceEq, Int.reduceLE, Int.reduceLT, Int.reduceNeg, not_false_eq_true, m0, m1, m2, m3, m4, m5, v0]
    simp only [f_Law_law_b560, nI_L, z_i, iI_neg]
    simp (disch := first | decide | omega) only [↓lq_E, ↓reduceIte, ↓p5, ↓p13, ↓q0, ↓q2, ↓q3, ↓q4, ↓q5, ↓qu, hQ.t, gd_T, nI_L, z_i, iI_add, iI_lt, iI_le, iI_eq, iI_ix, Int.toNat_natCast, toNat_L, n1, hii, not_true_eq_false, Int.reduceEq, Int.reduceLE, Int.reduceLT, Int.reduceNeg, not_false_eq_true, m0, m1, m2, m3, m4, m5, v0]
    simp only [f_Law_law_b595, nI_L, z_i, iI_neg]
    simp (disch := first | decide | omega) only [↓lq_E, ↓reduceIte, ↓p5, ↓p13, ↓q0, ↓q2, ↓q3, ↓q4, ↓q5, ↓qu, hQ.t, gd_T, nI_L, z_i, iI_add, iI_lt, iI_le, iI_eq, iI_ix, Int.toNat_natCast, toNat_L, n1, hii, not_true_eq_false, Int.reduceEq, Int.reduceLE, Int.reduceLT, Int.reduceNeg, not_false_eq_true, m0, m1, m2, m3, m4, m5, v0]
    simp only [f_Law_law_b610, nI_L, z_i, iI_neg]
    simp (disch := first | decide | omega) only [↓lq_E, ↓reduceIte, ↓p5, ↓p13, ↓q0, ↓q2, ↓q3, ↓q4, ↓q5, ↓qu, hQ.t, gd_T, nI_L, z_i, iI_add, iI_lt, iI_le, iI_eq, iI_ix, Int.toNat_natCast, toNat_L, n1, hii, not_true_eq_false, Int.reduceEq, Int.reduceLE, Int.reduceLT, Int.reduceNeg, not_false_eq_true, m0, m1, m2, m3, m4, m5, v0]
    simp only [f_Law_law_b623, nI_L, z_i, iI_neg]
    simp (disch := first | decide | omega) only [↓lq_E, ↓reduceIte, ↓p5, ↓p13, ↓q0, ↓q2, ↓q3, ↓q4, ↓q5, ↓qu, hQ.t, gd_T, nI_L, z_i, iI_add, iI_lt, iI_le, iI_eq, iI_ix, Int.toNat_natCast, toNat_L, n1, hii, not_true_eq_false, Int.reduceEq, Int.reduceLE, Int.reduceLT, Int.reduceNeg, not_false_eq_true, m0, m1, m2, m3, m4, m5, v0]
    simp only [f_Law_law_b637, nI_L, z_i, iI_neg]
    simp (disch := first | decide | omega) only [↓lq_E, ↓reduceIte, ↓p5, ↓p13, ↓q0, ↓q2, ↓q3, ↓q4, ↓q5, ↓qu, hQ.t, gd_T, nI_L, z_i, iI_add, iI_lt, iI_le, iI_eq, iI_ix, Int.toNat_natCast, toNat_L, n1, hii, not_true_eq_false, Int.reduceEq, Int.reduceLE, Int.reduceLT, Int.reduceNeg, not_false_eq_true, m0, m1, m2, m3, m4, m5, v0]
  · have v0 : ¬ v = 0 := fun y => by have := u4.mp y; omega
    have m0 : ¬ mi < 0 := by omega
    have m4 : ¬ ho < 0 := by omega
    have m5 : ¬ M < mi := by omega
    clear u4
    have p5 := fun (f : AH → Int32 → Option (AH × Int32)) => bn_C (f := f) c5
    have p13 := fun (f : AH → Int32 → Option (AH × Int32)) => bn_C (f := f) c13
    have q0 := fun (f : AH → Int32 → Option (AH × Int32)) => bn_C (f := f) f0
    have q2 := fun (f : AH → Int32 → Option (AH × Int32)) => bn_C (f := f) f2
    have q3 := fun (f : AH → Int32 → Option (AH × Int32)) => bn_C (f := f) f3
    have q4 := fun (f : AH → Int32 → Option (AH × Int32)) => bn_C (f := f) f4
    have q5 := fun (f : AH → Int32 → Option (AH × Int32)) => bn_C (f := f) f5
    have qu := fun (f : AH → Int32 → Option (AH × Int32)) => bn_C (f := f) u1
    clear c5 c13 f0 f2 f3 f4 f5 u1
    simp only [f_Law_law_b468, nI_L, z_i, iI_neg]
    simp (disch := first | decide | omega) only [↓lq_E, ↓reduceIte, ↓p5, ↓p13, ↓q0, ↓q2, ↓q3, ↓q4, ↓q5, ↓qu, hQ.t, gd_T, nI_L, z_i, iI_add, iI_lt, iI_le, iI_eq, iI_ix, Int.toNat_natCast, toNat_L, n1, hii, not_true_eq_false, Int.reduceEq, Int.reduceLE, Int.reduceLT, Int.reduceNeg, not_false_eq_true, m0, m4, m5, v0]
    simp only [f_Law_law_b534, nI_L, z_i, iI_neg]
    simp (disch := first | decide | omega) only [↓lq_E, ↓reduceIte, ↓p5, ↓p13, ↓q0, ↓q2, ↓q3, ↓q4, ↓q5, ↓qu, hQ.t, gd_T, nI_L, z_i, iI_add, iI_lt, iI_le, iI_eq, iI_ix, Int.toNat_natCast, toNat_L, n1, hii, not_true_eq_false, Int.reduceEq, Int.reduceLE, Int.reduceLT, Int.reduceNeg, not_false_eq_true, m0, m4, m5, v0]
    simp only [f_Law_law_b545, nI_L, z_i, iI_neg]
    simp (disch := first | decide | omega) only [↓lq_E, ↓reduceIte, ↓p5, ↓p13, ↓q0, ↓q2, ↓q3, ↓q4, ↓q5, ↓qu, hQ.t, gd_T, nI_L, z_i, iI_add, iI_lt, iI_le, iI_eq, iI_ix, Int.toNat_natCast, toNat_L, n1, hii, not_true_eq_false, Int.reduceEq, Int.reduceLE, Int.reduceLT, Int.reduceNeg, not_false_eq_true, m0, m4, m5, v0]
    simp only [f_Law_law_b560, nI_L, z_i, iI_neg]
    simp (disch := first | decide | omega) only [↓lq_E, ↓reduceIte, ↓p5, ↓p13, ↓q0, ↓q2, ↓q3, ↓q4, ↓q5, ↓qu, hQ.t, gd_T, nI_L, z_i, iI_add, iI_lt, iI_le, iI_eq, iI_ix, Int.toNat_natCast, toNat_L, n1, hii, not_true_eq_false, Int.reduceEq, Int.reduceLE, Int.reduceLT, Int.reduceNeg, not_false_eq_true, m0, m4, m5, v0]
    simp only [f_Law_law_b595, nI_L, z_i, iI_neg]
    simp (disch := first | decide | omega) only [↓lq_E, ↓reduceIte, ↓p5, ↓p13, ↓q0, ↓q2, ↓q3, ↓q4, ↓q5, ↓qu, hQ.t, gd_T, nI_L, z_i, iI_add, iI_lt, iI_le, iI_eq, iI_ix, Int.toNat_natCast, toNat_L, n1, hii, not_true_eq_false, Int.reduceEq, Int.reduceLE, Int.reduceLT, Int.reduceNeg, not_false_eq_true, m0, m4, m5, v0]
    simp only [f_Law_law_b610, nI_L, z_i, iI_neg]
    simp (disch := first | decide | omega) only [↓lq_E, ↓reduceIte, ↓p5, ↓p13, ↓q0, ↓q2, ↓q3, ↓q4, ↓q5, ↓qu, hQ.t, gd_T, nI_L, z_i, iI_add, iI_lt, iI_le, iI_eq, iI_ix, Int.toNat_natCast, toNat_L, n1, hii, not_true_eq_false, Int.reduceEq, Int.reduceLE, Int.reduceLT, Int.reduceNeg, not_false_eq_true, m0, m4, m5, v0]
    simp only [f_Law_law_b623, nI_L, z_i, iI_neg]
    simp (disch := first | decide | omega) only [↓lq_E, ↓reduceIte, ↓p5, ↓p13, ↓q0, ↓q2, ↓q3, ↓q4, ↓q5, ↓qu, hQ.t, gd_T, nI_L, z_i, iI_add, iI_lt, iI_le, iI_eq, iI_ix, Int.toNat_natCast, toNat_L, n1, hii, not_true_eq_false, Int.reduceEq, Int.reduceLE, Int.reduceLT, Int.reduceNeg, not_false_eq_true, m0, m4, m5, v0]
    simp only [f_Law_law_b637, nI_L, z_i, iI_neg]
    simp (disch := first | decide | omega) only [↓lq_E, ↓reduceIte, ↓p5, ↓p13, ↓q0, ↓q2, ↓q3, ↓q4, ↓q5, ↓qu, hQ.t, gd_T, nI_L, z_i, iI_add, iI_lt, iI_le, iI_eq, iI_ix, Int.toNat_natCast, toNat_L, n1, hii, not_true_eq_false, Int.reduceEq, Int.reduceLE, Int.reduceLT, Int.reduceNeg, not_false_eq_true, m0, m4, m5, v0]
theorem law4_E (hNm : Nm n m p b) (hb : Bo xA n m p b no O h g) (hv : Iv n m p b T C Pb g) (k28 : AH → Nat → Nat → Nat → Int32 → Option (AH × Int32)) (sc sm : Nat) (t a5 a6 a7 a8 : Int32) :
    ∃ h', f_Law_law_l468 k28 FU h sc 200 sm t a5 a6 a7 a8 (iI 0) (iI 0) = f_Law_law_l651 k28 FU h' sc 200 sm t a5 a6 a7 a8 (iI (sumF (fun i => g (39 + i) 4) b)) (iI 0) ∧ Bo xA n m p b no O h' g ∧ Fz 0 0 h h' := by
  have hN' := hNm
  unfold Nm at hN'
  have hS4 := hv.1
  unfold IvSc at hS4
  obtain ⟨s6, s7, s8, s9, -⟩ := hS4
  obtain ⟨h', e1, e2, e3⟩ := loopZ (fun fu h i => f_Law_law_l468 k28 fu h sc 200 sm t a5 a6 a7 a8 (iI (sumF (fun i => g (39 + i) 4) i)) (iI (i : Int))) (fun h => f_Law_law_l651 k28 FU h sc 200 sm t a5 a6 a7 a8 (iI (sumF (fun i => g (39 + i) 4) b)) (iI 0)) b 0 0 (fun h => Bo xA n m p b no O h g) (by
    intro fu i h hi hb
    exact law4s_E hNm hb hv hi k28 (f_Law_law_l468 k28 fu) sc sm t a5 a6 a7 a8 _) (by
    intro fu h hb
    have c5 : f_QuillBoats_count h 200 (iI 5) = some (h, iI (b : Int)) := by
      have := count_E hNm hb.1 s7 s9 5 (by omega)
      rw [show mCnt m b g 5 = g 0 9 from rfl, s9] at this
      exact this
    have p5 := fun (f : AH → Int32 → Option (AH × Int32)) => bn_C (f := f) c5
    have hQ := hb.1.1
    have n1 : (b : Int) ≤ (b : Int) := Int.le_refl _
    clear hv c5
    show f_Law_law_b468 k28 (f_Law_law_l468 k28 fu) h sc 200 sm t a5 a6 a7 a8 (iI (sumF (fun i => g (39 + i) 4) b)) (iI (b : Int)) = _
    simp only [f_Law_law_b468, nI_L, z_i, iI_neg]
    simp (disch := first | decide | omega) only [↓lq_E, ↓reduceIte, ↓p5, hQ.t, gd_T, iI_lt, iI_le, iI_eq, iI_ix, Int.toNat_natCast, toNat_L, n1]) b 0 FU h (by omega) (by unfold FU; omega) hb
  exact ⟨h', e1, e2, e3.mono (by omega) (by omega)⟩
theorem law5_E (hNm : Nm n m p b) (hc : Cl n m p b O no h g) (hv : Iv n m p b T C Pb g) (hPb : Pb ≤ 800000) (k28 : AH → Nat → Nat → Nat → Int32 → Option (AH × Int32)) (sc sm : Nat) (t a5 a8 a9 : Int32) :
    f_Law_law_l651 k28 FU h sc 200 sm t a5 (iI 0) (iI 0) a8 a9 (iI 0) = f_Law_law_b651 k28 (fun _ _ _ _ _ _ _ _ _ _ _ => none) h sc 200 sm t a5 (iI (sumF (fun k => g (43 + k) 3) 4)) (iI (sumF (fun k => g (43 + k) 0) 4)) a8 a9 (iI 4) := by
  have hQ := hc.1
  have vQ := hv.2.2.2.2.2.2.1
  have vq := IvQ.le hv
  clear hv
  obtain ⟨h', e1, e2, -⟩ := loopB (fun fu h i => f_Law_law_l651 k28 fu h sc 200 sm t a5 (iI (sumF (fun k => g (43 + k) 3) i)) (iI (sumF (fun k => g (43 + k) 0) i)) a8 a9 (iI (i : Int))) (fun h => f_Law_law_b651 k28 (fun _ _ _ _ _ _ _ _ _ _ _ => none) h sc 200 sm t a5 (iI (sumF (fun k => g (43 + k) 3) 4)) (iI (sumF (fun k => g (43 + k) 0) 4)) a8 a9 (iI 4)) 4 0 0 (fun x => x = h) (by
    intro fu i h' hi he
    subst he
    have r := vQ i hi
    have r' := vq i hi
    have f0 := grade_E0 hNm hc hi (by omega) (by omega) (by omega) (by omega)
    have f1 := grade_E1 hNm hc hi (by omega) (by omega) (by omega) (by omega)
    have f2 := grade_E2 hNm hc hi (by omega) (by omega) (by omega) (by omega)
    have f3 := grade_E3 hNm hc hi (by omega) (by omega) (by omega) (by omega)
    have f4 := grade_E4 hNm hc hi (by omega) (by omega) (by omega) (by omega)
    have w1 := worth_E hc hi (by omega) (by omega) (by omega) (by omega) (q := 1) (by omega) (by omega)
    have w5 := worth_E hc hi (by omega) (by omega) (by omega) (by omega) (q := 5) (by omega) (by omega)
    have e1 : mWorth (g (43 + i) 1) (1 : Int).toNat (g (43 + i) 2) = mPrice g i := by
      show mPriceAt (g (43 + i) 1) (g (43 + i) 2) + 0 = _
      rw [Int.add_zero]
      rfl
    have e5 : mWorth (g (43 + i) 1) (5 : Int).toNat (g (43 + i) 2) ≤ 5 * mPrice g i := mWorth_5
    have e50 := mWorth_nn (t := g (43 + i) 1) (5 : Int).toNat (g (43 + i) 2)
    rw [e1] at w1
    generalize mWorth (g (43 + i) 1) (5 : Int).toNat (g (43 + i) 2) = wv at *
    have ep : mPrice g i = max 0 (g (43 + i) 1 - g (43 + i) 2 / 4) := rfl
    have pb : 0 ≤ mPrice g i ∧ mPrice g i ≤ 50 := mPriceAt_b r.2.1 r.2.2.1 r.2.2.2.1
    have mx : f_Math_max h' (iI 0) (iI (g (43 + i) 1 - g (43 + i) 2 / 4)) = some (h', iI (mPrice g i)) := by
      rw [max_E (by omega) (by omega) (by omega) (by omega), ← ep]
    generalize mPrice g i = pr at *
    have q0 := fun (f : AH → Int32 → Option (AH × Int32)) => bn_C (f := f) f0
    have q1 := fun (f : AH → Int32 → Option (AH × Int32)) => bn_C (f := f) f1
    have q2 := fun (f : AH → Int32 → Option (AH × Int32)) => bn_C (f := f) f2
    have q3 := fun (f : AH → Int32 → Option (AH × Int32)) => bn_C (f := f) f3
    have q4 := fun (f : AH → Int32 → Option (AH × Int32)) => bn_C (f := f) f4
    have p1 := fun (f : AH → Int32 → Option (AH × Int32)) => bn_C (f := f) w1
    have p5 := fun (f : AH → Int32 → Option (AH × Int32)) => bn_C (f := f) w5
    have hii : ((i + 1 : Nat) : Int) = (i : Int) + 1 := rfl
    have n1 : ¬ 4 ≤ (i : Int) := by omega
    have n2 : ¬ g (43 + i) 2 < 0 := by omega
    have bg : 0 ≤ g (43 + i) 2 ∧ g (43 + i) 2 ≤ 800000 := by omega
    refine ⟨h', ?_, rfl, Gx.refl _⟩
    show f_Law_law_b651 k28 (f_Law_law_l651 k28 fu) h' sc 200 sm t a5 (iI (sumF (fun k => g (43 + k) 3) i)) (iI (sumF (fun k => g (43 + k) 0) i)) a8 a9 (iI (i : Int)) = f_Law_law_l651 k28 fu h' sc 200 sm t a5 (iI (sumF (fun k => g (43 + k) 3) i + g (43 + i) 3)) (iI (sumF (fun k => g (43 + k) 0) i + g (43 + i) 0)) a8 a9 (iI ((i + 1 : Nat) : Int))
    generalize sumF (fun k => g (43 + k) 3) i = S3
    generalize sumF (fun k => g (43 + k) 0) i = S0
    clear f0 f1 f2 f3 f4 w1 w5 e1 r r' ep vQ vq
    simp only [f_Law_law_b651, nI_L, z_i, iI_neg]
    simp (disch := first | decide | omega) only [↓lq_E, ↓reduceIte, ↓q0, ↓q1, ↓q2, ↓q3, ↓q4, ↓p1, ↓p5, hQ.t, gd_T, nI_L, iI_add, iI_sub, iI_mul, iI_div, mx, bn_S, iI_lt, iI_le, iI_eq, iI_ix, Int.toNat_natCast, toNat_L, n1, n2, e5, hii, not_true_eq_false]) (by
    intro fu h' he
    subst he
    show f_Law_law_b651 k28 (f_Law_law_l651 k28 fu) h' sc 200 sm t a5 (iI (sumF (fun k => g (43 + k) 3) 4)) (iI (sumF (fun k => g (43 + k) 0) 4)) a8 a9 (iI 4) = _
    unfold f_Law_law_b651
    have c1 : nI 4 ≤ iI 4 := by rw [nI_L, iI_le (by omega) (by omega) (by omega) (by omega)]; omega
    simp only [if_pos c1]) 4 0 FU h (by omega) (by unfold FU; omega) rfl
  subst e2
  exact e1
end

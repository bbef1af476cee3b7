/-! 88 L3: the law's thirty times -/
def Scr (sc : Nat) (h : AH) : Prop := hT h sc = 112 ∧ hL h sc ≤ 100000
theorem Scr.z {sc c d : Nat} {h h' : AH} (k : Scr sc h) (hs : sc < 200) (e : Fz c d h h') : Scr sc h' := by
  obtain ⟨a1, a2, -, -⟩ := e.2.2.2 sc hs
  exact ⟨a1.trans k.1, by rw [a2]; exact k.2⟩
theorem cell_E {sc : Nat} {h : AH} (k : Scr sc h) {i : Nat} (hi : i < 1000000) : ∃ v, f_Law_cell h sc (iI (i : Int)) = some (h, v) := by
  obtain ⟨k1, k2⟩ := k
  by_cases c : hL h sc ≤ i
  · refine ⟨nI 790386105 * (iI (i : Int) + nI 3), ?_⟩
    have c1 : nI (hL h sc) ≤ iI (i : Int) := by rw [nI_i, iI_le (by omega) (by omega) (by omega) (by omega)]; omega
    unfold f_Law_cell
    rw [gd_P k1, if_pos c1]
  · refine ⟨hI h sc i, ?_⟩
    have c1 : ¬ nI (hL h sc) ≤ iI (i : Int) := by rw [nI_i, iI_le (by omega) (by omega) (by omega) (by omega)]; omega
    have ie : ix (iI (i : Int)) = i := iI_ixn (by omega)
    have c2 : ¬ iI (i : Int) < 0 := by rw [z_i, iI_lt (by omega) (by omega) (by omega) (by omega)]; omega
    unfold f_Law_cell
    rw [gd_P k1, if_neg c1, gd_P ⟨k1, c2, by show ix (iI (i : Int)) < hL h sc; rw [ie]; omega⟩, ie]
section
variable {xA n m p b no : Nat} {O : Nat → Nat → Int} {T C Pb : Int} {h : AH} {g : GM}
-- two things by hand
theorem law0_E (hNm : Nm n m p b) (hW : ∀ i, i < no → Wk n m p b (O i)) (hno : no ≤ 100) (hb : Bo xA n m p b no O h g) (hv : Iv n m p b T C Pb g) (hC9 : 99999 ≤ C) (hC : C ≤ 900000) (hT0 : 0 ≤ T) (hTm : T + 18 ≤ 9000) (hPb : Pb + 648 ≤ 800000) (h10 : g 0 10 = (no : Int)) (k28 : AH → Nat → Nat → Nat → Int32 → Option (AH × Int32)) (sc : Nat) (t x : Int32) :
    ∃ h' g', f_Law_law_l60 k28 FU h sc 200 320 t x (iI 0) = f_Law_law_l152 k28 FU h' sc 200 320 t (iI 0) (iI 0) (iI 0) (iI 0) (iI 0) (iI 0) ∧ Bo xA n m p b no O h' g' ∧ Iv n m p b (T + 18) C (Pb + 648) g' ∧ Fz 198 7920 h h' ∧ g' 0 10 = (no : Int) := by
  obtain ⟨h1, e1, ⟨g1, f1, f2, f3⟩, e3⟩ := loopJ (fun fu h i => f_Law_law_l60 k28 fu h sc 200 320 t x (iI (i : Int))) (fun h => f_Law_law_b60 k28 (fun _ _ _ _ _ _ _ => none) h sc 200 320 t x (iI 2)) 0 2 99 3960 (fun i h => ∃ g, Bo xA n m p b no O h g ∧ Iv n m p b (T + 9 * (i : Int)) C (Pb + 324 * (i : Int)) g ∧ g 0 10 = (no : Int)) (by
    intro fu i h lo hi ⟨g, hb, hv, h10⟩
    obtain ⟨h', g', a1, a2, a3, a4, a5⟩ := act_E hNm hW hno hb hv hC9 hC (by omega) (by omega) (by omega) h10 ((x >>> (((nI 2) * iI (i : Int)) &&& 31)) + ((nI 307) * iI (i : Int)))
    have hii : ((i + 1 : Nat) : Int) = (i : Int) + 1 := rfl
    refine ⟨h', ?_, ⟨g', a2, a3.mono (by omega) (Int.le_refl _) (by omega), a5⟩, a4⟩
    show f_Law_law_b60 k28 (f_Law_law_l60 k28 fu) h sc 200 320 t x (iI (i : Int)) = _
    unfold f_Law_law_b60
    have c1 : ¬ nI 2 ≤ iI (i : Int) := by rw [nI_L, iI_le (by omega) (by omega) (by omega) (by omega)]; omega
    have c2 : ¬ iI 1 = 0 := by rw [z_i, iI_eq (by omega) (by omega) (by omega) (by omega)]; omega
    rw [if_neg c1, bn_C a1, if_pos c2, lq_E, nI_L, iI_add, hii]) (by
    intro fu h hJ
    show f_Law_law_b60 k28 (f_Law_law_l60 k28 fu) h sc 200 320 t x (iI 2) = _
    unfold f_Law_law_b60
    have c1 : nI 2 ≤ iI 2 := by rw [nI_L, iI_le (by omega) (by omega) (by omega) (by omega)]; omega
    simp only [if_pos c1]) 2 0 FU h (by omega) (by omega) (by unfold FU; omega) ⟨g, hb, hv.mono (by omega) (Int.le_refl _) (by omega), h10⟩
  refine ⟨h1, g1, ?_, f1, f2.mono (by omega) (Int.le_refl _) (by omega), e3.mono (by omega) (by omega), f3⟩
  refine e1.trans ?_
  have hc := f1.1
  have hQ := hc.1
  have hS4 := f2.1
  unfold IvSc at hS4
  obtain ⟨s6, s7, s8, s9, -⟩ := hS4
  obtain ⟨E1, E2, E3⟩ := f2.2.2.2.2.2.2.2
  have c10 : f_QuillBoats_count h1 200 (iI 10) = some (h1, iI (g1 0 15)) := count_E hNm hc s7 s9 10 (by omega)
  have c11 : f_QuillBoats_count h1 200 (iI 11) = some (h1, iI (g1 0 16)) := count_E hNm hc s7 s9 11 (by omega)
  have c7 : f_QuillBoats_count h1 200 (iI 7) = some (h1, iI (sumF (fun k => g1 (43 + k) 0) 4)) := count_E hNm hc s7 s9 7 (by omega)
  have c8 : f_QuillBoats_count h1 200 (iI 8) = some (h1, iI (sumF (fun k => g1 (11 + 5 * k) 1) m)) := count_E hNm hc s7 s9 8 (by omega)
  have c9 : f_QuillBoats_count h1 200 (iI 9) = some (h1, iI (sumF (fun i => g1 (39 + i) 4) b)) := count_E hNm hc s7 s9 9 (by omega)
  rw [E1] at c10
  generalize sumF (fun k => g1 (43 + k) 0) 4 = A at *
  generalize sumF (fun k => g1 (11 + 5 * k) 1) m = B at *
  generalize sumF (fun i => g1 (39 + i) 4) b = D at *
  have p7 := fun (f : AH → Int32 → Option (AH × Int32)) => bn_C (f := f) c7
  have p8 := fun (f : AH → Int32 → Option (AH × Int32)) => bn_C (f := f) c8
  have p9 := fun (f : AH → Int32 → Option (AH × Int32)) => bn_C (f := f) c9
  have p10 := fun (f : AH → Int32 → Option (AH × Int32)) => bn_C (f := f) c10
  have p11 := fun (f : AH → Int32 → Option (AH × Int32)) => bn_C (f := f) c11
  have n1 : (2 : Int) ≤ 2 := Int.le_refl _
  clear c7 c8 c9 c10 c11 E1 E2 E3 f1 f2 f3 e3 e1 hc hv hb
  simp only [f_Law_law_b60, nI_L, z_i, iI_neg]
  simp (disch := first | decide | omega) only [↓lq_E, ↓reduceIte, ↓p7, ↓p8, ↓p9, ↓p10, ↓p11, hQ.t, gd_T, iI_add, iI_lt, iI_le, iI_eq, iI_ix, Int.toNat_natCast, toNat_L, n1]
-- one time
theorem law8_E (hNm : Nm n m p b) (hW : ∀ i, i < no → Wk n m p b (O i)) (hno : no ≤ 100) (hb : Bo xA n m p b no O h g) (hv : Iv n m p b T C Pb g) (hC9 : 99999 ≤ C) (hC : C ≤ 900000) (hT0 : 0 ≤ T) (hTm : T + 19 ≤ 9000) (hPb : Pb + 684 ≤ 800000) (h10 : g 0 10 = (no : Int)) (k28 : AH → Nat → Nat → Nat → Int32 → Option (AH × Int32)) {sc : Nat} (hsc : Scr sc h) {t : Nat} (ht : t < 30) :
    ∃ h' g' y, f_Law_law_b28 k28 h sc 200 320 (iI (t : Int)) = k28 h' sc 200 320 (iI ((t + 1 : Nat) : Int)) ∧ Bo y n m p b no O h' g' ∧ Iv n m p b (T + 19) C (Pb + 684) g' ∧ Fz 210 8373 h h' ∧ g' 0 10 = (no : Int) := by
  obtain ⟨v, ev⟩ := cell_E hsc (i := t % 16) (by omega)
  obtain ⟨h1, g1, a1, a2, a3, a4, a5⟩ := law0_E hNm hW hno hb hv hC9 hC hT0 (by omega) (by omega) h10 k28 sc (iI (t : Int)) ((v >>> (((iI (t : Int) / (nI 16)) * (nI 3)) &&& 31)) + ((nI 419) * iI (t : Int)))
  have b1 := law1_E hNm a2.1 a3 k28 sc 320 (iI (t : Int))
  have b2 := law2_E hNm a2.1 a3 (by omega) k28 sc 320 (iI (t : Int))
  have b3 := law3_E hNm a2.1 a3 k28 sc 320 (iI (t : Int)) (sumF (fun k => g1 (11 + 5 * k) 1) m)
  obtain ⟨h2, c1, c2, c3⟩ := law4_E hNm a2 a3 k28 sc 320 (iI (t : Int)) (iI (sumF (fun i => g1 (31 + i) 4) p)) (iI 0) (iI 0) (iI (sumF (fun k => g1 (11 + 5 * k) 1) m))
  have b5 := law5_E hNm c2.1 a3 (by omega) k28 sc 320 (iI (t : Int)) (iI (sumF (fun i => g1 (31 + i) 4) p)) (iI (sumF (fun k => g1 (11 + 5 * k) 1) m)) (iI (sumF (fun i => g1 (39 + i) 4) b))
  obtain ⟨h3, y, d1, d2, d3, d4⟩ := law6_E hNm hW hno c2 a3 hC9 hC (by omega) (by omega) (by omega) k28 sc (t : Int)
  refine ⟨h3, _, y, ?_, d2, d3.mono (by omega) (Int.le_refl _) (by omega), ((a4.trans c3).trans d4).mono (by omega) (by omega), ?_⟩
  · refine Eq.trans ?_ (a1.trans (b1.trans (b2.trans (b3.trans (c1.trans (b5.trans d1))))))
    unfold f_Law_law_b28
    have n1 : ¬ nI 30 ≤ iI (t : Int) := by rw [nI_L, iI_le (by omega) (by omega) (by omega) (by omega)]; omega
    have e16 : iI (t : Int) - iI (t : Int) / nI 16 * nI 16 = iI ((t % 16 : Nat) : Int) := by
      rw [nI_L, iI_div (by omega) (by omega) (by omega) (by omega), iI_mul, iI_sub, emod_L]
      rfl
    rw [if_neg n1, e16, bn_C ev, lq_E]
    rfl
  · rw [mHour_10 hNm]; exact a5
theorem law9_E (hNm : Nm n m p b) (hW : ∀ i, i < no → Wk n m p b (O i)) (hno : no ≤ 100) (hb : Bo xA n m p b no O h g) (hv : Iv n m p b 0 99999 0 g) (h10 : g 0 10 = (no : Int)) {sc : Nat} (hsc : Scr sc h) (hs2 : sc < 200) :
    ∃ h', f_Law_law_l28 FU h sc 200 320 (iI 0) = some (h', iI 1) ∧ Fz 6326 251499 h h' := by
  obtain ⟨h1, e1, ⟨g1, y, f1, f2, f3, f4⟩, e3⟩ := loopJ (fun fu h i => f_Law_law_l28 fu h sc 200 320 (iI (i : Int))) (fun h => f_Law_law_b28 (fun _ _ _ _ _ => none) h sc 200 320 (iI 30)) 0 30 210 8373 (fun i h => ∃ g y, Bo y n m p b no O h g ∧ Iv n m p b (19 * (i : Int)) 99999 (684 * (i : Int)) g ∧ g 0 10 = (no : Int) ∧ Scr sc h) (by
    intro fu i h lo hi ⟨g, y, hb, hv, h10, hsc⟩
    obtain ⟨h', g', y', a1, a2, a3, a4, a5⟩ := law8_E hNm hW hno hb hv (by omega) (by omega) (by omega) (by omega) (by omega) h10 (f_Law_law_l28 fu) hsc hi
    exact ⟨h', a1, ⟨g', y', a2, a3.mono (by omega) (Int.le_refl _) (by omega), a5, hsc.z hs2 a4⟩, a4⟩) (by
    intro fu h hJ
    show f_Law_law_b28 (f_Law_law_l28 fu) h sc 200 320 (iI 30) = _
    unfold f_Law_law_b28
    have c1 : nI 30 ≤ iI 30 := by rw [nI_L, iI_le (by omega) (by omega) (by omega) (by omega)]; omega
    simp only [if_pos c1]) 30 0 FU h (by omega) (by omega) (by unfold FU; omega) ⟨g, xA, hb, hv.mono (by omega) (Int.le_refl _) (by omega), h10, hsc⟩
  obtain ⟨h2, d1, d2⟩ := same_E hNm f1 f2 (by omega) (by omega) (by omega) hno f3
  have tb := f1.2.2.2.2.2.2.1
  unfold tp at tb
  refine ⟨h2, e1.trans ?_, (e3.trans (d2.z (by omega))).mono (by omega) (by omega)⟩
  have hM := f1.2.1
  unfold f_Law_law_b28
  have c1 : nI 30 ≤ iI 30 := by rw [nI_L, iI_le (by omega) (by omega) (by omega) (by omega)]; omega
  have c2 : nrm 3 (iI 1) := ⟨fun _ => Or.inr rfl, fun k => absurd k (by decide), fun k => absurd k (by decide)⟩
  rw [if_pos c1, gd_P hM.t, bn_C d1, gd_P c2]
end

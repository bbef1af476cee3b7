/-! 55 L3: hours, what is foreseen -/
def mHrs (n m p b : Nat) (O : Nat → Nat → Int) (no : Nat) : Nat → GM → GM
  | 0, g => g
  | k + 1, g => mHrs n m p b O no k (mHour n m p b O no g)
theorem hours_E {n m p b r : Nat} {O : Nat → Nat → Int} {no : Nat} (hN : Nm n m p b) (hr : 206 ≤ r) (hW : ∀ i, i < no → Wk n m p b (O i)) {C : Int} (hC9 : 99999 ≤ C) (hC : C ≤ 900000) {K : Nat} (hK : K ≤ 1000) : ∀ (e j fu : Nat) (h : AH) (g : GM) (T Pb : Int), e + j = K → e < fu → SkQ h → SkR h r → SkO h → RP n m p b r (hI h) g → Iv n m p b T C Pb g → 0 ≤ T → T + e ≤ 9000 → Pb + 36 * e ≤ 800000 → Pg n m p b O no (hI h) →
    ∃ F, f_QuillBoats_letHoursGo_l2 fu h 200 r (iI (K : Int)) (iI (j : Int)) = some (sI h F) ∧ RP n m p b r F (mHrs n m p b O no e g) ∧ Fo r (hI h) F ∧ Iv n m p b (T + e) C (Pb + 36 * e) (mHrs n m p b O no e g) := by
  intro e
  induction e with
  | zero =>
    intro j fu h g T Pb he hf hQ hS hO hP hv hT0 hT hPb hA
    obtain ⟨fu, rfl⟩ : ∃ x, fu = x + 1 := ⟨fu - 1, by omega⟩
    refine ⟨hI h, ?_, hP, Fo.refl _ _, hv.mono (by omega) (by omega) (by omega)⟩
    show f_QuillBoats_letHoursGo_b2 (f_QuillBoats_letHoursGo_l2 fu) h 200 r (iI (K : Int)) (iI (j : Int)) = _
    simp (disch := first | decide | omega) only [f_QuillBoats_letHoursGo_b2, iI_lt, iI_le, iI_eq, iI_ix, Int.toNat_natCast, if_pos]
    rfl
  | succ e ih =>
    intro j fu h g T Pb he hf hQ hS hO hP hv hT0 hT hPb hA
    obtain ⟨fu, rfl⟩ : ∃ x, fu = x + 1 := ⟨fu - 1, by omega⟩
    obtain ⟨F, e1, e2, e3, e4⟩ := hour_E hN hr hS hO hP hv hT0 (by omega) hC (by omega) hW hA
    obtain ⟨F', d1, d2, d3, d4⟩ := ih (j + 1) fu (sI h F) _ (T + 1) (Pb + 36) (by omega) (by omega) hQ hS hO e2 (e4.mono (by omega) hC9 (by omega)) (by omega) (by omega) (by omega) (hA.fr fun c s hc => e3 c s (by omega) (by omega) (by omega))
    refine ⟨F', ?_, d2, e3.trans d3, d4.mono (by omega) (by omega) (by omega)⟩
    refine Eq.trans ?_ d1
    show f_QuillBoats_letHoursGo_b2 (f_QuillBoats_letHoursGo_l2 fu) h 200 r (iI (K : Int)) (iI (j : Int)) = _
    simp (disch := first | decide | omega) only [f_QuillBoats_letHoursGo_b2, Nat.add_zero, true_and, and_true, gd_T, bn_S, bv_S, lq_E, wI_s, sI_s, hI_s, hT_s, hL_s, hR_s, hJ_s, hN_s, hU_s, nI_L, z_i, o_i, iI_add, iI_sub, iI_mul, iI_neg, iI_lt, iI_le, iI_eq, iI_ix, Int.toNat_natCast, if_neg, if_pos, gd_P, inb, ix, hQ.t, hQ.r3, hS.t, e1]
    rfl
-- the frame of a call that lets the river be
def Fc (F F' : Nat → Nat → Int32) : Prop := ∀ c s, 320 ≤ c ∨ c < 200 → F' c s = F c s
theorem Fo.c {r : Nat} (hr : 206 ≤ r) (hr2 : r + 47 ≤ 320) {F F' : Nat → Nat → Int32} (h : Fo r F F') : Fc F F' := fun c s hc => h c s (by omega) (by omega) (by omega)
theorem Fm.c {r : Nat} (hr : 206 ≤ r) (hr2 : r + 47 ≤ 320) {F F' : Nat → Nat → Int32} (h : Fm r F F') : Fc F F' := fun c s hc => h c s (by omega)
theorem Fc.refl (F : Nat → Nat → Int32) : Fc F F := fun _ _ _ => rfl
theorem Fc.trans {F F' F'' : Nat → Nat → Int32} (h1 : Fc F F') (h2 : Fc F' F'') : Fc F F'' := fun c s hc => (h2 c s hc).trans (h1 c s hc)
theorem pass_E {n m p b : Nat} {O : Nat → Nat → Int} {no : Nat} (hN : Nm n m p b) (hW : ∀ i, i < no → Wk n m p b (O i)) {C T Pb : Int} (hC9 : 99999 ≤ C) (hC : C ≤ 900000) {h : AH} {g : GM} (hc : Cl n m p b O no h g) (hv : Iv n m p b T C Pb g) {K : Nat} (hK1 : 1 ≤ K) (hK : K ≤ 120) (hT0 : 0 ≤ T) (hT : T + K ≤ 9000) (hPb : Pb + 36 * K ≤ 800000) :
    ∃ F, f_QuillBoats_pass h 200 (iI (K : Int)) = some (sI h F, iI (mHrs n m p b O no K g 0 15 - g 0 15)) ∧ Cl n m p b O no (sI h F) (mHrs n m p b O no K g) ∧ Fc (hI h) F ∧ Iv n m p b (T + K) C (Pb + 36 * K) (mHrs n m p b O no K g) := by
  obtain ⟨hQ, hS, hS2, hO, hP, hA, h1⟩ := hc
  obtain ⟨F, e1, e2, e3, e4⟩ := hours_E (r := 206) hN (by omega) hW hC9 hC (K := K) (by omega) K 0 FU h g T Pb (by omega) (by unfold FU; omega) hQ hS hO hP hv hT0 hT hPb hA
  refine ⟨F, ?_, ⟨hQ, hS, hS2, hO, e2, hA.fr fun c s hc => e3 c s (by omega) (by omega) (by omega), (e3 200 1 (by omega) (by omega) (by omega)).trans h1⟩, e3.c (by omega) (by omega), e4⟩
  have f1 := isWithin_E (h := h) (x := (K : Int)) (a := 1) (c := 120) (by omega) (by omega) (by decide) (by decide)
  have e1' : f_QuillBoats_letHoursGo h 200 206 (iI (K : Int)) = some (sI h F) := e1
  have q1 := hP.sc 15 (by decide) (by decide)
  have q2 := e2.sc 15 (by decide) (by decide)
  simp (disch := first | decide | omega) only [f_QuillBoats_pass, Nat.add_zero, true_and, and_true, gd_T, bn_S, bv_S, lq_E, wI_s, sI_s, hI_s, hT_s, hL_s, hR_s, hJ_s, hN_s, hU_s, nI_L, z_i, o_i, iI_add, iI_sub, iI_mul, iI_neg, iI_lt, iI_le, iI_eq, iI_ix, Int.toNat_natCast, if_neg, if_pos, gd_P, inb, ix, hQ.t, hQ.r4, hS.t, f1, e1', q1, q2]
theorem foresee_E {n m p b : Nat} {O : Nat → Nat → Int} {no : Nat} (hN : Nm n m p b) (hW : ∀ i, i < no → Wk n m p b (O i)) {C T Pb : Int} (hC9 : 99999 ≤ C) (hC : C ≤ 900000) {h : AH} {g : GM} (hc : Cl n m p b O no h g) (hv : Iv n m p b T C Pb g) (hT0 : 0 ≤ T) (hT : T + 1 ≤ 9000) (hPb : Pb + 36 ≤ 800000) {w : Nat} (hw : w = 1 ∨ (7 ≤ w ∧ w ≤ 12)) :
    ∃ F, f_QuillBoats_foresee h 200 (iI 1) (iI (w : Int)) = some (sI h F, iI (mCnt m b (mHour n m p b O no g) w)) ∧ Cl n m p b O no (sI h F) g ∧ Fc (hI h) F := by
  obtain ⟨hQ, hS, hS2, hO, hP, hA, h1⟩ := hc
  have hN' := hN
  unfold Nm at hN'
  have hv0 := hv
  obtain ⟨vS, vH, vG, vR, vP, vB, vQ, vE⟩ := hv
  obtain ⟨g6, g7, g8, g9, -⟩ := vS
  obtain ⟨F1, c1, c2, c3, c4⟩ := copy_E hN (a := 265) (o := 206) (by omega) hS2 hS hP g6 g7 g8 g9 (fun i hi => by have := vP i hi; omega) (fun i hi => by have := vR i hi; unfold IvR1 at this; omega)
  have hA1 : Pg n m p b O no (hI (sI h F1)) := hA.fr fun c s hc => c4 c s (by omega)
  obtain ⟨F, e1, e2, e3, e4⟩ := hours_E (r := 265) hN (by omega) hW hC9 hC (K := 1) (by omega) 1 0 FU (sI h F1) g T Pb (by omega) (by unfold FU; omega) hQ hS2 hO c2 hv0 hT0 (by omega) (by omega) hA1
  have e2' : RP n m p b 265 F (mHour n m p b O no g) := e2
  obtain ⟨v6, v7, v8, v9, -⟩ := e4.1
  have f2 := total_E (h := sI h F) (by omega) (by omega) hS2 e2' v7 v9 w (by omega)
  have e3' : Fo 265 F1 F := e3
  have fr : ∀ c s, c < 265 → c ≠ 205 → ¬ (c = 202 ∧ s = 4) → F c s = hI h c s := fun c s h1 h2 h3 => (e3' c s (by omega) h2 h3).trans (c4 c s (by omega))
  refine ⟨F, ?_, ⟨hQ, hS, hS2, hO, hP.fr hN fun c s hc => fr _ _ (by omega) (by omega) (by omega), hA.fr fun c s hc => fr _ _ (by omega) (by omega) (by omega), (fr 200 1 (by omega) (by omega) (by omega)).trans h1⟩, (c4.c (by omega) (by omega)).trans (e3'.c (by omega) (by omega))⟩
  have f1 := isWithin_E (h := h) (x := 1) (a := 1) (c := 120) (by decide) (by decide) (by decide) (by decide)
  have e1' : f_QuillBoats_letHoursGo (sI h F1) 200 265 (iI 1) = some (sI h F) := e1
  by_cases q : w = 1
  · subst q
    have f2' : f_River_total (sI h F) 265 (iI 1) = some (sI h F, iI (mCnt m b (mHour n m p b O no g) 1)) := f2
    show f_QuillBoats_foresee h 200 (iI 1) (iI 1) = _
    simp (disch := first | decide | omega) only [f_QuillBoats_foresee, f_QuillBoats_foresee_b48, Nat.add_zero, true_and, and_true, gd_T, bn_S, bv_S, lq_E, wI_s, sI_s, hI_s, hT_s, hL_s, hR_s, hJ_s, hN_s, hU_s, nI_L, z_i, o_i, iI_add, iI_sub, iI_mul, iI_neg, iI_lt, iI_le, iI_eq, iI_ix, Int.toNat_natCast, if_neg, if_pos, gd_P, inb, ix, hQ.t, hQ.r4, hQ.r9, hS2.t, f1, c1, e1', f2']
  · have f3 := isWithin_E (h := h) (x := (w : Int)) (a := 7) (c := 12) (by omega) (by omega) (by decide) (by decide)
    simp (disch := first | decide | omega) only [f_QuillBoats_foresee, f_QuillBoats_foresee_b48, Nat.add_zero, true_and, and_true, gd_T, bn_S, bv_S, lq_E, wI_s, sI_s, hI_s, hT_s, hL_s, hR_s, hJ_s, hN_s, hU_s, nI_L, z_i, o_i, iI_add, iI_sub, iI_mul, iI_neg, iI_lt, iI_le, iI_eq, iI_ix, Int.toNat_natCast, if_neg, if_pos, gd_P, inb, ix, hQ.t, hQ.r4, hQ.r9, hS2.t, f1, f3, c1, e1', f2]

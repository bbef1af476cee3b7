/-! 87 L3: the law's looks, III: an hour as foreseen -/
theorem loopJ {α : Type} (L : Nat → AH → Nat → Option α) (K : AH → Option α) (lo N : Nat) (c d : Nat) (J : Nat → AH → Prop)
    (hstep : ∀ (fu i : Nat) (h : AH), lo ≤ i → i < N → J i h → ∃ h', L (fu + 1) h i = L fu h' (i + 1) ∧ J (i + 1) h' ∧ Fz c d h h')
    (hend : ∀ (fu : Nat) (h : AH), J N h → L (fu + 1) h N = K h) :
    ∀ (k i fu : Nat) (h : AH), lo ≤ i → i + k = N → k < fu → J i h → ∃ h', L fu h i = K h' ∧ J N h' ∧ Fz (k * c) (k * d) h h' := by
  intro k
  induction k with
  | zero =>
    intro i fu h lo' e hf hJ
    obtain ⟨fu, rfl⟩ : ∃ x, fu = x + 1 := ⟨fu - 1, by omega⟩
    obtain rfl : i = N := by omega
    exact ⟨h, hend fu h hJ, hJ, (Fz.refl h).mono (by omega) (by omega)⟩
  | succ k ih =>
    intro i fu h lo' e hf hJ
    obtain ⟨fu, rfl⟩ : ∃ x, fu = x + 1 := ⟨fu - 1, by omega⟩
    obtain ⟨h1, e1, e2, e3⟩ := hstep fu i h lo' (by omega) hJ
    obtain ⟨h2, d1, d2, d3⟩ := ih (i + 1) fu h1 (by omega) (by omega) (by omega) e2
    refine ⟨h2, e1.trans d1, d2, (e3.trans d3).mono ?_ ?_⟩
    · rw [Nat.succ_mul]; omega
    · rw [Nat.succ_mul]; omega
section
variable {xA n m p b no : Nat} {O : Nat → Nat → Int} {T C Pb : Int} {h : AH} {g : GM}
-- another place beside it
theorem Sm.re {x' : Nat} (hs : Sm xA n m p b no O h g) (h1 : tp n m p b no ≤ x' ∧ x' < hN h) (h2 : ∀ k, k < m → ∀ j : Nat, (j : Int) < mct g k → hR h (hR h (334 + n) k) j ≠ x') : Sm x' n m p b no O h g :=
  ⟨hs.1, hs.2.1, hs.2.2.1, hs.2.2.2.1, hs.2.2.2.2.1, hs.2.2.2.2.2.1, Or.inr h1, h2⟩
-- what the row at y holds: coins and counts foreseen, those ahead of i
def Rw (y i : Nat) (m b : Nat) (g' : GM) (h : AH) : Prop := hT h y = 101 ∧ hL h y = 13 ∧ hI h y 1 = iI (mCnt m b g' 1) ∧ ∀ w, 7 ≤ w → w < i → hI h y w = iI (mCnt m b g' w)
theorem law6a_E (hNm : Nm n m p b) (hW : ∀ i, i < no → Wk n m p b (O i)) (hb : Bo xA n m p b no O h g) (hv : Iv n m p b T C Pb g) (hC9 : 99999 ≤ C) (hC : C ≤ 900000) (hT0 : 0 ≤ T) (hTm : T + 1 ≤ 9000) (hPb : Pb + 36 ≤ 800000) (k28 : AH → Nat → Nat → Nat → Int32 → Option (AH × Int32)) (sc : Nat) (t : Int32) :
    ∃ h' y, f_Law_law_b651 k28 (fun _ _ _ _ _ _ _ _ _ _ _ => none) h sc 200 320 t (iI (sumF (fun i => g (31 + i) 4) p)) (iI (sumF (fun k => g (43 + k) 3) 4)) (iI (sumF (fun k => g (43 + k) 0) 4)) (iI (sumF (fun k => g (11 + 5 * k) 1) m)) (iI (sumF (fun i => g (39 + i) 4) b)) (iI 4) = f_Law_law_b843 k28 (fun _ _ _ _ _ _ _ => none) h' sc 200 320 t y (iI 13) ∧ Bo y n m p b no O h' g ∧ Rw y 13 m b (mHour n m p b O no g) h' ∧ 320 ≤ y ∧ Fz 1 13 h h' := by
  have hN' := hNm
  unfold Nm at hN'
  have hS4 := hv.1
  unfold IvSc at hS4
  obtain ⟨s6, s7, s8, s9, -⟩ := hS4
  obtain ⟨E1, E2, E3⟩ := hv.2.2.2.2.2.2.2
  have tb := hb.2.2.2.2.2.2.1
  unfold tp at tb
  have hc := hb.1
  have hQ := hc.1
  have c10 : f_QuillBoats_count h 200 (iI 10) = some (h, iI (g 0 15)) := count_E hNm hc s7 s9 10 (by omega)
  have c11 : f_QuillBoats_count h 200 (iI 11) = some (h, iI (g 0 16)) := count_E hNm hc s7 s9 11 (by omega)
  have c7 : f_QuillBoats_count h 200 (iI 7) = some (h, iI (sumF (fun k => g (43 + k) 0) 4)) := count_E hNm hc s7 s9 7 (by omega)
  have c8 : f_QuillBoats_count h 200 (iI 8) = some (h, iI (sumF (fun k => g (11 + 5 * k) 1) m)) := count_E hNm hc s7 s9 8 (by omega)
  have c9 : f_QuillBoats_count h 200 (iI 9) = some (h, iI (sumF (fun i => g (39 + i) 4) b)) := count_E hNm hc s7 s9 9 (by omega)
  -- the new row
  have gx : Gx 1 13 h (hA h 101 13) := Gx.row (hI (hA h 101 13)) fun a ha => by rw [hI_a, up1_n _ _ _ _ (by omega)]
  have hb1 := hb.ext hNm gx
  have hb2 : Bo (hN h) n m p b no O (hA h 101 13) g := ⟨hb1.1, hb1.2.re ⟨by unfold tp; omega, by rw [hN_a]; omega⟩ fun k hk j hj => by
    obtain ⟨b1, b2, b3, b4, b5⟩ := hb.2.2.2.1 k hk
    have d4 := (b5 j hj).2.2.2.1
    have r1 : hR (hA h 101 13) (334 + n) k = hR h (334 + n) k := by rw [hR_a, up1_n _ _ _ _ (by omega)]
    have r2 : hR (hA h 101 13) (hR h (334 + n) k) j = hR h (hR h (334 + n) k) j := by rw [hR_a, up1_n _ _ _ _ (by omega)]
    rw [r1, r2]
    omega⟩
  obtain ⟨F, d1, d2, d3⟩ := foresee_E hNm hW hC9 hC hb2.1 hv hT0 hTm hPb (w := 1) (Or.inl rfl)
  have d1' : f_QuillBoats_foresee (hA h 101 13) 200 (iI 1) (iI 1) = some (sI (hA h 101 13) F, iI (mCnt m b (mHour n m p b O no g) 1)) := d1
  have s2 := hb2.2.fc hNm d3
  generalize hv1 : mCnt m b (mHour n m p b O no g) 1 = v1 at *
  have z3 := d3.z
  have Ft : F (hN h) = hI (hA h 101 13) (hN h) := funext fun s => d3 _ _ (Or.inl (by omega))
  have gx2 : Gx 0 0 (sI (hA h 101 13) F) (sI (hA h 101 13) F) := Gx.refl _
  -- the write
  have key : ∀ (h0 : AH) (i : Nat) (v : Int32), Bo (hN h) n m p b no O h0 g → Bo (hN h) n m p b no O (sI h0 (up2 (hI h0) (hN h) i v)) g := by
    intro h0 i v hb0
    obtain ⟨hc0, hs0⟩ := hb0
    refine ⟨hc0.ext hNm fun a ha => ⟨rfl, rfl, funext fun s => by rw [hI_s, up2_n _ _ _ _ _ _ (by omega)], rfl⟩, ?_⟩
    obtain ⟨hM, hA', hB, hD, hO, hT', hX⟩ := hs0
    refine ⟨hM, fun c s hl hp => ?_, fun q hq => ?_, hD, fun x hx t ht => ?_, hT', hX⟩
    · have q := sA_b2 hNm hl
      rw [hI_s, up2_n _ _ _ _ _ _ (by omega)]
      exact hA' c s hl hp
    · obtain ⟨b1, b2, b3, b4, b5⟩ := hB q hq
      refine ⟨b1, b2, b3, b4, fun x hx => ?_⟩
      obtain ⟨e1, e2, e3, e4, e5, e6, e7, e8⟩ := b5 x hx
      have ne := hX.2 q hq x hx
      rw [hI_s, hR_s]
      have nn : ∀ s, ¬ (hR h0 (hR h0 (334 + n) q) x = hN h ∧ s = i) := fun s y => ne y.1
      rw [up2_n _ _ _ _ _ _ (nn 0), up2_n _ _ _ _ _ _ (nn 1), up2_n _ _ _ _ _ _ (nn 2), up2_n _ _ _ _ _ _ (nn 3)]
      exact ⟨e1, e2, e3, e4, e5, e6, e7, e8⟩
    · rw [hI_s, up2_n _ _ _ _ _ _ (by omega)]
      exact hO x hx t ht
  have hb3 := key (sI (hA h 101 13) F) 1 (iI v1) ⟨d2, s2⟩
  rw [sI_s, hI_s] at hb3
  have t1 : hT (hA h 101 13) (hN h) = 101 := by rw [hT_a, up1_e]
  have t2 : hL (hA h 101 13) (hN h) = 13 := by rw [hL_a, up1_e]
  have st : f_Law_law_b651 k28 (fun _ _ _ _ _ _ _ _ _ _ _ => none) h sc 200 320 t (iI (sumF (fun i => g (31 + i) 4) p)) (iI (sumF (fun k => g (43 + k) 3) 4)) (iI (sumF (fun k => g (43 + k) 0) 4)) (iI (sumF (fun k => g (11 + 5 * k) 1) m)) (iI (sumF (fun i => g (39 + i) 4) b)) (iI 4) = f_Law_law_l843 k28 FU (sI (hA h 101 13) (up2 F (hN h) 1 (iI v1))) sc 200 320 t (hN h) (iI 7) := by
    rw [E2, E3]
    generalize sumF (fun k => g (43 + k) 0) 4 = A at *
    generalize sumF (fun k => g (11 + 5 * k) 1) m = B at *
    generalize sumF (fun i => g (39 + i) 4) b = D at *
    have p7 := fun (f : AH → Int32 → Option (AH × Int32)) => bn_C (f := f) c7
    have p8 := fun (f : AH → Int32 → Option (AH × Int32)) => bn_C (f := f) c8
    have p9 := fun (f : AH → Int32 → Option (AH × Int32)) => bn_C (f := f) c9
    have p10 := fun (f : AH → Int32 → Option (AH × Int32)) => bn_C (f := f) c10
    have p11 := fun (f : AH → Int32 → Option (AH × Int32)) => bn_C (f := f) c11
    have pf := fun (f : AH → Int32 → Option (AH × Int32)) => bn_C (f := f) d1'
    have hQ1 := hb1.1.1
    have i13 : (iI 13).toNatClampNeg = 13 := by rw [iI_ix (by omega) (by omega)]; rfl
    have n1 : (4 : Int) ≤ 4 := Int.le_refl _
    clear c7 c8 c9 c10 c11 d1 d1' d2 d3 s2 hb3 key hb2 hb1 gx gx2 hb hc hv E1 z3 Ft
    simp only [f_Law_law_b651, nI_L, z_i, iI_neg, i13]
    simp (disch := first | decide | omega) only [↓lq_E, ↓reduceIte, ↓p7, ↓p8, ↓p9, ↓p10, ↓p11, ↓pf, hQ.t, hQ1.t, gd_T, iI_lt, iI_le, iI_eq, iI_ix, Int.toNat_natCast, toNat_L, n1, not_true_eq_false, hT_s, hL_s, hI_s, wI_s, sI_s, t1, t2, true_and, and_true, gd_P, inb, ix, z_i]
  have rw0 : Rw (hN h) 7 m b (mHour n m p b O no g) (sI (hA h 101 13) (up2 F (hN h) 1 (iI v1))) := ⟨by rw [hT_s]; exact t1, by rw [hL_s]; exact t2, by rw [hI_s, up2_e, hv1], fun w h1 h2 => by omega⟩
  obtain ⟨h', e1, ⟨e2, e3⟩, e4⟩ := loopJ (fun fu h' i => f_Law_law_l843 k28 fu h' sc 200 320 t (hN h) (iI (i : Int))) (fun h' => f_Law_law_b843 k28 (fun _ _ _ _ _ _ _ => none) h' sc 200 320 t (hN h) (iI 13)) 7 13 0 0 (fun i h' => Bo (hN h) n m p b no O h' g ∧ Rw (hN h) i m b (mHour n m p b O no g) h') (by
    intro fu i h0 lo hi ⟨hb0, hr0⟩
    obtain ⟨F0, k1, k2, k3⟩ := foresee_E hNm hW hC9 hC hb0.1 hv hT0 hTm hPb (w := i) (Or.inr ⟨lo, by omega⟩)
    have s0 := hb0.2.fc hNm k3
    have hb4 := key (sI h0 F0) i (iI (mCnt m b (mHour n m p b O no g) i)) ⟨k2, s0⟩
    rw [sI_s, hI_s] at hb4
    obtain ⟨r1, r2, r3, r4⟩ := hr0
    have Fr : ∀ s, F0 (hN h) s = hI h0 (hN h) s := fun s => k3 _ _ (Or.inl (by omega))
    generalize mHour n m p b O no g = g' at *
    have hQ0 := hb0.1.1
    have hii : ((i + 1 : Nat) : Int) = (i : Int) + 1 := rfl
    refine ⟨_, ?_, ⟨hb4, r1, r2, ?_, fun w h1 h2 => ?_⟩, Fz.trans (c := 0) (d := 0) (c' := 0) (d' := 0) k3.z ⟨Nat.le_refl _, Nat.le_refl _, Nat.le_refl _, fun a ha => ⟨rfl, rfl, ?_, rfl⟩⟩⟩
    · have pf := fun (f : AH → Int32 → Option (AH × Int32)) => bn_C (f := f) k1
      have n1 : ¬ 13 ≤ (i : Int) := by omega
      have n2 : i < 13 := hi
      show f_Law_law_b843 k28 (f_Law_law_l843 k28 fu) h0 sc 200 320 t (hN h) (iI (i : Int)) = _
      clear hb0 hb4 s0 k1 k2 k3 key hv hb hc hb1 hb2 hb3 d1 d2 d1' c7 c8 c9 c10 c11 st rw0 E1 E2 E3 gx gx2 z3
      simp only [f_Law_law_b843, nI_L, z_i, iI_neg]
      simp (disch := first | decide | omega) only [↓lq_E, ↓reduceIte, ↓pf, hQ0.t, gd_T, iI_lt, iI_le, iI_eq, iI_ix, Int.toNat_natCast, toNat_L, n1, hT_s, hL_s, hI_s, wI_s, sI_s, r1, r2, true_and, and_true, gd_P, inb, ix, z_i, iI_add, hii]
    · rw [hI_s, up2_n _ _ _ _ _ _ (by omega), Fr]
      exact r3
    · rw [hI_s]
      by_cases q : w = i
      · rw [q, up2_e]
      · rw [up2_n _ _ _ _ _ _ (by omega), Fr]
        exact r4 w h1 (by omega)
    · funext s
      rw [hI_s, hI_s, up2_n _ _ _ _ _ _ (by omega)]) (by
    intro fu h0 hJ
    show f_Law_law_b843 k28 (f_Law_law_l843 k28 fu) h0 sc 200 320 t (hN h) (iI 13) = _
    unfold f_Law_law_b843
    have c1 : nI 13 ≤ iI 13 := by rw [nI_L, iI_le (by omega) (by omega) (by omega) (by omega)]; omega
    simp only [if_pos c1]) 6 7 FU _ (by omega) (by omega) (by unfold FU; omega) ⟨hb3, rw0⟩
  have fz : Fz 1 13 h (sI (hA h 101 13) (up2 F (hN h) 1 (iI v1))) := by
    refine ⟨by rw [hN_s, hN_a]; omega, by rw [hN_s, hN_a]; omega, by rw [hU_s, hU_a]; omega, fun a ha => ⟨?_, ?_, ?_, ?_⟩⟩
    · rw [hT_s, hT_a, up1_n _ _ _ _ (by omega)]
    · rw [hL_s, hL_a, up1_n _ _ _ _ (by omega)]
    · funext s
      rw [hI_s, up2_n _ _ _ _ _ _ (by omega), d3 _ _ (Or.inr ha), hI_a, up1_n _ _ _ _ (by omega)]
    · rw [hR_s, hR_a, up1_n _ _ _ _ (by omega)]
  exact ⟨h', hN h, st.trans e1, e2, e3, by omega, (fz.trans e4).mono (by omega) (by omega)⟩
-- the hour itself
theorem law6_E (hNm : Nm n m p b) (hW : ∀ i, i < no → Wk n m p b (O i)) (hno : no ≤ 100) (hb : Bo xA n m p b no O h g) (hv : Iv n m p b T C Pb g) (hC9 : 99999 ≤ C) (hC : C ≤ 900000) (hT0 : 0 ≤ T) (hTm : T + 1 ≤ 9000) (hPb : Pb + 36 ≤ 800000) (k28 : AH → Nat → Nat → Nat → Int32 → Option (AH × Int32)) (sc : Nat) (t : Int) :
    ∃ h' y, f_Law_law_b651 k28 (fun _ _ _ _ _ _ _ _ _ _ _ => none) h sc 200 320 (iI t) (iI (sumF (fun i => g (31 + i) 4) p)) (iI (sumF (fun k => g (43 + k) 3) 4)) (iI (sumF (fun k => g (43 + k) 0) 4)) (iI (sumF (fun k => g (11 + 5 * k) 1) m)) (iI (sumF (fun i => g (39 + i) 4) b)) (iI 4) = k28 h' sc 200 320 (iI (t + 1)) ∧ Bo y n m p b no O h' (mHour n m p b O no g) ∧ Iv n m p b (T + 1) C (Pb + 36) (mHour n m p b O no g) ∧ Fz 12 453 h h' := by
  have hN' := hNm
  unfold Nm at hN'
  obtain ⟨h1, y, a1, a2, a3, a4, a5⟩ := law6a_E hNm hW hb hv hC9 hC hT0 hTm hPb k28 sc (iI t)
  have hS4 := hv.1
  unfold IvSc at hS4
  obtain ⟨s6, s7, s8, s9, -⟩ := hS4
  have hc := a2.1
  have hQ := hc.1
  have c10 : f_QuillBoats_count h1 200 (iI 10) = some (h1, iI (g 0 15)) := count_E hNm hc s7 s9 10 (by omega)
  obtain ⟨F, d1, d2, d3, d4⟩ := pass_E hNm hW hC9 hC hc hv (K := 1) (by omega) (by omega) hT0 (by omega) (by omega)
  have d1' : f_QuillBoats_pass h1 200 (iI 1) = some (sI h1 F, iI (mHour n m p b O no g 0 15 - g 0 15)) := d1
  have d2' : Cl n m p b O no (sI h1 F) (mHour n m p b O no g) := d2
  have s2 := a2.2.fc hNm d3
  obtain ⟨h2, e1, e2, e3⟩ := simHour_E hNm s2 hv hT0 (by omega) hC (by omega) hno hW
  have hv1 := hour_Iv hNm hv hT0 hW
  have hc2 := d2'.fx hNm e3
  obtain ⟨r1, r2, r3, r4⟩ := a3
  -- the row stays
  have ey := e3.e y (Or.inr rfl)
  obtain ⟨y1, y2, y3, -⟩ := ey
  rw [hT_s] at y1
  rw [hL_s] at y2
  rw [hI_s] at y3
  have Fy : ∀ s, F y s = hI h1 y s := fun s => d3 _ _ (Or.inl a4)
  have t1 : hT h2 y = 101 := y1.trans r1
  have t2 : hL h2 y = 13 := y2.trans r2
  have t3 : hI h2 y 1 = iI (mCnt m b (mHour n m p b O no g) 1) := by rw [y3, Fy]; exact r3
  have t4 : ∀ w, 7 ≤ w → w < 13 → hI h2 y w = iI (mCnt m b (mHour n m p b O no g) w) := fun w h1 h2 => by rw [y3, Fy]; exact r4 w h1 h2
  have hv2 : Iv n m p b (T + 1) C (Pb + 36) (mHour n m p b O no g) := hv1.mono (Int.le_refl _) hC9 (Int.le_refl _)
  have hS5 := hv1.1
  unfold IvSc at hS5
  have v12 : 0 ≤ mHour n m p b O no g 0 12 ∧ mHour n m p b O no g 0 12 ≤ 99999 := by omega
  have v7 : mHour n m p b O no g 0 7 = m := by omega
  have v9 : mHour n m p b O no g 0 9 = b := by omega
  refine ⟨h2, y, ?_, ⟨hc2, e2⟩, hv2, ((a5.trans d3.z).trans e3.z).mono (by omega) (by omega)⟩
  refine a1.trans ?_
  have hM1 := s2.1
  have hQ1 := d2'.1
  have hQ2 := hc2.1
  have x1 : f_QuillBoats_count h2 200 (iI 1) = some (h2, iI (mHour n m p b O no g 0 12)) := count_E hNm hc2 v7 v9 1 (by omega)
  have x10 : f_QuillBoats_count h2 200 (iI 10) = some (h2, iI (mHour n m p b O no g 0 15)) := count_E hNm hc2 v7 v9 10 (by omega)
  have t3' : hI h2 y 1 = iI (mHour n m p b O no g 0 12) := t3
  have xw := fun (w : Nat) (hw : w < 16) => count_E hNm hc2 v7 v9 w hw
  have st2 : f_Law_law_b843 k28 (fun _ _ _ _ _ _ _ => none) h1 sc 200 320 (iI t) y (iI 13) = f_Law_law_l937 k28 FU h2 sc 200 320 (iI t) y (iI 7) := by
    clear hv hv1 hv2 hc2 e2 e3 d4 d2 d2' d3 s2 a1 a2 hc hb xw t4 t3 r4 hS5 d1
    generalize mHour n m p b O no g = g' at *
    have pd := fun (f : AH → Int32 → Option (AH × Int32)) => bn_C (f := f) d1'
    have p10 := fun (f : AH → Int32 → Option (AH × Int32)) => bn_C (f := f) c10
    have q1 := fun (f : AH → Int32 → Option (AH × Int32)) => bn_C (f := f) x1
    have q10 := fun (f : AH → Int32 → Option (AH × Int32)) => bn_C (f := f) x10
    have n1 : (13 : Int) ≤ 13 := Int.le_refl _
    have n2 : ¬ g' 0 12 < 0 := by omega
    have n3 : g' 0 12 ≤ 99999 := v12.2
    have ea : g 0 15 + (g' 0 15 - g 0 15) = g' 0 15 := by omega
    clear c10 d1' x1 x10
    simp only [f_Law_law_b843, nI_L, z_i, iI_neg]
    simp (disch := first | decide | omega) only [↓lq_E, ↓reduceIte, ↓pd, ↓p10, ↓q1, ↓q10, e1, bv_S, hQ.t, hM1.t, hQ2.t, gd_T, iI_lt, iI_le, iI_eq, iI_ix, Int.toNat_natCast, toNat_L, n1, n2, n3, t1, t2, t3', ea, iI_add, true_and, and_true, gd_P, inb, ix, z_i, not_true_eq_false]
  refine st2.trans ?_
  generalize mHour n m p b O no g = g' at *
  obtain ⟨h3, k1, k2, -⟩ := loopJ (fun fu h' i => f_Law_law_l937 k28 fu h' sc 200 320 (iI t) y (iI (i : Int))) (fun h' => k28 h' sc 200 320 (iI (t + 1))) 7 13 0 0 (fun _ x => x = h2) (by
    intro fu i h0 lo hi he
    subst he
    have f := xw i (by omega)
    have r := t4 i lo hi
    have hii : ((i + 1 : Nat) : Int) = (i : Int) + 1 := rfl
    have pf := fun (f' : AH → Int32 → Option (AH × Int32)) => bn_C (f := f') f
    have n1 : ¬ 13 ≤ (i : Int) := by omega
    refine ⟨h0, ?_, rfl, Fz.refl _⟩
    show f_Law_law_b937 k28 (f_Law_law_l937 k28 fu) h0 sc 200 320 (iI t) y (iI (i : Int)) = _
    clear hv hv1 hv2 hc2 e2 e3 d4 d2 d2' d3 s2 a1 a2 hc hb xw t4 t3 r4 hS5 d1 st2 d1' c10 x1 x10 e1 f
    simp only [f_Law_law_b937, nI_L, z_i, iI_neg]
    simp (disch := first | decide | omega) only [↓lq_E, ↓reduceIte, ↓pf, hQ2.t, gd_T, iI_lt, iI_le, iI_eq, iI_ix, Int.toNat_natCast, toNat_L, n1, t1, t2, r, true_and, and_true, gd_P, inb, ix, z_i, iI_add, hii]) (by
    intro fu h0 he
    show f_Law_law_b937 k28 (f_Law_law_l937 k28 fu) h0 sc 200 320 (iI t) y (iI 13) = _
    have n1 : (13 : Int) ≤ 13 := Int.le_refl _
    clear hv hv1 hv2 hc2 e2 e3 d4 d2 d2' d3 s2 a1 a2 hc hb xw t4 t3 r4 hS5 d1 st2 d1' c10 x1 x10 e1
    simp only [f_Law_law_b937, nI_L, z_i, iI_neg]
    simp (disch := first | decide | omega) only [↓lq_E, ↓reduceIte, iI_lt, iI_le, iI_eq, iI_ix, Int.toNat_natCast, toNat_L, n1, iI_add]) 6 7 FU h2 (by omega) (by omega) (by unfold FU; omega) rfl
  rw [k2] at k1
  exact k1
end

/-! 78 L3: a whole hour of the sim -/
theorem hour_Iv {n m p b no : Nat} {O : Nat → Nat → Int} {T C Pb : Int} {g : GM} (hNm : Nm n m p b) (hv : Iv n m p b T C Pb g) (hT0 : 0 ≤ T) (hW : ∀ i, i < no → Wk n m p b (O i)) : Iv n m p b (T + 1) 99999 (Pb + 36) (mHour n m p b O no g) := by
  have hN' := hNm
  unfold Nm at hN'
  have gen : ∀ (f : Nat → GM → GM) (J : Nat → GM → Prop) (N : Nat), (∀ i g, i < N → J i g → J (i + 1) (f i g)) → ∀ k i g, i + k = N → J i g → J N (mIt f k i g) := by
    intro f J N hst k
    induction k with
    | zero => intro i g e h; rw [← e]; exact h
    | succ k ih => intro i g e h; exact ih (i + 1) _ (by omega) (hst i g (by omega) h)
  have v1 := gen mRest1 (fun _ g => Iv n m p b T C Pb g) p (fun i g hi h => h.rest hNm hi (Or.inl rfl)) p 0 g (by omega) hv
  have v2 := gen (fun i => mOrder n m p b (O i)) (fun _ g => Iv n m p b T C Pb g) no (fun i g hi h => mOrder_Iv hNm h (hW i hi)) no 0 _ (by omega) v1
  unfold mHour mOrders
  generalize mIt (fun i => mOrder n m p b (O i)) no 0 (mIt mRest1 p 0 g) = g1 at *
  have v3 : Iv n m p b T C Pb (if g1 0 11 % 12 = 0 then mIt mGrow1 n 0 g1 else g1) := by
    split
    · exact gen mGrow1 (fun _ g => Iv n m p b T C Pb g) n (fun i g hi h => h.grow hNm hi) n 0 _ (by omega) v2
    · exact v2
  dsimp only
  generalize (if g1 0 11 % 12 = 0 then mIt mGrow1 n 0 g1 else g1) = g2 at *
  have v4 := gen mPeel1 (fun i g => Iv n m p b T C (Pb + 9 * (i : Int)) g) p (fun i g hi h => (h.peel hNm hT0 hi).mono (Int.le_refl _) (Int.le_refl _) (by omega)) p 0 g2 (by omega) (v3.mono (Int.le_refl _) (Int.le_refl _) (by omega))
  generalize mIt mPeel1 p 0 g2 = g3 at *
  have hS4 := v4.1
  unfold IvSc at hS4
  have hsh := v4.2.1 (g3 0 11 % 12).toNat (by omega)
  generalize g3 6 (g3 0 11 % 12).toNat = sh at *
  have h11 : ∀ i g, mDry1 sh i g 0 11 = g 0 11 := fun i g => by unfold mDry1; exact mDry2_11 0 11 (by omega) _ _ _ _ _
  obtain ⟨kS, kH, kG, kR, kP, kB, kQ, kE⟩ := gen (mDry1 sh) (fun i g => IvD n m p b i T C (Pb + 9 * (p : Int)) g) m (fun i g hi h => h.dry hNm hi hsh.1 hsh.2) m 0 g3 (by omega) ⟨v4.1, v4.2.1, v4.2.2.1, fun k hk => by rw [if_neg (by omega)]; exact v4.2.2.2.1 k hk, v4.2.2.2.2⟩
  have kv : Iv n m p b (T + 1) C (Pb + 36) (mIt (mDry1 sh) m 0 g3) := ⟨kS.mono (by omega) (Int.le_refl _) (by omega), kH, kG, fun k hk => by have := kR k hk; rw [if_pos hk] at this; exact this, kP, kB, kQ, kE⟩
  have k11 : mIt (mDry1 sh) m 0 g3 0 11 = g3 0 11 := mIt_same h11 _ _ _
  generalize mIt (mDry1 sh) m 0 g3 = g4 at *
  have v5 := gen mBoat1 (fun i g => Iv n m p b (T + 1) (C + 2000 * (i : Int)) (Pb + 36) g ∧ g 0 11 + 1 ≤ T + 1) b (fun i g hi h => ⟨(h.1.boat hNm hi).coins (by omega), by
    have hh2 : mBoat1 i g 0 11 = g 0 11 := by unfold mBoat1 mSell; split <;> (try split) <;> (try split) <;> (try simp (disch := omega) only [up2_n])
    rw [hh2]; exact h.2⟩) b 0 g4 (by omega) ⟨kv.coins (by omega), by omega⟩
  have v6 := gen mGlut1 (fun _ g => Iv n m p b (T + 1) (C + 2000 * (b : Int)) (Pb + 36) g ∧ g 0 11 + 1 ≤ T + 1) 4 (fun i g hi h => ⟨h.1.glut hNm hi, by unfold mGlut1; rw [up2_n _ _ _ _ _ _ (by omega)]; exact h.2⟩) 4 0 _ (by omega) v5
  exact v6.1.endh hNm v6.2
section
variable {xA n m p b no : Nat} {O : Nat → Nat → Int} {T C Pb : Int} {h : AH} {g : GM}
theorem simRacks_E (hNm : Nm n m p b) (hs : Sm xA n m p b no O h g) (hv : Iv n m p b T C Pb g) (hT0 : 0 ≤ T) (hT : T ≤ 9000) (hC : C ≤ 900000) (hPb : Pb ≤ 900000) {sh : Int} (hs0 : 0 ≤ sh) (hs3 : sh ≤ 3) :
    ∃ h', f_Sim_pass_l486 FU h 320 (iI sh) (iI 0) = some h' ∧ Sm xA n m p b no O h' (mEnd (mIt mGlut1 4 0 (mIt mBoat1 b 0 (mIt (mDry1 sh) m 0 g)))) ∧ Fx xA 3 180 h h' := by
  have hN' := hNm
  unfold Nm at hN'
  have hS4 := hv.1
  unfold IvSc at hS4
  have h11 : ∀ i g, mDry1 sh i g 0 11 = g 0 11 := fun i g => by unfold mDry1; exact mDry2_11 0 11 (by omega) _ _ _ _ _
  obtain ⟨h1, e1, e2, e3, kS, kH, kG, kR, kP, kB, kQ, kE⟩ := loopM (n := n) (m := m) (p := p) (b := b) (no := no) (O := O) (fun fu h x => f_Sim_pass_l486 fu h 320 (iI sh) x) (fun h => f_Sim_pass_l688 FU h 320 (336 + n + m + p) (iI (b : Int)) (iI 0)) (mDry1 sh) m (fun i g => IvD n m p b i T C Pb g) 1 60 (by
    intro fu i h g hi hv hs
    have hRi := hv.2.2.2.1 i hi
    rw [if_neg (by omega)] at hRi
    have hRi' := hRi
    obtain ⟨r1, r2, r3, r4, r5, r6, r7⟩ := hRi
    obtain ⟨h', d1, d2, d3⟩ := simDry_E hNm hs hi hs0 hs3 (by omega) (fun x _ hx => by have := r7 x hx; omega) hRi' hT (f_Sim_pass_l486 fu)
    exact ⟨h', d1, d2, d3, hv.dry hNm hi hs0 hs3⟩) (by
    intro fu h g _ hs
    have hM := hs.1
    show f_Sim_pass_b486 (f_Sim_pass_l486 fu) h 320 (iI sh) (iI (m : Int)) = _
    simp (disch := first | decide | omega) only [f_Sim_pass_b486, Nat.add_zero, true_and, and_true, gd_T, bn_S, bv_S, lq_E, wI_s, sI_s, hI_s, hT_s, hL_s, hR_s, hJ_s, hN_s, hU_s, nI_i, cst_L, z_i, iI_lt, iI_le, iI_eq, iI_ix, Int.toNat_natCast, toNat_L, if_neg, if_pos, gd_P, inb, ix, hM.t, hM.r14, hM.r16, hM.tra, hM.lra, hM.tbo, hM.lbo]
    all_goals rfl) m 0 FU h g (by omega) (by unfold FU; omega) ⟨hv.1, hv.2.1, hv.2.2.1, fun k hk => by rw [if_neg (by omega)]; exact hv.2.2.2.1 k hk, hv.2.2.2.2⟩ hs
  have kv : Iv n m p b (T + 1) C Pb (mIt (mDry1 sh) m 0 g) := ⟨kS.mono (by omega) (Int.le_refl _) (Int.le_refl _), kH, kG, fun k hk => by have := kR k hk; rw [if_pos hk] at this; exact this, kP, kB, kQ, kE⟩
  obtain ⟨h2, d1, d2, d3⟩ := simBoats_E hNm e2 kv hC hPb (by rw [mIt_same h11]; omega)
  exact ⟨h2, e1.trans d1, d2, (e3.trans d3).mono (by omega) (by omega)⟩
theorem simPeels_E (hNm : Nm n m p b) (hs : Sm xA n m p b no O h g) (hv : Iv n m p b T C Pb g) (hT0 : 0 ≤ T) (hT : T ≤ 9000) (hC : C ≤ 900000) (hPb : Pb ≤ 800000) :
    ∃ h', f_Sim_pass_b225 h 320 = some h' ∧ Sm xA n m p b no O h' (mEnd (mIt mGlut1 4 0 (mIt mBoat1 b 0 (mIt (mDry1 (mIt mPeel1 p 0 g 6 (mIt mPeel1 p 0 g 0 11 % 12).toNat)) m 0 (mIt mPeel1 p 0 g))))) ∧ Fx xA 11 440 h h' := by
  have hN' := hNm
  unfold Nm at hN'
  obtain ⟨h1, e1, e2, e3, e4⟩ := loopM (n := n) (m := m) (p := p) (b := b) (no := no) (O := O) (fun fu h x => f_Sim_pass_l235 fu h 320 (335 + n + m) (iI (p : Int)) x) (fun h => f_Sim_pass_b235 (fun _ _ _ _ _ => none) h 320 (335 + n + m) (iI (p : Int)) (iI (p : Int))) mPeel1 p (fun i g => Iv n m p b T C (Pb + 9 * (i : Int)) g) 2 65 (by
    intro fu i h g hi hv hs
    obtain ⟨h', d1, d2, d3⟩ := simPeel_E hNm hs hv hi (f_Sim_pass_l235 fu)
    exact ⟨h', d1, d2, d3, (hv.peel hNm hT0 hi).mono (Int.le_refl _) (Int.le_refl _) (by omega)⟩) (by
    intro fu h g _ hs
    show f_Sim_pass_b235 (f_Sim_pass_l235 fu) h 320 (335 + n + m) (iI (p : Int)) (iI (p : Int)) = _
    simp (disch := first | decide | omega) only [f_Sim_pass_b235, if_pos, iI_lt, iI_le, iI_eq, iI_ix, Int.toNat_natCast, toNat_L]) p 0 FU h g (by omega) (by unfold FU; omega) (hv.mono (Int.le_refl _) (Int.le_refl _) (by omega)) hs
  have hM := hs.1
  have hM2 := e2.1
  generalize mIt mPeel1 p 0 g = g1 at *
  have hS4 := e4.1
  unfold IvSc at hS4
  obtain ⟨s, hs12⟩ : ∃ s : Nat, g1 0 11 % 12 = (s : Int) := ⟨(g1 0 11 % 12).toNat, by omega⟩
  have hsh := e4.2.1 s (by omega)
  have esh := e2.sh (s := s) (by omega)
  have eho := e2.hour
  obtain ⟨h2, d1, d2, d3⟩ := simRacks_E hNm e2 e4 hT0 hT hC (by omega) hsh.1 hsh.2
  rw [hs12, Int.toNat_natCast]
  refine ⟨h2, ?_, d2, (e3.trans d3).mono (by omega) (by omega)⟩
  have e1' : f_Sim_pass_b225 h 320 = f_Sim_pass_l235 FU h 320 (335 + n + m) (iI (p : Int)) (iI 0) := by
    clear e1 e2 e3 e4 d1 d2 d3
    simp (disch := first | decide | omega) only [f_Sim_pass_b225, Nat.add_zero, true_and, and_true, gd_T, bn_S, bv_S, lq_E, wI_s, sI_s, hI_s, hT_s, hL_s, hR_s, hJ_s, hN_s, hU_s, nI_i, cst_L, z_i, iI_lt, iI_le, iI_eq, iI_ix, Int.toNat_natCast, toNat_L, if_neg, if_pos, gd_P, inb, ix, hM.t, hM.r15, hM.tpe, hM.lpe]
    all_goals rfl
  refine e1'.trans (e1.trans (Eq.trans ?_ d1))
  clear e1 e1' e2 e3 e4 d1 d2 d3 hsh hM
  simp (disch := first | decide | omega) only [f_Sim_pass_b235, Nat.add_zero, true_and, and_true, gd_T, bn_S, bv_S, lq_E, wI_s, sI_s, hI_s, hT_s, hL_s, hR_s, hJ_s, hN_s, hU_s, nI_i, cst_L, z_i, iI_sub, iI_mul, iI_div, emod_L, hs12, iI_lt, iI_le, iI_eq, iI_ix, Int.toNat_natCast, toNat_L, if_neg, if_pos, gd_P, inb, ix, hM2.t, hM2.r7, hM2.tsh, hM2.lsh, esh, eho]
  all_goals rfl
theorem simHour_E (hNm : Nm n m p b) (hs : Sm xA n m p b no O h g) (hv : Iv n m p b T C Pb g) (hT0 : 0 ≤ T) (hT : T ≤ 9000) (hC : C ≤ 900000) (hPb : Pb ≤ 800000) (hno : no ≤ 100) (hW : ∀ i, i < no → Wk n m p b (O i)) :
    ∃ h', f_Sim_pass h 320 = some h' ∧ Sm xA n m p b no O h' (mHour n m p b O no g) ∧ Fx xA 11 440 h h' := by
  have hN' := hNm
  unfold Nm at hN'
  have hM := hs.1
  unfold mHour
  dsimp only
  obtain ⟨h1, e1, e2, e3, e4⟩ := simRest_E hNm hs hv
  generalize mIt mRest1 p 0 g = g0 at *
  obtain ⟨h2, d1, d2, d3, d4⟩ := loopM (n := n) (m := m) (p := p) (b := b) (no := no) (O := O) (fun fu h x => f_Sim_pass_l42 fu h 320 (337 + n + m + p + b) (iI (no : Int)) x) (fun h => f_Sim_pass_b42 (fun _ _ _ _ _ => none) h 320 (337 + n + m + p + b) (iI (no : Int)) (iI (no : Int))) (fun i => mOrder n m p b (O i)) no (fun i g => Iv n m p b T C Pb g) 0 0 (by
    intro fu i h g hi hv hs
    obtain ⟨F, k1, k2, k3⟩ := simOrder_S hNm hs hv (by omega) (by omega) (by omega) hi hno (hW i hi) (f_Sim_pass_l42 fu)
    exact ⟨sI h F, k1, k2, k3.x hs.ax, mOrder_Iv hNm hv (hW i hi)⟩) (by
    intro fu h g _ hs
    show f_Sim_pass_b42 (f_Sim_pass_l42 fu) h 320 (337 + n + m + p + b) (iI (no : Int)) (iI (no : Int)) = _
    simp (disch := first | decide | omega) only [f_Sim_pass_b42, if_pos, iI_lt, iI_le, iI_eq, iI_ix, Int.toNat_natCast, toNat_L]) no 0 FU h1 g0 (by omega) (by unfold FU; omega) e4 e2
  rw [show mIt (fun i => mOrder n m p b (O i)) no 0 g0 = mOrders n m p b O no g0 from rfl] at d2 d4
  generalize mOrders n m p b O no g0 = g1 at *
  have hM1 := e2.1
  have hM2 := d2.1
  have hS4 := d4.1
  unfold IvSc at hS4
  have eho := d2.hour
  have s1 : f_Sim_pass h 320 = f_Sim_pass_l10 FU h 320 (335 + n + m) (iI (p : Int)) (iI 0) := by
    clear e1 e2 e3 e4 d1 d2 d3 d4
    simp (disch := first | decide | omega) only [f_Sim_pass, Nat.add_zero, true_and, and_true, gd_T, bn_S, bv_S, lq_E, wI_s, sI_s, hI_s, hT_s, hL_s, hR_s, hJ_s, hN_s, hU_s, nI_i, cst_L, z_i, iI_lt, iI_le, iI_eq, iI_ix, Int.toNat_natCast, toNat_L, if_neg, if_pos, gd_P, inb, ix, hM.t, hM.r15, hM.tpe, hM.lpe]
    all_goals rfl
  have s2 : f_Sim_pass_b10 (fun _ _ _ _ _ => none) h1 320 (335 + n + m) (iI (p : Int)) (iI (p : Int)) = f_Sim_pass_l42 FU h1 320 (337 + n + m + p + b) (iI (no : Int)) (iI 0) := by
    clear e1 e2 e3 e4 d1 d2 d3 d4
    simp (disch := first | decide | omega) only [f_Sim_pass_b10, Nat.add_zero, true_and, and_true, gd_T, bn_S, bv_S, lq_E, wI_s, sI_s, hI_s, hT_s, hL_s, hR_s, hJ_s, hN_s, hU_s, nI_i, cst_L, z_i, iI_lt, iI_le, iI_eq, iI_ix, Int.toNat_natCast, toNat_L, if_neg, if_pos, gd_P, inb, ix, hM1.t, hM1.r17, hM1.tor, hM1.lor]
    all_goals rfl
  have fx := e3.trans d3
  obtain ⟨v, hv12⟩ : ∃ v : Int, g1 0 11 % 12 = v := ⟨_, rfl⟩
  have vb : 0 ≤ v ∧ v < 12 := by omega
  by_cases q : g1 0 11 % 12 = 0
  · obtain ⟨h3, k1, k2, k3, k4⟩ := simGrow_E hNm d2 d4
    have s3 : f_Sim_pass_b42 (fun _ _ _ _ _ => none) h2 320 (337 + n + m + p + b) (iI (no : Int)) (iI (no : Int)) = f_Sim_pass_l177 FU h2 320 332 (iI (n : Int)) (iI 0) := by
      clear e1 e2 e3 e4 d1 d2 d3 d4 s1 s2 k1 k2 k3 k4
      simp (disch := first | decide | omega) only [f_Sim_pass_b42, Nat.add_zero, true_and, and_true, gd_T, bn_S, bv_S, lq_E, wI_s, sI_s, hI_s, hT_s, hL_s, hR_s, hJ_s, hN_s, hU_s, nI_i, cst_L, z_i, iI_sub, iI_mul, iI_div, emod_L, q, not_true_eq_false, ↓reduceIte, iI_lt, iI_le, iI_eq, iI_ix, Int.toNat_natCast, toNat_L, if_neg, if_pos, gd_P, inb, ix, hM2.t, hM2.r12, hM2.tga, hM2.lga, eho]
      all_goals rfl
    rw [if_pos q]
    obtain ⟨h4, w1, w2, w3⟩ := simPeels_E hNm k2 k4 hT0 hT hC hPb
    exact ⟨h4, s1.trans (e1.trans (s2.trans (d1.trans (s3.trans (k1.trans w1))))), w2, ((fx.trans k3).trans w3).mono (by omega) (by omega)⟩
  · have s3 : f_Sim_pass_b42 (fun _ _ _ _ _ => none) h2 320 (337 + n + m + p + b) (iI (no : Int)) (iI (no : Int)) = f_Sim_pass_b225 h2 320 := by
      clear e1 e2 e3 e4 d1 d2 d3 d4 s1 s2
      rw [hv12] at q
      simp (disch := first | decide | omega) only [f_Sim_pass_b42, Nat.add_zero, true_and, and_true, gd_T, bn_S, bv_S, lq_E, wI_s, sI_s, hI_s, hT_s, hL_s, hR_s, hJ_s, hN_s, hU_s, nI_i, cst_L, z_i, iI_sub, iI_mul, iI_div, emod_L, hv12, iI_lt, iI_le, iI_eq, iI_ix, Int.toNat_natCast, toNat_L, if_neg, if_pos, gd_P, inb, ix, hM2.t, eho]
    rw [if_neg q]
    obtain ⟨h4, w1, w2, w3⟩ := simPeels_E hNm d2 d4 hT0 hT hC hPb
    exact ⟨h4, s1.trans (e1.trans (s2.trans (d1.trans (s3.trans w1)))), w2, (fx.trans w3).mono (by omega) (by omega)⟩
-- hours of both: the same model
theorem simBehind_E (hNm : Nm n m p b) (hno : no ≤ 100) (hC9 : 99999 ≤ C) (hC : C ≤ 900000) (hW : ∀ i, i < no → Wk n m p b (O i)) : ∀ (e j fu : Nat) (k : Nat) (T Pb : Int) (h : AH) (g : GM), e + j = k → k ≤ 1000 → e < fu → 0 ≤ T → T + e ≤ 9000 → Pb + 36 * e ≤ 800000 → Sm xA n m p b no O h g → Iv n m p b T C Pb g →
    ∃ h', f_Sim_behind_l2 fu h 320 (iI (k : Int)) (iI (j : Int)) = some (h', 320) ∧ Sm xA n m p b no O h' (mHrs n m p b O no e g) ∧ Fx xA (e * 11) (e * 440) h h' := by
  intro e
  induction e with
  | zero =>
    intro j fu k T Pb h g hj hk hf h0 hT hPb hs hv
    obtain ⟨fu, rfl⟩ : ∃ x, fu = x + 1 := ⟨fu - 1, by omega⟩
    obtain rfl : j = k := by omega
    refine ⟨h, ?_, hs, (Fx.refl h).mono (by omega) (by omega)⟩
    show f_Sim_behind_b2 (f_Sim_behind_l2 fu) h 320 (iI (j : Int)) (iI (j : Int)) = _
    simp (disch := first | decide | omega) only [f_Sim_behind_b2, if_pos, iI_lt, iI_le, iI_eq, iI_ix, Int.toNat_natCast, toNat_L]
  | succ e ih =>
    intro j fu k T Pb h g hj hk hf h0 hT hPb hs hv
    obtain ⟨fu, rfl⟩ : ∃ x, fu = x + 1 := ⟨fu - 1, by omega⟩
    obtain ⟨h1, d1, d2, d3⟩ := simHour_E hNm hs hv h0 (by omega) (by omega) (by omega) hno hW
    have hv1 := (hour_Iv hNm hv h0 hW).mono (Int.le_refl _) hC9 (Int.le_refl _)
    obtain ⟨h2, k1, k2, k3⟩ := ih (j + 1) fu k (T + 1) (Pb + 36) h1 _ (by omega) hk (by omega) (by omega) (by omega) (by omega) d2 hv1
    refine ⟨h2, ?_, k2, (d3.trans k3).mono ?_ ?_⟩
    · refine Eq.trans ?_ k1
      have hM := hs.1
      have hjj : ((j + 1 : Nat) : Int) = (j : Int) + 1 := rfl
      show f_Sim_behind_b2 (f_Sim_behind_l2 fu) h 320 (iI (k : Int)) (iI (j : Int)) = _
      simp (disch := first | decide | omega) only [f_Sim_behind_b2, Nat.add_zero, true_and, and_true, gd_T, bn_S, bv_S, lq_E, wI_s, sI_s, hI_s, hT_s, hL_s, hR_s, hJ_s, hN_s, hU_s, nI_L, z_i, o_i, iI_add, iI_sub, iI_mul, iI_neg, iI_lt, iI_le, iI_eq, iI_ix, Int.toNat_natCast, toNat_L, if_neg, if_pos, gd_P, inb, ix, hM.t, d1, hjj]
    · rw [Nat.succ_mul]; omega
    · rw [Nat.succ_mul]; omega
end

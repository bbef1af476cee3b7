/-! 38 L3: a rack dries, in the class -/
theorem gradeOf_E {h : AH} {t s : Int} (h1 : 1 ≤ t) (h2 : t ≤ 9) (h3 : 0 ≤ s) (h4 : s ≤ 1000000) : f_Rack_gradeOf h (iI t) (iI s) = some (h, iI (mGradeOf t s)) := by
  simp (disch := omega) only [f_Rack_gradeOf, Nat.add_zero, true_and, and_true, gd_T, bn_S, bv_S, lq_E, wI_s, sI_s, hI_s, hT_s, hL_s, hR_s, hJ_s, hN_s, hU_s, nI_L, z_i, o_i, iI_add, iI_sub, iI_mul, iI_neg, iI_div, max_E, min_E]
  rfl
theorem mGradeOf_b (t s : Int) : 0 ≤ mGradeOf t s ∧ mGradeOf t s < 4 := by unfold mGradeOf; omega
theorem RP.cnt {n m p b r : Nat} {F : Nat → Nat → Int32} {g : GM} (hP : RP n m p b r F g) {K : Nat} {t : Int} (hK : K < m) (ht : t ≤ mct g K) : RP n m p b r (up2 F (r + (11 + 5 * K)) 2 (iI t)) (up2 g (11 + 5 * K) 2 t) := by
  refine Ag.mono (Ag.up hP (11 + 5 * K) 2 (v := t) rfl) ?_
  intro c s hl
  unfold Lv at hl
  refine Or.inl ?_
  rcases hl with hl | hl | hl | hl | hl | hl
  · exact Or.inl hl
  · exact Or.inr (Or.inl hl)
  · exact Or.inr (Or.inr (Or.inl hl))
  · exact Or.inr (Or.inr (Or.inr (Or.inl hl)))
  · obtain ⟨l1, l2, l3, l4⟩ := hl
    have e : mct (up2 g (11 + 5 * K) 2 t) ((c - 11) / 5) = if (c - 11) / 5 = K then t else mct g ((c - 11) / 5) := by
      unfold mct
      by_cases q : (c - 11) / 5 = K
      · rw [if_pos q, q, up2_e]
      · rw [if_neg q, up2_n _ _ _ _ _ _ (by omega)]
    rw [e] at l4
    refine Or.inr (Or.inr (Or.inr (Or.inr (Or.inl ⟨l1, l2, l3, ?_⟩))))
    by_cases q : (c - 11) / 5 = K
    · rw [if_pos q] at l4
      rw [q]
      exact Int.lt_of_lt_of_le l4 ht
    · rw [if_neg q] at l4
      exact l4
  · exact Or.inr (Or.inr (Or.inr (Or.inr (Or.inr hl))))
def DryD (K j : Nat) (g : GM) : Prop := ∀ x : Nat, j ≤ x → (x : Int) < mct g K → 1 ≤ g (13 + 5 * K) x ∧ g (13 + 5 * K) x ≤ 9 ∧ 0 ≤ g (14 + 5 * K) x ∧ g (14 + 5 * K) x ≤ 30 ∧ 0 ≤ g (15 + 5 * K) x ∧ g (15 + 5 * K) x ≤ 10000
theorem letDry_l {n m p b r K : Nat} {sh : Int} (hm : m ≤ 4) (hK : K < m) (hs0 : 0 ≤ sh) (hs3 : sh ≤ 3) : ∀ (e j t fu : Nat) (h : AH) (g : GM), e + j = (mct g K).toNat → e < fu → t ≤ j → 0 ≤ mct g K → mct g K ≤ 60 → DryD K j g → SkR h r → RP n m p b r (hI h) g →
    ∃ F, f_Rack_letDry_l5 fu h (r + (11 + 5 * K)) (iI sh) (r + 5) (iI (t : Int)) (iI (j : Int)) = some (sI h F) ∧ RP n m p b r F (mDry2 K e j t sh g) ∧ Fm r (hI h) F := by
  intro e
  induction e with
  | zero =>
    intro j t fu h g he hf ht h0 h60 hD hS hP
    obtain ⟨fu, rfl⟩ : ∃ x, fu = x + 1 := ⟨fu - 1, by omega⟩
    unfold mct at he h0 h60
    refine ⟨_, ?_, RP.cnt hP hK (t := (t : Int)) (by unfold mct; omega), (Fm.refl _ _).up _ _ _ (by omega)⟩
    show f_Rack_letDry_b5 (f_Rack_letDry_l5 fu) h (r + (11 + 5 * K)) (iI sh) (r + 5) (iI (t : Int)) (iI (j : Int)) = _
    simp (disch := first | decide | omega) only [f_Rack_letDry_b5, f_Rack_letDry_b96, Nat.add_zero, true_and, and_true, gd_T, bn_S, bv_S, lq_E, wI_s, sI_s, hI_s, hT_s, hL_s, hR_s, hJ_s, hN_s, hU_s, nI_L, z_i, o_i, iI_add, iI_sub, iI_mul, iI_neg, iI_lt, iI_le, iI_eq, iI_ix, Int.toNat_natCast, hS.kT, hP.ra, if_pos, gd_P]
  | succ e ih =>
    intro j t fu h g he hf ht h0 h60 hD hS hP
    obtain ⟨fu, rfl⟩ : ∃ x, fu = x + 1 := ⟨fu - 1, by omega⟩
    have d := hD j (by omega) (by omega)
    have step : ∃ F, f_Rack_letDry_b5 (f_Rack_letDry_l5 fu) h (r + (11 + 5 * K)) (iI sh) (r + 5) (iI (t : Int)) (iI (j : Int)) = f_Rack_letDry_b50 (f_Rack_letDry_l5 fu) (sI h F) (r + (11 + 5 * K)) (iI sh) (r + 5) (iI (t : Int)) (iI (j : Int)) ∧ RP n m p b r F (mAge K sh j g) ∧ Fm r (hI h) F := by
      have hc : (j : Int) < g (11 + 5 * K) 2 := by unfold mct at he h0; omega
      unfold mct at h60
      have e14 := hP.b3 K j hK hc
      have e15 := hP.b4 K j hK hc
      unfold mAge
      by_cases c : sh = 0
      · rw [if_pos c]
        refine ⟨_, ?_, hP.up (by omega) (15 + 5 * K) j (v := g (15 + 5 * K) j + 1) rfl (by omega), (Fm.refl _ _).up _ _ _ (by omega)⟩
        simp (disch := first | decide | omega) only [f_Rack_letDry_b5, Nat.add_zero, true_and, and_true, gd_T, bn_S, bv_S, lq_E, wI_s, sI_s, hI_s, hT_s, hL_s, hR_s, hJ_s, hN_s, hU_s, nI_L, z_i, o_i, iI_add, iI_sub, iI_mul, iI_neg, iI_lt, iI_le, iI_eq, iI_ix, Int.toNat_natCast, if_neg, if_pos, gd_P, inb, ix, hS.t, hS.f0, hS.f1, hS.f2, hS.f3, hS.f4, hS.f5, hS.at1, hS.al1, hS.at2, hS.al2, hS.at3, hS.al3, hS.at4, hS.al4, hS.at5, hS.al5, hS.at6, hS.al6, hS.gR, hS.gT, hS.kR, hS.kT, hS.k3, hS.k4, hS.k5, hS.k6, hS.kt1, hS.kt2, hS.kt3, hS.kt4, hS.kl1, hS.kl2, hS.kl3, hS.kl4, hS.pR, hS.pT, hS.bR, hS.bT, hS.qR, hS.qT, hP.ra, e15]
      · rw [if_neg c]
        refine ⟨_, ?_, hP.up (by omega) (14 + 5 * K) j (v := g (14 + 5 * K) j + sh) rfl (by omega), (Fm.refl _ _).up _ _ _ (by omega)⟩
        simp (disch := first | decide | omega) only [f_Rack_letDry_b5, Nat.add_zero, true_and, and_true, gd_T, bn_S, bv_S, lq_E, wI_s, sI_s, hI_s, hT_s, hL_s, hR_s, hJ_s, hN_s, hU_s, nI_L, z_i, o_i, iI_add, iI_sub, iI_mul, iI_neg, iI_lt, iI_le, iI_eq, iI_ix, Int.toNat_natCast, if_neg, if_pos, gd_P, inb, ix, hS.t, hS.f0, hS.f1, hS.f2, hS.f3, hS.f4, hS.f5, hS.at1, hS.al1, hS.at2, hS.al2, hS.at3, hS.al3, hS.at4, hS.al4, hS.at5, hS.al5, hS.at6, hS.al6, hS.gR, hS.gT, hS.kR, hS.kT, hS.k3, hS.k4, hS.k5, hS.k6, hS.kt1, hS.kt2, hS.kt3, hS.kt4, hS.kl1, hS.kl2, hS.kl3, hS.kl4, hS.pR, hS.pT, hS.bR, hS.bT, hS.qR, hS.qT, hP.ra, e14]
    obtain ⟨F1, q1, P1, R1⟩ := step
    have hct : mct (mAge K sh j g) K = mct g K := by unfold mAge mct; split <;> rw [up2_n _ _ _ _ _ _ (by omega)]
    have d1 : g (13 + 5 * K) j = mAge K sh j g (13 + 5 * K) j ∧ 0 ≤ mAge K sh j g (14 + 5 * K) j ∧ mAge K sh j g (14 + 5 * K) j ≤ 33 ∧ 0 ≤ mAge K sh j g (15 + 5 * K) j ∧ mAge K sh j g (15 + 5 * K) j ≤ 10001 := by
      unfold mAge
      split <;> simp (disch := omega) only [up2_n, up2_e, true_and] <;> omega
    have hD1 : DryD K (j + 1) (mAge K sh j g) := by
      intro x hx hx2
      rw [hct] at hx2
      have := hD x (by omega) hx2
      unfold mAge
      split <;> simp (disch := omega) only [up2_n] <;> exact this
    rw [show mDry2 K (e + 1) j t sh g = if 3 * mAge K sh j g (13 + 5 * K) j ≤ mAge K sh j g (14 + 5 * K) j then mDry2 K e (j + 1) t sh (mStore K j (mAge K sh j g)) else mDry2 K e (j + 1) (t + 1) sh (mMove K t j (mAge K sh j g)) from rfl]
    rw [show f_Rack_letDry_l5 (fu + 1) h (r + (11 + 5 * K)) (iI sh) (r + 5) (iI (t : Int)) (iI (j : Int)) = f_Rack_letDry_b5 (f_Rack_letDry_l5 fu) h (r + (11 + 5 * K)) (iI sh) (r + 5) (iI (t : Int)) (iI (j : Int)) from rfl, q1]
    generalize mAge K sh j g = g1 at *
    have hc : (j : Int) < mct g1 K := by rw [hct]; omega
    have e12 := P1.b1 K j hK hc
    have e13 := P1.b2 K j hK hc
    have e14 := P1.b3 K j hK hc
    have e15 := P1.b4 K j hK hc
    by_cases c : 3 * g1 (13 + 5 * K) j ≤ g1 (14 + 5 * K) j
    · rw [if_pos c]
      obtain ⟨w1, w2⟩ := mGradeOf_b (g1 (13 + 5 * K) j) (g1 (15 + 5 * K) j)
      have f1 := gradeOf_E (h := sI h F1) (t := g1 (13 + 5 * K) j) (s := g1 (15 + 5 * K) j) (by omega) (by omega) (by omega) (by omega)
      have hst : ∃ F, f_Rack_storeAt (sI h F1) (r + (11 + 5 * K)) (iI (j : Int)) (r + 5) = some (sI h F) ∧ RP n m p b r F (mStore K j g1) ∧ Fm r F1 F := by
        unfold mStore
        refine ⟨_, ?_, (P1.up (by omega) (43 + (mGradeOf (g1 (13 + 5 * K) j) (g1 (15 + 5 * K) j)).toNat) 0 (v := g1 (43 + (mGradeOf (g1 (13 + 5 * K) j) (g1 (15 + 5 * K) j)).toNat) 0 + g1 (12 + 5 * K) j) rfl (by omega)).up (by omega) (11 + 5 * K) 1 (v := g1 (11 + 5 * K) 1 - g1 (12 + 5 * K) j) rfl (by omega), ((Fm.refl _ _).up _ _ _ (by omega)).up _ _ _ (by omega)⟩
        generalize mGradeOf (g1 (13 + 5 * K) j) (g1 (15 + 5 * K) j) = gr at *
        simp (disch := first | decide | omega) only [f_Rack_storeAt, f_Rack_storeAt_b43, Nat.add_zero, true_and, and_true, gd_T, bn_S, bv_S, lq_E, wI_s, sI_s, hI_s, hT_s, hL_s, hR_s, hJ_s, hN_s, hU_s, nI_L, z_i, o_i, iI_add, iI_sub, iI_mul, iI_neg, iI_lt, iI_le, iI_eq, iI_ix, Int.toNat_natCast, if_neg, if_pos, gd_P, inb, ix, hS.t, hS.f0, hS.f1, hS.f2, hS.f3, hS.f4, hS.f5, hS.at1, hS.al1, hS.at2, hS.al2, hS.at3, hS.al3, hS.at4, hS.al4, hS.at5, hS.al5, hS.at6, hS.al6, hS.gR, hS.gT, hS.kR, hS.kT, hS.k3, hS.k4, hS.k5, hS.k6, hS.kt1, hS.kt2, hS.kt3, hS.kt4, hS.kl1, hS.kl2, hS.kl3, hS.kl4, hS.pR, hS.pT, hS.bR, hS.bT, hS.qR, hS.qT, P1.ra, P1.gr, e12, e13, e15, f1, up2_e, up2_n]
      obtain ⟨F2, q2, P2, R2⟩ := hst
      have hct2 : mct (mStore K j g1) K = mct g1 K := by unfold mStore mct; simp (disch := omega) only [up2_n]
      obtain ⟨F3, q3, P3, R3⟩ := ih (j + 1) t fu (sI h F2) (mStore K j g1) (by rw [hct2, hct]; omega) (by omega) (by omega) (by rw [hct2, hct]; exact h0) (by rw [hct2, hct]; exact h60) (fun x hx hx2 => by
        rw [hct2] at hx2
        have := hD1 x hx hx2
        unfold mStore
        simp (disch := omega) only [up2_n]
        exact this) hS P2
      refine ⟨F3, ?_, P3, (R1.trans R2).trans R3⟩
      refine Eq.trans ?_ q3
      have nd : ¬ g1 (14 + 5 * K) j < 3 * g1 (13 + 5 * K) j := by omega
      simp (disch := first | decide | omega) only [f_Rack_letDry_b50, f_Rack_isDry, f_Rack_letDry_b90, Nat.add_zero, true_and, and_true, gd_T, bn_S, bv_S, lq_E, wI_s, sI_s, hI_s, hT_s, hL_s, hR_s, hJ_s, hN_s, hU_s, nI_L, z_i, o_i, iI_add, iI_sub, iI_mul, iI_neg, iI_lt, iI_le, iI_eq, iI_ix, Int.toNat_natCast, if_neg, if_pos, gd_P, inb, ix, hS.t, hS.f0, hS.f1, hS.f2, hS.f3, hS.f4, hS.f5, hS.at1, hS.al1, hS.at2, hS.al2, hS.at3, hS.al3, hS.at4, hS.al4, hS.at5, hS.al5, hS.at6, hS.al6, hS.gR, hS.gT, hS.kR, hS.kT, hS.k3, hS.k4, hS.k5, hS.k6, hS.kt1, hS.kt2, hS.kt3, hS.kt4, hS.kl1, hS.kl2, hS.kl3, hS.kl4, hS.pR, hS.pT, hS.bR, hS.bT, hS.qR, hS.qT, e13, e14, q2]
      rfl
    · rw [if_neg c]
      have hmv : ∃ F, f_Rack_moveTo (sI h F1) (r + (11 + 5 * K)) (iI (t : Int)) (iI (j : Int)) = some (sI h F) ∧ RP n m p b r F (mMove K t j g1) ∧ Fm r F1 F := by
        unfold mMove
        refine ⟨_, ?_, (((P1.up (by omega) (12 + 5 * K) t (v := g1 (12 + 5 * K) j) rfl (by omega)).up (by omega) (13 + 5 * K) t (v := g1 (13 + 5 * K) j) rfl (by omega)).up (by omega) (14 + 5 * K) t (v := g1 (14 + 5 * K) j) rfl (by omega)).up (by omega) (15 + 5 * K) t (v := g1 (15 + 5 * K) j) rfl (by omega), ((((Fm.refl _ _).up _ _ _ (by omega)).up _ _ _ (by omega)).up _ _ _ (by omega)).up _ _ _ (by omega)⟩
        simp (disch := first | decide | omega) only [f_Rack_moveTo, Nat.add_zero, true_and, and_true, gd_T, bn_S, bv_S, lq_E, wI_s, sI_s, hI_s, hT_s, hL_s, hR_s, hJ_s, hN_s, hU_s, nI_L, z_i, o_i, iI_add, iI_sub, iI_mul, iI_neg, iI_lt, iI_le, iI_eq, iI_ix, Int.toNat_natCast, if_neg, if_pos, gd_P, inb, ix, hS.t, hS.f0, hS.f1, hS.f2, hS.f3, hS.f4, hS.f5, hS.at1, hS.al1, hS.at2, hS.al2, hS.at3, hS.al3, hS.at4, hS.al4, hS.at5, hS.al5, hS.at6, hS.al6, hS.gR, hS.gT, hS.kR, hS.kT, hS.k3, hS.k4, hS.k5, hS.k6, hS.kt1, hS.kt2, hS.kt3, hS.kt4, hS.kl1, hS.kl2, hS.kl3, hS.kl4, hS.pR, hS.pT, hS.bR, hS.bT, hS.qR, hS.qT, e12, e13, e14, e15, up2_e, up2_n]
      obtain ⟨F2, q2, P2, R2⟩ := hmv
      have hct2 : mct (mMove K t j g1) K = mct g1 K := by unfold mMove mct; simp (disch := omega) only [up2_n]
      obtain ⟨F3, q3, P3, R3⟩ := ih (j + 1) (t + 1) fu (sI h F2) (mMove K t j g1) (by rw [hct2, hct]; omega) (by omega) (by omega) (by rw [hct2, hct]; exact h0) (by rw [hct2, hct]; exact h60) (fun x hx hx2 => by
        rw [hct2] at hx2
        have := hD1 x hx hx2
        unfold mMove
        simp (disch := omega) only [up2_n]
        exact this) hS P2
      refine ⟨F3, ?_, P3, (R1.trans R2).trans R3⟩
      refine Eq.trans ?_ q3
      simp (disch := first | decide | omega) only [f_Rack_letDry_b50, f_Rack_isDry, f_Rack_letDry_b90, Nat.add_zero, true_and, and_true, gd_T, bn_S, bv_S, lq_E, wI_s, sI_s, hI_s, hT_s, hL_s, hR_s, hJ_s, hN_s, hU_s, nI_L, z_i, o_i, iI_add, iI_sub, iI_mul, iI_neg, iI_lt, iI_le, iI_eq, iI_ix, Int.toNat_natCast, if_neg, if_pos, gd_P, inb, ix, hS.t, hS.f0, hS.f1, hS.f2, hS.f3, hS.f4, hS.f5, hS.at1, hS.al1, hS.at2, hS.al2, hS.at3, hS.al3, hS.at4, hS.al4, hS.at5, hS.al5, hS.at6, hS.al6, hS.gR, hS.gT, hS.kR, hS.kT, hS.k3, hS.k4, hS.k5, hS.k6, hS.kt1, hS.kt2, hS.kt3, hS.kt4, hS.kl1, hS.kl2, hS.kl3, hS.kl4, hS.pR, hS.pT, hS.bR, hS.bT, hS.qR, hS.qT, e13, e14, q2]
      rfl

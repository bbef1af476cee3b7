/-! 76 L3: the sim's hour, X: a bundle is laid -/
section
variable {xA n m p b no : Nat} {O : Nat → Nat → Int} {T C Pb : Int} {h : AH} {g : GM}
-- the heap behind it: row at the next place, bundle behind it
def hLay (n K J : Nat) (h : AH) (R : Nat → Nat → Nat) (many thick : Int) : AH :=
  sR (sI (hA (sR (hA h 109 (J + 1)) R) 101 4) (up2 (up2 (up2 (up2 (up1 (up1 (hI h) (hN h) (fun _ => 0)) (hN h + 1) (fun _ => 0)) (hN h + 1) 0 (iI many)) (hN h + 1) 1 (iI thick)) (hN h + 1) 2 (iI 0)) (hN h + 1) 3 (iI 0)))
    (up2 (up2 (up1 R (hN h + 1) (fun _ => 0)) (hN h) J (hN h + 1)) (334 + n) K (hN h))
theorem Sm.lay (hNm : Nm n m p b) (hs : Sm xA n m p b no O h g) {K : Nat} (hK : K < m) (hc : 0 ≤ mct g K) {J : Nat} (hJ : mct g K = (J : Int)) {R : Nat → Nat → Nat} (hR1 : ∀ c s, c ≠ hN h → R c s = hR h c s) (hR2 : ∀ x, x < J → R (hN h) x = hR h (hR h (334 + n) K) x) (many thick : Int) :
    Sm xA n m p b no O (hLay n K J h R many thick) (mLay K many thick g) := by
  have hN' := hNm
  unfold Nm at hN'
  have tb := hs.2.2.2.2.2.1
  have dd := hs.2.2.2.1
  obtain ⟨b1, b2, b3, b4, b5⟩ := hs.2.2.1 K hK
  have tb' := tb
  unfold tp at tb'
  have jn : (mct g K).toNat = J := by omega
  have mL : mct (mLay K many thick g) K = ((J + 1 : Nat) : Int) := by
    unfold mct at hJ
    unfold mct mLay
    rw [up2_n _ _ _ _ _ _ (by omega), up2_e, hJ]
    rfl
  have row : hR (hLay n K J h R many thick) (334 + n) K = hN h := by unfold hLay; rw [hR_r, up2_e]
  have cell1 : ∀ y, y < J → hR (hLay n K J h R many thick) (hN h) y = hR h (hR h (334 + n) K) y := fun y hy => by
    unfold hLay
    rw [hR_r, up2_n _ _ _ _ _ _ (by omega), up2_n _ _ _ _ _ _ (by omega), up1_n _ _ _ _ (by omega)]
    exact hR2 y hy
  have cell2 : hR (hLay n K J h R many thick) (hN h) J = hN h + 1 := by
    unfold hLay
    rw [hR_r, up2_n _ _ _ _ _ _ (by omega), up2_e]
  have eT : ∀ c, c < hN h → hT (hLay n K J h R many thick) c = hT h c := fun c hc => by
    unfold hLay
    rw [hT_r, hT_s, hT_a, hN_r, hN_a, up1_n _ _ _ _ (by omega), hT_r, hT_a, up1_n _ _ _ _ (by omega)]
  have eL : ∀ c, c < hN h → hL (hLay n K J h R many thick) c = hL h c := fun c hc => by
    unfold hLay
    rw [hL_r, hL_s, hL_a, hN_r, hN_a, up1_n _ _ _ _ (by omega), hL_r, hL_a, up1_n _ _ _ _ (by omega)]
  have eI : ∀ c s, c < hN h → hI (hLay n K J h R many thick) c s = hI h c s := fun c s hc => by
    unfold hLay
    rw [hI_r, hI_s, up2_n _ _ _ _ _ _ (by omega), up2_n _ _ _ _ _ _ (by omega), up2_n _ _ _ _ _ _ (by omega), up2_n _ _ _ _ _ _ (by omega), up1_n _ _ _ _ (by omega), up1_n _ _ _ _ (by omega)]
  refine Sm.rack hNm hs hK ?_ eT eL eI ?_ ?_ ?_ ?_ ?_
  · unfold hLay
    rw [hN_r, hN_s, hN_a, hN_r, hN_a]; omega
  · intro c s h1 h2
    unfold hLay
    rw [hR_r, up2_n _ _ _ _ _ _ h2, up2_n _ _ _ _ _ _ (by omega), up1_n _ _ _ _ (by omega)]
    exact hR1 c s (by omega)
  · intro c s h1 h2
    unfold mLay
    rw [up2_n _ _ _ _ _ _ (by omega), up2_n _ _ _ _ _ _ (by omega), up2_n _ _ _ _ _ _ (by omega), up2_n _ _ _ _ _ _ (by omega), up2_n _ _ _ _ _ _ (by omega), up2_n _ _ _ _ _ _ (by omega)]
  · unfold SB1
    rw [mL, row]
    refine ⟨?_, ?_, ?_, by omega, fun y hy => ?_⟩
    · unfold hLay
      rw [hT_r, hT_s, hT_a, hN_r, hN_a, up1_n _ _ _ _ (by omega), hT_r, hT_a, up1_e]
    · unfold hLay
      rw [hL_r, hL_s, hL_a, hN_r, hN_a, up1_n _ _ _ _ (by omega), hL_r, hL_a, up1_e]
      rfl
    · unfold hLay
      rw [hN_r, hN_s, hN_a, hN_r, hN_a]; omega
    · by_cases q : y = J
      · subst q
        rw [cell2]
        unfold mLay
        rw [jn]
        refine ⟨?_, ?_, by omega, ?_, ?_, ?_, ?_, ?_⟩
        · unfold hLay
          rw [hT_r, hT_s, hT_a, hN_r, hN_a, up1_e]
        · unfold hLay
          rw [hL_r, hL_s, hL_a, hN_r, hN_a, up1_e]
        · unfold hLay
          rw [hN_r, hN_s, hN_a, hN_r, hN_a]; omega
        · unfold hLay
          rw [hI_r, hI_s]
          simp (disch := omega) only [up2_n, up2_e]
        · unfold hLay
          rw [hI_r, hI_s]
          simp (disch := omega) only [up2_n, up2_e]
        · unfold hLay
          rw [hI_r, hI_s]
          simp (disch := omega) only [up2_n, up2_e]
        · unfold hLay
          rw [hI_r, hI_s]
          simp (disch := omega) only [up2_n, up2_e]
      · have yJ : y < J := by omega
        obtain ⟨d1, d2, d3, d4, d5, d6, d7, d8⟩ := b5 y (by omega)
        rw [cell1 y yJ, eT _ d4, eL _ d4, eI _ _ d4, eI _ _ d4, eI _ _ d4, eI _ _ d4]
        unfold mLay
        rw [jn]
        simp (disch := omega) only [up2_n]
        refine ⟨d1, d2, d3, ?_, d5, d6, d7, d8⟩
        unfold hLay
        rw [hN_r, hN_s, hN_a, hN_r, hN_a]; omega
  · intro y hy
    rw [mL] at hy
    rw [row]
    by_cases q : y = J
    · subst q; rw [cell2]; exact Or.inl (by omega)
    · exact Or.inr ⟨y, by omega, cell1 y (by omega)⟩
  · intro y y' hy hy' he
    rw [mL] at hy hy'
    rw [row] at he
    by_cases q : y = J
    · by_cases q' : y' = J
      · omega
      · exfalso
        rw [q, cell2, cell1 y' (by omega)] at he
        have := (b5 y' (by omega)).2.2.2.1
        omega
    · by_cases q' : y' = J
      · exfalso
        rw [q', cell2, cell1 y (by omega)] at he
        have := (b5 y (by omega)).2.2.2.1
        omega
      · rw [cell1 y (by omega), cell1 y' (by omega)] at he
        exact (dd K K y y' hK hK (by omega) (by omega) he).2
theorem peelC_l (hNm : Nm n m p b) (hs : Sm xA n m p b no O h g) {K : Nat} (hK : K < m) {J : Nat} (hJ : mct g K = (J : Int)) (hJ60 : J ≤ 60) (k235 : AH → Nat → Nat → Int32 → Int32 → Option AH) (a1 : Nat) (a2 a3 : Int32) (a4 : Nat) (a5 : Int32) : ∀ (e j fu : Nat) (R : Nat → Nat → Nat), e + j = J → e < fu →
    (∀ c s, c ≠ hN h → R c s = hR h c s) → (∀ x, x < j → R (hN h) x = hR h (hR h (334 + n) K) x) →
    ∃ R', f_Sim_pass_l366 k235 fu (sR (hA h 109 (J + 1)) R) 320 a1 a2 a3 a4 a5 (hR h (334 + n) K) (hN h) (iI (j : Int)) = f_Sim_pass_b366 k235 (fun _ _ _ _ _ _ _ _ _ _ => none) (sR (hA h 109 (J + 1)) R') 320 a1 a2 a3 a4 a5 (hR h (334 + n) K) (hN h) (iI (J : Int)) ∧
      (∀ c s, c ≠ hN h → R' c s = hR h c s) ∧ (∀ x, x < J → R' (hN h) x = hR h (hR h (334 + n) K) x) := by
  obtain ⟨b1, b2, b3, b4, b5⟩ := hs.2.2.1 K hK
  have jn : (mct g K).toNat = J := by omega
  rw [jn] at b2
  intro e
  induction e with
  | zero =>
    intro j fu R he hf hR1 hR2
    obtain ⟨fu, rfl⟩ : ∃ x, fu = x + 1 := ⟨fu - 1, by omega⟩
    obtain rfl : j = J := by omega
    refine ⟨R, ?_, hR1, hR2⟩
    show f_Sim_pass_b366 k235 (f_Sim_pass_l366 k235 fu) (sR (hA h 109 (j + 1)) R) 320 a1 a2 a3 a4 a5 (hR h (334 + n) K) (hN h) (iI (j : Int)) = _
    unfold f_Sim_pass_b366
    have c1 : nI (hL (sR (hA h 109 (j + 1)) R) (hR h (334 + n) K)) ≤ iI (j : Int) := by
      rw [hL_r, hL_a, up1_n _ _ _ _ (by omega), b2, nI_i, iI_le (by omega) (by omega) (by omega) (by omega)]
      omega
    simp only [if_pos c1]
  | succ e ih =>
    intro j fu R he hf hR1 hR2
    obtain ⟨fu, rfl⟩ : ∃ x, fu = x + 1 := ⟨fu - 1, by omega⟩
    obtain ⟨d1, -, -, d4, -⟩ := b5 j (by omega)
    have rj : R (hR h (334 + n) K) j = hR h (hR h (334 + n) K) j := hR1 _ _ (by omega)
    have hjj : ((j + 1 : Nat) : Int) = (j : Int) + 1 := rfl
    obtain ⟨R', k1, k2, k3⟩ := ih (j + 1) fu (up2 R (hN h) j (hR h (hR h (334 + n) K) j)) (by omega) (by omega) (fun c s hc => by rw [up2_n _ _ _ _ _ _ (fun y => hc y.1)]; exact hR1 c s hc) (fun x hx => by
      by_cases e : x = j
      · rw [e, up2_e]
      · rw [up2_n _ _ _ _ _ _ (by omega)]
        exact hR2 x (by omega))
    refine ⟨R', ?_, k2, k3⟩
    refine Eq.trans ?_ k1
    show f_Sim_pass_b366 k235 (f_Sim_pass_l366 k235 fu) (sR (hA h 109 (J + 1)) R) 320 a1 a2 a3 a4 a5 (hR h (334 + n) K) (hN h) (iI (j : Int)) = _
    clear ih k1 k2 k3 hR1 hR2 b5
    simp (disch := first | decide | omega) only [f_Sim_pass_b366, Nat.add_zero, true_and, and_true, gd_T, bn_S, bv_S, lq_E, wI_s, sI_s, hI_s, hT_s, hL_s, hR_s, hJ_s, hN_s, hU_s, wR_r, sR_r, sR_s, hR_r, hT_r, hL_r, hI_r, hJ_r, hN_r, hU_r, hN_a, hU_a, hT_a, hL_a, hI_a, hR_a, hJ_a, up1_e, up1_n, nI_i, cst_L, z_i, iI_add, iI_lt, iI_le, iI_eq, iI_ix, Int.toNat_natCast, toNat_L, if_neg, if_pos, gd_P, inb, ix, b1, b2, d1, rj, hjj]
end

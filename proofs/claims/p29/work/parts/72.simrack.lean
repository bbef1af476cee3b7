/-! 72 L3: the sim: a bundle is written; a rack has a new row -/
section
variable {xA n m p b no : Nat} {O : Nat → Nat → Int} {T C Pb : Int} {h : AH} {g : GM}
-- a bundle's dryness or sun
theorem Sm.bund (hNm : Nm n m p b) (hs : Sm xA n m p b no O h g) {K j w : Nat} (hK : K < m) (hj : (j : Int) < mct g K) (hw : w < 4) {v : Int} : Sm xA n m p b no O (sI h (up2 (hI h) (hR h (hR h (334 + n) K) j) w (iI v))) (up2 g (12 + w + 5 * K) j v) := by
  have hN' := hNm
  unfold Nm at hN'
  obtain ⟨hM, hA, hB, hD, hO, hT, hX⟩ := hs
  obtain ⟨-, -, -, -, c5⟩ := hB K hK
  obtain ⟨-, -, c3, c4, -⟩ := c5 j hj
  have hm : ∀ q', q' < m → mct (up2 g (12 + w + 5 * K) j v) q' = mct g q' := fun q' hq' => by
    unfold mct
    exact up2_n _ _ _ _ _ _ (by omega)
  have c3' := c3
  unfold tp at c3'
  generalize hBj : hR h (hR h (334 + n) K) j = Bj at *
  refine ⟨hM, ?_, fun q' hq' => ?_, fun q1 q2 j1 j2 h1 h2 h3 h4 h5 => ?_, fun x hx t ht => ?_, hT, hX.1, fun q' hq' j hj => hX.2 q' hq' j (by rw [hm q' hq'] at hj; exact hj)⟩
  · intro c s hl hp
    have q := sA_b2 hNm hl
    have nl : ¬ (c = 12 + w + 5 * K ∧ s = j) := by unfold L0 at hl; omega
    rw [hI_s, up2_n _ _ _ _ _ _ (by omega), up2_n _ _ _ _ _ _ nl]
    refine hA c s hl (fun y => hp ⟨y.1, y.2.1, y.2.2.1, ?_⟩)
    rw [up2_n _ _ _ _ _ _ (by omega)]
    exact y.2.2.2
  · obtain ⟨b1, b2, b3, b4, b5⟩ := hB q' hq'
    unfold SB1
    rw [hm q' hq']
    refine ⟨b1, b2, b3, b4, fun x hx => ?_⟩
    obtain ⟨d1, d2, d3, d4, d5, d6, d7, d8⟩ := b5 x hx
    refine ⟨d1, d2, d3, d4, ?_⟩
    rw [hI_s, hR_s]
    by_cases e : hR h (hR h (334 + n) q') x = Bj
    · obtain ⟨rfl, rfl⟩ := hD q' K x j hq' hK hx hj (by rw [e, hBj])
      rw [e] at d5 d6 d7 d8 ⊢
      rcases (show w = 0 ∨ w = 1 ∨ w = 2 ∨ w = 3 by omega) with rfl | rfl | rfl | rfl
      · refine ⟨by rw [up2_e, up2_e], ?_, ?_, ?_⟩ <;> simp (disch := omega) only [up2_n] <;> assumption
      · refine ⟨?_, by rw [up2_e, up2_e], ?_, ?_⟩ <;> simp (disch := omega) only [up2_n] <;> assumption
      · refine ⟨?_, ?_, by rw [up2_e, up2_e], ?_⟩ <;> simp (disch := omega) only [up2_n] <;> assumption
      · refine ⟨?_, ?_, ?_, by rw [up2_e, up2_e]⟩ <;> simp (disch := omega) only [up2_n] <;> assumption
    · have ne : ¬ (q' = K ∧ x = j) := fun y => e (by rw [y.1, y.2, hBj])
      have hg : ∀ u, u < 4 → up2 g (12 + w + 5 * K) j v (12 + u + 5 * q') x = g (12 + u + 5 * q') x := fun u hu => up2_n _ _ _ _ _ _ (by omega)
      have g0 := hg 0 (by omega)
      have g1 := hg 1 (by omega)
      have g2 := hg 2 (by omega)
      have g3 := hg 3 (by omega)
      refine ⟨?_, ?_, ?_, ?_⟩
      · rw [up2_n _ _ _ _ _ _ (fun y => e y.1)]; exact d5.trans (congrArg iI g0.symm)
      · rw [up2_n _ _ _ _ _ _ (fun y => e y.1)]; exact d6.trans (congrArg iI g1.symm)
      · rw [up2_n _ _ _ _ _ _ (fun y => e y.1)]; exact d7.trans (congrArg iI g2.symm)
      · rw [up2_n _ _ _ _ _ _ (fun y => e y.1)]; exact d8.trans (congrArg iI g3.symm)
  · rw [hm q1 h1] at h3
    rw [hm q2 h2] at h4
    exact hD q1 q2 j1 j2 h1 h2 h3 h4 h5
  · rw [hI_s, up2_n _ _ _ _ _ _ (by omega)]
    exact hO x hx t ht
-- other heaps that keep the skeleton
theorem SkM.fr {h h' : AH} (k : SkM n m p b no h) (eT : ∀ c, c < tp n m p b no → hT h' c = hT h c) (eL : ∀ c, c < tp n m p b no → hL h' c = hL h c) (eR : ∀ c s, c < tp n m p b no → c ≠ 334 + n → hR h' c s = hR h c s) : SkM n m p b no h' := by
  unfold tp at eT eL eR
  obtain ⟨k1, k2, k3, k4, k5, k6, k7, k8, k9, k10, k11, k12, k13, k14, k15, k16, k17, k18, k19, k20, k21, k22, k23, k24, k25, k26, k27, k28, k29, k30, k31, k32, k33, k34, kg, kp, kb, ko⟩ := k
  unfold SkM
  simp (disch := omega) only [eT, eL, eR]
  refine ⟨k1, k2, k3, k4, k5, k6, k7, k8, k9, k10, k11, k12, k13, k14, k15, k16, k17, k18, k19, k20, k21, k22, k23, k24, k25, k26, k27, k28, k29, k30, k31, k32, k33, k34, fun i hi => ?_, fun i hi => ?_, fun i hi => ?_, fun i hi => ?_⟩
  · rw [eT _ (by omega), eL _ (by omega)]; exact kg i hi
  · rw [eT _ (by omega), eL _ (by omega)]; exact kp i hi
  · rw [eT _ (by omega), eL _ (by omega)]; exact kb i hi
  · rw [eT _ (by omega), eL _ (by omega)]; exact ko i hi
theorem Sm.rack (hNm : Nm n m p b) {a G : GM} {h' : AH} (hs : Sm xA n m p b no O h a) {K : Nat} (hK : K < m) (e0 : hN h ≤ hN h')
    (eT : ∀ c, c < hN h → hT h' c = hT h c) (eL : ∀ c, c < hN h → hL h' c = hL h c) (eI : ∀ c s, c < hN h → hI h' c s = hI h c s) (eR : ∀ c s, c < hN h → ¬ (c = 334 + n ∧ s = K) → hR h' c s = hR h c s)
    (gS : ∀ c s, ¬ (12 + 5 * K ≤ c ∧ c ≤ 15 + 5 * K) → ¬ (c = 11 + 5 * K ∧ (s = 1 ∨ s = 2)) → G c s = a c s)
    (hb : SB1 n m p b no K h' G)
    (bn : ∀ j : Nat, (j : Int) < mct G K → hN h ≤ hR h' (hR h' (334 + n) K) j ∨ ∃ x : Nat, (x : Int) < mct a K ∧ hR h' (hR h' (334 + n) K) j = hR h (hR h (334 + n) K) x)
    (bi : ∀ j j' : Nat, (j : Int) < mct G K → (j' : Int) < mct G K → hR h' (hR h' (334 + n) K) j = hR h' (hR h' (334 + n) K) j' → j = j') : Sm xA n m p b no O h' G := by
  have hN' := hNm
  unfold Nm at hN'
  obtain ⟨hM, hA, hB, hD, hO, hT', hX⟩ := hs
  have hT2 := hT'
  unfold tp at hT2
  have hm : ∀ q, q < m → q ≠ K → mct G q = mct a q := fun q hq hne => gS _ _ (by omega) (by omega)
  have row : ∀ q, q < m → q ≠ K → hR h' (334 + n) q = hR h (334 + n) q := fun q hq hne => eR _ _ (by omega) (by omega)
  have rowj : ∀ q, q < m → q ≠ K → ∀ x, hR h' (hR h (334 + n) q) x = hR h (hR h (334 + n) q) x := fun q hq hne x => by
    obtain ⟨b1, b2, b3, b4, b5⟩ := hB q hq
    exact eR _ _ b3 (by omega)
  refine ⟨hM.fr (fun c hc => eT c (by omega)) (fun c hc => eL c (by omega)) (fun c s hc hne => eR c s (by omega) (by omega)), ?_, fun q hq => ?_, fun q1 q2 j1 j2 h1 h2 h3 h4 h5 => ?_, fun x hx t ht => ?_, by omega, ⟨?_, fun q hq j hj => ?_⟩⟩
  · intro c s hl hp
    have q := sA_b2 hNm hl
    have nl : G c s = a c s := by unfold L0 at hl; exact gS _ _ (by omega) (by omega)
    rw [eI _ _ (by omega), nl]
    refine hA c s hl (fun y => hp ⟨y.1, y.2.1, y.2.2.1, ?_⟩)
    rw [gS _ _ (by omega) (by omega)]
    exact y.2.2.2
  · by_cases c : q = K
    · subst c; exact hb
    · obtain ⟨b1, b2, b3, b4, b5⟩ := hB q hq
      unfold SB1
      rw [hm q hq c, row q hq c]
      refine ⟨by rw [eT _ b3]; exact b1, by rw [eL _ b3]; exact b2, by omega, b4, fun x hx => ?_⟩
      obtain ⟨d1, d2, d3, d4, d5, d6, d7, d8⟩ := b5 x hx
      rw [rowj q hq c, eT _ d4, eL _ d4, eI _ _ d4, eI _ _ d4, eI _ _ d4, eI _ _ d4]
      refine ⟨d1, d2, d3, by omega, ?_, ?_, ?_, ?_⟩
      · rw [d5]; congr 1; exact (gS _ _ (by omega) (by omega)).symm
      · rw [d6]; congr 1; exact (gS _ _ (by omega) (by omega)).symm
      · rw [d7]; congr 1; exact (gS _ _ (by omega) (by omega)).symm
      · rw [d8]; congr 1; exact (gS _ _ (by omega) (by omega)).symm
  · by_cases c1 : q1 = K
    · by_cases c2 : q2 = K
      · rw [c1] at h3 h5
        rw [c2] at h4 h5
        exact ⟨by omega, bi _ _ h3 h4 h5⟩
      · exfalso
        rw [c1] at h3 h5
        rw [hm q2 h2 c2] at h4
        rw [row q2 h2 c2, rowj q2 h2 c2] at h5
        obtain ⟨-, -, -, d4, -⟩ := (hB q2 h2).2.2.2.2 j2 h4
        rcases bn j1 h3 with y | ⟨x, x1, x2⟩
        · omega
        · have := hD K q2 x j2 hK h2 x1 h4 (by rw [← x2, h5])
          omega
    · by_cases c2 : q2 = K
      · exfalso
        rw [c2] at h4 h5
        rw [hm q1 h1 c1] at h3
        rw [row q1 h1 c1, rowj q1 h1 c1] at h5
        obtain ⟨-, -, -, d4, -⟩ := (hB q1 h1).2.2.2.2 j1 h3
        rcases bn j2 h4 with y | ⟨x, x1, x2⟩
        · omega
        · have := hD K q1 x j1 hK h1 x1 h3 (by rw [← x2, h5])
          omega
      · rw [hm q1 h1 c1] at h3
        rw [hm q2 h2 c2] at h4
        rw [row q1 h1 c1, rowj q1 h1 c1, row q2 h2 c2, rowj q2 h2 c2] at h5
        exact hD q1 q2 j1 j2 h1 h2 h3 h4 h5
  · rw [eI _ _ (by omega)]
    exact hO x hx t ht
  · rcases hX.1 with k | k
    · exact Or.inl k
    · exact Or.inr ⟨k.1, by omega⟩
  · by_cases c : q = K
    · subst c
      rcases bn j hj with y | ⟨x, x1, x2⟩
      · rcases hX.1 with k | k <;> omega
      · rw [x2]; exact hX.2 q hq x x1
    · rw [hm q hq c] at hj
      rw [row q hq c, rowj q hq c]
      exact hX.2 q hq j hj
end

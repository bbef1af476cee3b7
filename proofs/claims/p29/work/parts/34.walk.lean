/-! 34 L3: loops over a river -/
theorem loopF {n m p b r : Nat} (L : Nat → AH → Int32 → Option AH) (K : AH → Option AH) (f : Nat → GM → GM) (N : Nat) (J : Nat → GM → Prop)
    (hstep : ∀ (fu i : Nat) (h : AH) (g : GM), i < N → J i g → SkR h r → RP n m p b r (hI h) g → ∃ F, L (fu + 1) h (iI (i : Int)) = L fu (sI h F) (iI ((i + 1 : Nat) : Int)) ∧ RP n m p b r F (f i g) ∧ Fm r (hI h) F ∧ J (i + 1) (f i g))
    (hend : ∀ (fu : Nat) (h : AH) (g : GM), J N g → SkR h r → RP n m p b r (hI h) g → L (fu + 1) h (iI (N : Int)) = K h) :
    ∀ (k i fu : Nat) (h : AH) (g : GM), i + k = N → k < fu → J i g → SkR h r → RP n m p b r (hI h) g → ∃ F, L fu h (iI (i : Int)) = K (sI h F) ∧ RP n m p b r F (mIt f k i g) ∧ Fm r (hI h) F ∧ J N (mIt f k i g) := by
  intro k
  induction k with
  | zero =>
    intro i fu h g e hf hJ hS hP
    obtain ⟨fu, rfl⟩ : ∃ x, fu = x + 1 := ⟨fu - 1, by omega⟩
    obtain rfl : i = N := by omega
    exact ⟨hI h, hend fu h g hJ hS hP, hP, Fm.refl _ _, hJ⟩
  | succ k ih =>
    intro i fu h g e hf hJ hS hP
    obtain ⟨fu, rfl⟩ : ∃ x, fu = x + 1 := ⟨fu - 1, by omega⟩
    obtain ⟨F, e1, e2, e3, e4⟩ := hstep fu i h g (by omega) hJ hS hP
    obtain ⟨F', d1, d2, d3, d4⟩ := ih (i + 1) fu (sI h F) (f i g) (by omega) (by omega) e4 hS e2
    exact ⟨F', e1.trans d1, d2, e3.trans d3, d4⟩
theorem growSticks_E {n m p b r : Nat} {h : AH} {g : GM} (hn : n ≤ 4) (hm : m ≤ 4) (hS : SkR h r) (hP : RP n m p b r (hI h) g) (hg : g 0 6 = n)
    (hb : ∀ j, j < n → (0 ≤ g (7 + j) 0 ∧ g (7 + j) 0 ≤ 99) ∧ 0 ≤ g (7 + j) 1 ∧ g (7 + j) 1 ≤ 20) :
    ∃ F, f_River_growSticks h r = some (sI h F) ∧ RP n m p b r F (mIt mGrow1 n 0 g) ∧ Fm r (hI h) F := by
  have key := loopF (n := n) (m := m) (p := p) (b := b) (r := r) (fun fu h x => f_River_growSticks_l2 fu h r x) (fun h => some h) mGrow1 n
    (fun _ g => g 0 6 = n ∧ ∀ j, j < n → (0 ≤ g (7 + j) 0 ∧ g (7 + j) 0 ≤ 99) ∧ 0 ≤ g (7 + j) 1 ∧ g (7 + j) 1 ≤ 20) ?_ ?_ n 0 FU h g (by omega) (by unfold FU; omega) ⟨hg, hb⟩ hS hP
  · obtain ⟨F, e1, e2, e3, -⟩ := key
    exact ⟨F, e1, e2, e3⟩
  · intro fu i h g hi ⟨hg, hb⟩ hS hP
    have hS0 := hS
    obtain ⟨k0, k1, k2, k3, k4, k5, k6, ⟨ka1, ka2, ka3, ka4, ka5, ka6, ka7, ka8, ka9, kaa, kab, kac⟩, kg, -⟩ := hS
    obtain ⟨g1, g2⟩ := kg i (by omega)
    have e := hP.sc 6 (by decide) (by decide)
    rw [hg] at e
    have e1 := hP.ga i 0 hi (by decide)
    have e2 := hP.ga i 1 hi (by decide)
    have b1 := hb i hi
    refine ⟨up2 (hI h) (r + (7 + i)) 0 (iI (min 99 (g (7 + i) 0 + g (7 + i) 1))), ?_, RP.up hm hP _ _ rfl (by omega), (Fm.refl _ _).up _ _ _ (by omega), ?_⟩
    · show f_River_growSticks_b2 (f_River_growSticks_l2 fu) h r (iI (i : Int)) = _
      simp (disch := omega) only [f_River_growSticks_b2, Nat.add_zero, true_and, and_true, gd_T, bn_S, bv_S, lq_E, wI_s, sI_s, hI_s, hT_s, hL_s, hR_s, hJ_s, hN_s, hU_s, nI_L, z_i, o_i, iI_add, iI_sub, iI_mul, iI_neg, iI_lt, iI_le, iI_eq, iI_ix, Int.toNat_natCast, k0, k1, ka1, ka2, g1, g2, e, e1, e2, if_neg, gd_P, inb, ix, min_E]
      rfl
    · unfold mGrow1
      refine ⟨by rw [up2_n _ _ _ _ _ _ (by omega)]; exact hg, fun j hj => ?_⟩
      have b2 := hb j hj
      rw [up2_n _ _ _ _ (7 + j) 1 (by omega)]
      by_cases c : j = i
      · subst c; rw [up2_e]; omega
      · rw [up2_n _ _ _ _ _ _ (by omega)]; exact b2
  · intro fu h g ⟨hg, hb⟩ hS hP
    obtain ⟨k0, -⟩ := hS
    have e := hP.sc 6 (by decide) (by decide)
    rw [hg] at e
    show f_River_growSticks_b2 (f_River_growSticks_l2 fu) h r (iI (n : Int)) = _
    simp (disch := omega) only [f_River_growSticks_b2, Nat.add_zero, true_and, and_true, gd_T, bn_S, bv_S, lq_E, wI_s, sI_s, hI_s, hT_s, hL_s, hR_s, hJ_s, hN_s, hU_s, nI_L, z_i, o_i, iI_add, iI_sub, iI_mul, iI_neg, iI_lt, iI_le, iI_eq, iI_ix, Int.toNat_natCast, k0, e, if_pos, gd_P]

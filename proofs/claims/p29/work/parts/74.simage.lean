/-! 74 L3: the sim's hour, VIII: bundles age; other heaps -/
def sR (h : AH) (R : Nat → Nat → Nat) : AH := (hN h, hU h, hT h, hL h, hI h, R, hJ h)
theorem wR_r (h : AH) (a k v : Nat) : wR h a k v = sR h (up2 (hR h) a k v) := rfl
theorem sR_r (h : AH) (R R' : Nat → Nat → Nat) : sR (sR h R) R' = sR h R' := rfl
theorem sR_id (h : AH) : sR h (hR h) = h := rfl
theorem sR_s (h : AH) (R : Nat → Nat → Nat) (F : Nat → Nat → Int32) : sI (sR h R) F = sR (sI h F) R := rfl
theorem hR_r (h : AH) (R : Nat → Nat → Nat) : hR (sR h R) = R := rfl
theorem hT_r (h : AH) (R : Nat → Nat → Nat) : hT (sR h R) = hT h := rfl
theorem hL_r (h : AH) (R : Nat → Nat → Nat) : hL (sR h R) = hL h := rfl
theorem hI_r (h : AH) (R : Nat → Nat → Nat) : hI (sR h R) = hI h := rfl
theorem hJ_r (h : AH) (R : Nat → Nat → Nat) : hJ (sR h R) = hJ h := rfl
theorem hN_r (h : AH) (R : Nat → Nat → Nat) : hN (sR h R) = hN h := rfl
theorem hU_r (h : AH) (R : Nat → Nat → Nat) : hU (sR h R) = hU h := rfl
theorem hN_a (h : AH) (t n : Nat) : hN (hA h t n) = hN h + 1 := rfl
theorem hU_a (h : AH) (t n : Nat) : hU (hA h t n) = hU h + n := rfl
theorem hT_a (h : AH) (t n : Nat) : hT (hA h t n) = up1 (hT h) (hN h) t := rfl
theorem hL_a (h : AH) (t n : Nat) : hL (hA h t n) = up1 (hL h) (hN h) n := rfl
theorem hI_a (h : AH) (t n : Nat) : hI (hA h t n) = up1 (hI h) (hN h) (fun _ => 0) := rfl
theorem hR_a (h : AH) (t n : Nat) : hR (hA h t n) = up1 (hR h) (hN h) (fun _ => 0) := rfl
theorem hJ_a (h : AH) (t n : Nat) : hJ (hA h t n) = up1 (hJ h) (hN h) (fun _ => 0) := rfl
theorem up1_e {α : Type} (f : Nat → α) (a : Nat) (v : α) : up1 f a v a = v := if_pos rfl
theorem up1_n {α : Type} (f : Nat → α) (a : Nat) (v : α) (b : Nat) (h : ¬ b = a) : up1 f a v b = f b := if_neg h
-- ints that change elsewhere than below 320 and at the place beside
def Fb (xA : Nat) (F F' : Nat → Nat → Int32) : Prop := ∀ c s, c < 320 ∨ c = xA → F' c s = F c s
theorem Fb.refl {xA : Nat} (F : Nat → Nat → Int32) : Fb xA F F := fun _ _ _ => rfl
theorem Fb.trans {xA : Nat} {F F' F'' : Nat → Nat → Int32} (h1 : Fb xA F F') (h2 : Fb xA F' F'') : Fb xA F F'' := fun c s hc => (h2 c s hc).trans (h1 c s hc)
theorem Fb.up {xA : Nat} {F F' : Nat → Nat → Int32} (h : Fb xA F F') (a k : Nat) (v : Int32) (ha : 320 ≤ a) (hb : a ≠ xA) : Fb xA F (up2 F' a k v) := fun c s hc => by
  rw [up2_n _ _ _ _ _ _ (by omega)]
  exact h c s hc
theorem Fb.x {xA : Nat} {h : AH} {F : Nat → Nat → Int32} (k : Fb xA (hI h) F) : Fx xA 0 0 h (sI h F) := ⟨Nat.le_refl _, Nat.le_refl _, Nat.le_refl _, fun a ha => ⟨rfl, rfl, funext fun s => k a s ha, rfl, rfl⟩⟩
section
variable {xA n m p b no : Nat} {O : Nat → Nat → Int} {T C Pb : Int} {h : AH} {g : GM}
theorem grade_S {c : Nat} {t s : Int} (hT : hT h c = 101) (hL : hL h c = 4) (e1 : hI h c 1 = iI t) (e3 : hI h c 3 = iI s) (h1 : 1 ≤ t) (h2 : t ≤ 9) (h3 : 0 ≤ s) (h4 : s ≤ 1000000) : f_Sim_grade h c = some (h, iI (mGradeOf t s)) := by
  have d1 : 0 ≤ (t - 1) / 3 + s / 3 ∧ (t - 1) / 3 + s / 3 ≤ 2000000 := by omega
  unfold mGradeOf
  by_cases c : (t - 1) / 3 + s / 3 ≤ 3
  · rw [Int.max_eq_right (by omega), Int.min_eq_right (by omega)]
    simp (disch := first | decide | omega) only [f_Sim_grade, Nat.add_zero, true_and, and_true, gd_T, bn_S, bv_S, lq_E, wI_s, sI_s, hI_s, hT_s, hL_s, hR_s, hJ_s, hN_s, hU_s, nI_L, z_i, o_i, iI_add, iI_sub, iI_mul, iI_neg, iI_lt, iI_le, iI_eq, iI_ix, Int.toNat_natCast, toNat_L, if_neg, if_pos, gd_P, inb, ix, hT, hL, e1, e3, iI_div]
  · rw [Int.max_eq_right (by omega), Int.min_eq_left (by omega)]
    simp (disch := first | decide | omega) only [f_Sim_grade, Nat.add_zero, true_and, and_true, gd_T, bn_S, bv_S, lq_E, wI_s, sI_s, hI_s, hT_s, hL_s, hR_s, hJ_s, hN_s, hU_s, nI_L, z_i, o_i, iI_add, iI_sub, iI_mul, iI_neg, iI_lt, iI_le, iI_eq, iI_ix, Int.toNat_natCast, toNat_L, if_neg, if_pos, gd_P, inb, ix, hT, hL, e1, e3, iI_div]
theorem dryA_l (hNm : Nm n m p b) {K : Nat} (hK : K < m) {sh : Int} (hs0 : 0 ≤ sh) (hs3 : sh ≤ 3) (k486 : AH → Nat → Int32 → Int32 → Option AH) : ∀ (e j fu : Nat) (h : AH) (a : GM), e + j = (mct a K).toNat → e < fu → mct a K ≤ 60 → DryD K j a → Sm xA n m p b no O h a →
    ∃ F, f_Sim_pass_l513 k486 fu h 320 (iI sh) (iI (K : Int)) (iI (cK K a j : Int)) (hR h (334 + n) K) (iI ((mct a K).toNat : Int)) (iI (j : Int)) = f_Sim_pass_b513 k486 (fun _ _ _ _ _ _ _ _ => none) (sI h F) 320 (iI sh) (iI (K : Int)) (iI (cK K (mIt (mAgS K sh) e j a) (mct a K).toNat : Int)) (hR h (334 + n) K) (iI ((mct a K).toNat : Int)) (iI ((mct a K).toNat : Int)) ∧ Sm xA n m p b no O (sI h F) (mIt (mAgS K sh) e j a) ∧ Fb xA (hI h) F := by
  have hN' := hNm
  unfold Nm at hN'
  intro e
  induction e with
  | zero =>
    intro j fu h a he hf h60 hD hs
    obtain ⟨fu, rfl⟩ : ∃ x, fu = x + 1 := ⟨fu - 1, by omega⟩
    obtain rfl : j = (mct a K).toNat := by omega
    refine ⟨hI h, ?_, hs, Fb.refl _⟩
    show f_Sim_pass_b513 k486 (f_Sim_pass_l513 k486 fu) h 320 (iI sh) (iI (K : Int)) (iI (cK K a (mct a K).toNat : Int)) (hR h (334 + n) K) (iI ((mct a K).toNat : Int)) (iI ((mct a K).toNat : Int)) = f_Sim_pass_b513 k486 (fun _ _ _ _ _ _ _ _ => none) h 320 (iI sh) (iI (K : Int)) (iI (cK K a (mct a K).toNat : Int)) (hR h (334 + n) K) (iI ((mct a K).toNat : Int)) (iI ((mct a K).toNat : Int))
    simp (disch := first | decide | omega) only [f_Sim_pass_b513, if_pos, iI_lt, iI_le, iI_eq, iI_ix, Int.toNat_natCast, toNat_L]
  | succ e ih =>
    intro j fu h a he hf h60 hD hs
    obtain ⟨fu, rfl⟩ : ∃ x, fu = x + 1 := ⟨fu - 1, by omega⟩
    have jc : (j : Int) < mct a K := by omega
    have d := hD j (Nat.le_refl _) jc
    have hM := hs.1
    obtain ⟨b1, b2, b3, b4, b5⟩ := hs.2.2.1 K hK
    obtain ⟨c1, c2, c3, c4, c5, c6, c7, c8⟩ := b5 j jc
    have mA : ∀ c s, ¬ ((c = 14 + 5 * K ∨ c = 15 + 5 * K) ∧ s = j) → ¬ (43 ≤ c ∧ c < 47 ∧ s = 0) → mAgS K sh j a c s = a c s := fun c s => mAgS_n c s
    have mc : mct (mAgS K sh j a) K = mct a K := mA _ _ (by omega) (by omega)
    have hD2 : DryD K (j + 1) (mAgS K sh j a) := fun x hx hx2 => by
      rw [mc] at hx2
      rw [mA _ _ (by omega) (by omega), mA _ _ (by omega) (by omega), mA _ _ (by omega) (by omega)]
      exact hD x (by omega) hx2
    -- one bundle
    have step : ∃ F, f_Sim_pass_b513 k486 (f_Sim_pass_l513 k486 fu) h 320 (iI sh) (iI (K : Int)) (iI (cK K a j : Int)) (hR h (334 + n) K) (iI ((mct a K).toNat : Int)) (iI (j : Int)) = f_Sim_pass_l513 k486 fu (sI h F) 320 (iI sh) (iI (K : Int)) (iI (cK K (mAgS K sh j a) (j + 1) : Int)) (hR h (334 + n) K) (iI ((mct a K).toNat : Int)) (iI ((j + 1 : Nat) : Int)) ∧ Sm xA n m p b no O (sI h F) (mAgS K sh j a) ∧ Fb xA (hI h) F := by
      have ck := cK_le (K := K) (a := a) j
      have ckc : cK K (mAgS K sh j a) (j + 1) = if 3 * mAgS K sh j a (13 + 5 * K) j ≤ mAgS K sh j a (14 + 5 * K) j then cK K a j else cK K a j + 1 := by
        rw [show cK K (mAgS K sh j a) (j + 1) = if 3 * mAgS K sh j a (13 + 5 * K) j ≤ mAgS K sh j a (14 + 5 * K) j then cK K (mAgS K sh j a) j else cK K (mAgS K sh j a) j + 1 from rfl, cK_congr (a := a) j fun x hx => ⟨mA _ _ (by omega) (by omega), mA _ _ (by omega) (by omega)⟩]
      rw [ckc]
      clear ckc hD hD2 ih b5
      -- ageing
      have age : ∃ F, f_Sim_pass_b513 k486 (f_Sim_pass_l513 k486 fu) h 320 (iI sh) (iI (K : Int)) (iI (cK K a j : Int)) (hR h (334 + n) K) (iI ((mct a K).toNat : Int)) (iI (j : Int)) = f_Sim_pass_b550 k486 (f_Sim_pass_l513 k486 fu) (sI h F) 320 (iI sh) (iI (K : Int)) (iI (cK K a j : Int)) (hR h (334 + n) K) (iI ((mct a K).toNat : Int)) (iI (j : Int)) (hR h (hR h (334 + n) K) j) ∧ Sm xA n m p b no O (sI h F) (mAge K sh j a) ∧ Fb xA (hI h) F := by
        have tb : 320 ≤ hR h (hR h (334 + n) K) j := by unfold tp at c3; omega
        unfold mAge
        by_cases q : sh = 0
        · rw [if_pos q]
          have s1 := hs.bund hNm hK jc (w := 3) (by decide) (v := a (15 + 5 * K) j + 1)
          rw [show 12 + 3 + 5 * K = 15 + 5 * K by omega] at s1
          refine ⟨_, ?_, s1, (Fb.refl _).up _ _ _ tb (hs.2.2.2.2.2.2.2 K hK j jc)⟩
          simp (disch := first | decide | omega) only [f_Sim_pass_b513, Nat.add_zero, true_and, and_true, gd_T, bn_S, bv_S, lq_E, wI_s, sI_s, hI_s, hT_s, hL_s, hR_s, hJ_s, hN_s, hU_s, nI_L, z_i, o_i, iI_add, iI_sub, iI_mul, iI_neg, iI_lt, iI_le, iI_eq, iI_ix, Int.toNat_natCast, toNat_L, if_neg, if_pos, gd_P, inb, ix, b1, b2, c1, c2, c8, not_false_eq_true]
        · rw [if_neg q]
          have s1 := hs.bund hNm hK jc (w := 2) (by decide) (v := a (14 + 5 * K) j + sh)
          rw [show 12 + 2 + 5 * K = 14 + 5 * K by omega] at s1
          refine ⟨_, ?_, s1, (Fb.refl _).up _ _ _ tb (hs.2.2.2.2.2.2.2 K hK j jc)⟩
          simp (disch := first | decide | omega) only [f_Sim_pass_b513, Nat.add_zero, true_and, and_true, gd_T, bn_S, bv_S, lq_E, wI_s, sI_s, hI_s, hT_s, hL_s, hR_s, hJ_s, hN_s, hU_s, nI_L, z_i, o_i, iI_add, iI_sub, iI_mul, iI_neg, iI_lt, iI_le, iI_eq, iI_ix, Int.toNat_natCast, toNat_L, if_neg, if_pos, gd_P, inb, ix, b1, b2, c1, c2, c7, not_false_eq_true]
      obtain ⟨F, e1, e2, e3⟩ := age
      have ab : (1 ≤ mAge K sh j a (13 + 5 * K) j ∧ mAge K sh j a (13 + 5 * K) j ≤ 9) ∧ (0 ≤ mAge K sh j a (14 + 5 * K) j ∧ mAge K sh j a (14 + 5 * K) j ≤ 33) ∧ 0 ≤ mAge K sh j a (15 + 5 * K) j ∧ mAge K sh j a (15 + 5 * K) j ≤ 10001 := by
        unfold mAge
        split <;> simp (disch := omega) only [up2_n, up2_e] <;> omega
      have mc1 : mct (mAge K sh j a) K = mct a K := mAge_n _ _ (by omega)
      have hM2 := e2.1
      obtain ⟨-, -, -, -, b5⟩ := e2.2.2.1 K hK
      obtain ⟨d1, d2, d3, d4, d5, d6, d7, d8⟩ := b5 j (by rw [mc1]; exact jc)
      rw [hR_s] at d1 d2 d3 d4 d5 d6 d7 d8
      rw [hT_s] at d1
      rw [hL_s] at d2
      rw [hI_s] at d5 d6 d7 d8
      have f1 := grade_S (h := sI h F) d1 d2 d6 d8 ab.1.1 ab.1.2 ab.2.2.1 (by omega)
      have gb := mGradeOf_b (mAge K sh j a (13 + 5 * K) j) (mAge K sh j a (15 + 5 * K) j)
      obtain ⟨gr, hgr⟩ : ∃ gr : Nat, mGradeOf (mAge K sh j a (13 + 5 * K) j) (mAge K sh j a (15 + 5 * K) j) = (gr : Int) := ⟨_, (Int.toNat_of_nonneg gb.1).symm⟩
      have est := e2.st (k := gr) (by omega)
      have ax := e2.ax
      clear hs b5 mA mc1 c4 c5 c6 c7 c8 d
      have hjj : ((j + 1 : Nat) : Int) = (j : Int) + 1 := rfl
      unfold mAgS
      generalize mAge K sh j a = g1 at *
      rw [hgr] at f1
      by_cases q : 3 * g1 (13 + 5 * K) j ≤ g1 (14 + 5 * K) j
      · rw [if_pos q]
        have q2 : 3 * mSt K j g1 (13 + 5 * K) j ≤ mSt K j g1 (14 + 5 * K) j := by rw [mSt_n _ _ (by omega), mSt_n _ _ (by omega)]; exact q
        rw [if_pos q2]
        have s1 := e2.w hNm (43 + gr) 0 (Or.inr (Or.inr (Or.inr (Or.inr (Or.inr (Or.inr ⟨by omega, by omega, by decide⟩)))))) (a := 323) (k := gr) (by rw [sA_q]; rfl) sS_q (v := g1 (43 + gr) 0 + g1 (12 + 5 * K) j) rfl (by omega)
        have em : mSt K j g1 = up2 g1 (43 + gr) 0 (g1 (43 + gr) 0 + g1 (12 + 5 * K) j) := by unfold mSt; rw [hgr]; rfl
        rw [em]
        rw [sI_s, hI_s] at s1
        refine ⟨_, ?_, s1, e3.up _ _ _ (by omega) (by rcases ax with k | k <;> omega)⟩
        refine Eq.trans e1 ?_
        rw [hI_s] at est
        simp (disch := first | decide | omega) only [f_Sim_pass_b550, f_Sim_pass_b586, Nat.add_zero, true_and, and_true, gd_T, bn_S, bv_S, lq_E, wI_s, sI_s, hI_s, hT_s, hL_s, hR_s, hJ_s, hN_s, hU_s, nI_L, z_i, o_i, iI_add, iI_sub, iI_mul, iI_neg, iI_lt, iI_le, iI_eq, iI_ix, Int.toNat_natCast, toNat_L, if_neg, if_pos, gd_P, inb, ix, hM.t, hM.r9, hM.tst, hM.lst, d1, d2, d5, d6, d7, f1, est, hjj]
      · rw [if_neg q, if_neg q]
        refine ⟨F, ?_, e2, e3⟩
        refine Eq.trans e1 ?_
        have hcc : ((cK K a j + 1 : Nat) : Int) = (cK K a j : Int) + 1 := rfl
        simp (disch := first | decide | omega) only [f_Sim_pass_b550, f_Sim_pass_b586, Nat.add_zero, true_and, and_true, gd_T, bn_S, bv_S, lq_E, wI_s, sI_s, hI_s, hT_s, hL_s, hR_s, hJ_s, hN_s, hU_s, nI_L, z_i, o_i, iI_add, iI_sub, iI_mul, iI_neg, iI_lt, iI_le, iI_eq, iI_ix, Int.toNat_natCast, toNat_L, if_neg, if_pos, gd_P, inb, ix, d1, d2, d6, d7, hjj, hcc]
    obtain ⟨F, e1, e2, e3⟩ := step
    obtain ⟨F2, k1, k2, k3⟩ := ih (j + 1) fu (sI h F) (mAgS K sh j a) (by rw [mc]; omega) (by omega) (by rw [mc]; exact h60) hD2 e2
    rw [mc, hR_s] at k1
    refine ⟨F2, ?_, k2, e3.trans k3⟩
    rw [show mIt (mAgS K sh) (e + 1) j a = mIt (mAgS K sh) e (j + 1) (mAgS K sh j a) from rfl]
    refine Eq.trans e1 ?_
    exact k1
end

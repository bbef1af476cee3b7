/-! 75 L3: the sim's hour, IX: what is dry leaves the rack -/
section
variable {xA n m p b no : Nat} {O : Nat → Nat → Int} {T C Pb : Int} {h : AH} {g : GM}
theorem dryC_l (hNm : Nm n m p b) {K : Nat} (hK : K < m) {a : GM} (hs : Sm xA n m p b no O h a) (hD : ∀ x : Nat, (x : Int) < mct a K → 1 ≤ a (13 + 5 * K) x ∧ a (13 + 5 * K) x ≤ 9 ∧ 0 ≤ a (14 + 5 * K) x ∧ a (14 + 5 * K) x ≤ 33) (hJ : mct a K ≤ 60) (k486 : AH → Nat → Int32 → Int32 → Option AH) (a1 : Int32) : ∀ (e j fu : Nat) (R : Nat → Nat → Nat), e + j = (mct a K).toNat → e < fu →
    (∀ c s, c ≠ hN h → R c s = hR h c s) → (∀ x, x < j → ¬ 3 * a (13 + 5 * K) x ≤ a (14 + 5 * K) x → R (hN h) (cK K a x) = hR h (hR h (334 + n) K) x) →
    ∃ R', f_Sim_pass_l617 k486 fu (sR (hA h 109 (cK K a (mct a K).toNat)) R) 320 a1 (iI (K : Int)) (hN h) (iI (cK K a j : Int)) (hR h (334 + n) K) (iI ((mct a K).toNat : Int)) (iI (j : Int)) = k486 (sR (hA h 109 (cK K a (mct a K).toNat)) (up2 R' (334 + n) K (hN h))) 320 a1 (iI ((K + 1 : Nat) : Int)) ∧
      (∀ c s, c ≠ hN h → R' c s = hR h c s) ∧ (∀ x, x < (mct a K).toNat → ¬ 3 * a (13 + 5 * K) x ≤ a (14 + 5 * K) x → R' (hN h) (cK K a x) = hR h (hR h (334 + n) K) x) := by
  have hN' := hNm
  unfold Nm at hN'
  have hM := hs.1
  have tb := hs.2.2.2.2.2.1
  unfold tp at tb
  obtain ⟨b1, b2, b3, b4, b5⟩ := hs.2.2.1 K hK
  have h14 : hR h 320 14 = 334 + n := hM.r14
  have t14 := hM.tra
  have l14 := hM.lra
  have t320 := hM.t
  intro e
  induction e with
  | zero =>
    intro j fu R he hf hR1 hR2
    obtain ⟨fu, rfl⟩ : ∃ x, fu = x + 1 := ⟨fu - 1, by omega⟩
    obtain rfl : j = (mct a K).toNat := by omega
    refine ⟨R, ?_, hR1, hR2⟩
    have r14 : R 320 14 = 334 + n := by rw [hR1 _ _ (by omega)]; exact h14
    have hkk : ((K + 1 : Nat) : Int) = (K : Int) + 1 := rfl
    show f_Sim_pass_b617 k486 (f_Sim_pass_l617 k486 fu) (sR (hA h 109 (cK K a (mct a K).toNat)) R) 320 a1 (iI (K : Int)) (hN h) (iI (cK K a (mct a K).toNat : Int)) (hR h (334 + n) K) (iI ((mct a K).toNat : Int)) (iI ((mct a K).toNat : Int)) = _
    simp (disch := first | decide | omega) only [f_Sim_pass_b617, Nat.add_zero, true_and, and_true, gd_T, bn_S, bv_S, lq_E, wI_s, sI_s, hI_s, hT_s, hL_s, hR_s, hJ_s, hN_s, hU_s, wR_r, sR_r, sR_s, hR_r, hT_r, hL_r, hI_r, hJ_r, hN_r, hU_r, hN_a, hU_a, hT_a, hL_a, hI_a, hR_a, hJ_a, up1_e, up1_n, nI_L, z_i, o_i, iI_add, iI_sub, iI_mul, iI_neg, iI_lt, iI_le, iI_eq, iI_ix, Int.toNat_natCast, toNat_L, if_neg, if_pos, gd_P, inb, ix, r14, t14, l14, t320, hkk]
  | succ e ih =>
    intro j fu R he hf hR1 hR2
    obtain ⟨fu, rfl⟩ : ∃ x, fu = x + 1 := ⟨fu - 1, by omega⟩
    have jc : (j : Int) < mct a K := by omega
    obtain ⟨c1, c2, c3, c4, c5, c6, c7, c8⟩ := b5 j jc
    have d := hD j jc
    have ck := cK_le (K := K) (a := a) j
    have rj : R (hR h (334 + n) K) j = hR h (hR h (334 + n) K) j := hR1 _ _ (by omega)
    have hjj : ((j + 1 : Nat) : Int) = (j : Int) + 1 := rfl
    have ckc : cK K a (j + 1) = if 3 * a (13 + 5 * K) j ≤ a (14 + 5 * K) j then cK K a j else cK K a j + 1 := rfl
    by_cases q : 3 * a (13 + 5 * K) j ≤ a (14 + 5 * K) j
    · rw [if_pos q] at ckc
      obtain ⟨R', k1, k2, k3⟩ := ih (j + 1) fu R (by omega) (by omega) hR1 (fun x hx hd => by
        by_cases e : x = j
        · subst e; exact absurd q hd
        · exact hR2 x (by omega) hd)
      refine ⟨R', ?_, k2, k3⟩
      refine Eq.trans ?_ k1
      show f_Sim_pass_b617 k486 (f_Sim_pass_l617 k486 fu) (sR (hA h 109 (cK K a (mct a K).toNat)) R) 320 a1 (iI (K : Int)) (hN h) (iI (cK K a j : Int)) (hR h (334 + n) K) (iI ((mct a K).toNat : Int)) (iI (j : Int)) = _
      rw [ckc]
      clear ih hR2 k1 k2 k3 b5 hD
      simp (disch := first | decide | omega) only [f_Sim_pass_b617, f_Sim_pass_b657, Nat.add_zero, true_and, and_true, gd_T, bn_S, bv_S, lq_E, wI_s, sI_s, hI_s, hT_s, hL_s, hR_s, hJ_s, hN_s, hU_s, wR_r, sR_r, sR_s, hR_r, hT_r, hL_r, hI_r, hJ_r, hN_r, hU_r, hN_a, hU_a, hT_a, hL_a, hI_a, hR_a, hJ_a, up1_e, up1_n, nI_L, z_i, o_i, iI_add, iI_sub, iI_mul, iI_neg, iI_lt, iI_le, iI_eq, iI_ix, Int.toNat_natCast, toNat_L, if_neg, if_pos, gd_P, inb, ix, rj, b1, b2, c1, c2, c6, c7, hjj]
    · rw [if_neg q] at ckc
      have lt : cK K a j < cK K a (mct a K).toNat := cK_lt (by omega) q
      obtain ⟨R', k1, k2, k3⟩ := ih (j + 1) fu (up2 R (hN h) (cK K a j) (hR h (hR h (334 + n) K) j)) (by omega) (by omega) (fun c s hc => by rw [up2_n _ _ _ _ _ _ (fun y => hc y.1)]; exact hR1 c s hc) (fun x hx hd => by
        by_cases e : x = j
        · rw [e, up2_e]
        · have := cK_lt (j := j) (x := x) (by omega) hd
          rw [up2_n _ _ _ _ _ _ (by omega)]
          exact hR2 x (by omega) hd)
      refine ⟨R', ?_, k2, k3⟩
      refine Eq.trans ?_ k1
      show f_Sim_pass_b617 k486 (f_Sim_pass_l617 k486 fu) (sR (hA h 109 (cK K a (mct a K).toNat)) R) 320 a1 (iI (K : Int)) (hN h) (iI (cK K a j : Int)) (hR h (334 + n) K) (iI ((mct a K).toNat : Int)) (iI (j : Int)) = _
      rw [ckc]
      have hcc : ((cK K a j + 1 : Nat) : Int) = (cK K a j : Int) + 1 := rfl
      have ckJ := cK_le (K := K) (a := a) (mct a K).toNat
      clear ih hR2 k1 k2 k3 b5 hD
      simp (disch := first | decide | omega) only [f_Sim_pass_b617, f_Sim_pass_b657, Nat.add_zero, true_and, and_true, gd_T, bn_S, bv_S, lq_E, wI_s, sI_s, hI_s, hT_s, hL_s, hR_s, hJ_s, hN_s, hU_s, wR_r, sR_r, sR_s, hR_r, hT_r, hL_r, hI_r, hJ_r, hN_r, hU_r, hN_a, hU_a, hT_a, hL_a, hI_a, hR_a, hJ_a, up1_e, up1_n, nI_L, z_i, o_i, iI_add, iI_sub, iI_mul, iI_neg, iI_lt, iI_le, iI_eq, iI_ix, Int.toNat_natCast, toNat_L, if_neg, if_pos, gd_P, inb, ix, rj, b1, b2, c1, c2, c6, c7, hjj, hcc]
theorem simDry_E (hNm : Nm n m p b) (hs : Sm xA n m p b no O h g) {K : Nat} (hK : K < m) {sh : Int} (hs0 : 0 ≤ sh) (hs3 : sh ≤ 3) (hJ : mct g K ≤ 60) (hD : DryD K 0 g) (hr : IvR1 K T g) (hT : T ≤ 9000) (k486 : AH → Nat → Int32 → Int32 → Option AH) :
    ∃ h', f_Sim_pass_b486 k486 h 320 (iI sh) (iI (K : Int)) = k486 h' 320 (iI sh) (iI ((K + 1 : Nat) : Int)) ∧ Sm xA n m p b no O h' (mDry1 sh K g) ∧ Fx xA 1 60 h h' := by
  have hN' := hNm
  unfold Nm at hN'
  obtain ⟨F, e1, e2, e3⟩ := dryA_l hNm hK hs0 hs3 k486 (mct g K).toNat 0 FU h g (by omega) (by unfold FU; omega) hJ hD hs
  have rel := dry_rel (sh := sh) (show K < 4 by omega) (mct g K).toNat 0 0 g g ⟨rfl, fun _ _ _ _ => rfl, fun _ _ _ _ => rfl, fun x hx => absurd hx (Nat.not_lt_zero _)⟩
  rw [Nat.zero_add] at rel
  obtain ⟨r1, r2, r3⟩ := rel
  have mA : ∀ c s, ¬ (c = 14 + 5 * K ∨ c = 15 + 5 * K) → ¬ (43 ≤ c ∧ c < 47 ∧ s = 0) → mIt (mAgS K sh) (mct g K).toNat 0 g c s = g c s := fun c s h1 h2 => mAgI_n c s h2 _ _ _ (by omega)
  have mc : mct (mIt (mAgS K sh) (mct g K).toNat 0 g) K = mct g K := mA _ _ (by omega) (by omega)
  have bound : ∀ (e j : Nat) (a : GM), DryD K j a → (mct a K ≤ 60) → e + j = (mct a K).toNat → ∀ x : Nat, j ≤ x → (x : Int) < mct a K → 1 ≤ mIt (mAgS K sh) e j a (13 + 5 * K) x ∧ mIt (mAgS K sh) e j a (13 + 5 * K) x ≤ 9 ∧ 0 ≤ mIt (mAgS K sh) e j a (14 + 5 * K) x ∧ mIt (mAgS K sh) e j a (14 + 5 * K) x ≤ 33 ∧ 0 ≤ mIt (mAgS K sh) e j a (15 + 5 * K) x ∧ mIt (mAgS K sh) e j a (15 + 5 * K) x ≤ 10001 := by
    intro e
    induction e with
    | zero => intro j a _ _ hj x h1 h2; omega
    | succ e ih =>
      intro j a hD h60 hj x h1 h2
      have mA1 : ∀ c s, ¬ ((c = 14 + 5 * K ∨ c = 15 + 5 * K) ∧ s = j) → ¬ (43 ≤ c ∧ c < 47 ∧ s = 0) → mAgS K sh j a c s = a c s := fun c s => mAgS_n c s
      have mc1 : mct (mAgS K sh j a) K = mct a K := mA1 _ _ (by omega) (by omega)
      have d := hD j (Nat.le_refl _) (by omega)
      rw [show mIt (mAgS K sh) (e + 1) j a = mIt (mAgS K sh) e (j + 1) (mAgS K sh j a) from rfl]
      by_cases q : x = j
      · subst q
        rw [mAgI_n (13 + 5 * K) x (by omega) _ _ _ (by omega), mAgI_n (14 + 5 * K) x (by omega) _ _ _ (by omega), mAgI_n (15 + 5 * K) x (by omega) _ _ _ (by omega)]
        have ab : (1 ≤ mAge K sh x a (13 + 5 * K) x ∧ mAge K sh x a (13 + 5 * K) x ≤ 9) ∧ (0 ≤ mAge K sh x a (14 + 5 * K) x ∧ mAge K sh x a (14 + 5 * K) x ≤ 33) ∧ 0 ≤ mAge K sh x a (15 + 5 * K) x ∧ mAge K sh x a (15 + 5 * K) x ≤ 10001 := by
          unfold mAge
          split <;> simp (disch := omega) only [up2_n, up2_e] <;> omega
        unfold mAgS
        split
        · rw [mSt_n _ _ (by omega), mSt_n _ _ (by omega), mSt_n _ _ (by omega)]
          omega
        · omega
      · exact ih (j + 1) (mAgS K sh j a) (fun y hy hy2 => by
          rw [mc1] at hy2
          rw [mA1 _ _ (by omega) (by omega), mA1 _ _ (by omega) (by omega), mA1 _ _ (by omega) (by omega)]
          exact hD y (by omega) hy2) (by rw [mc1]; exact h60) (by rw [mc1]; omega) x (by omega) (by rw [mc1]; exact h2)
  have bd := bound (mct g K).toNat 0 g hD hJ (by omega)
  rw [show mDry2 K (mct g K).toNat 0 0 sh g = mDry1 sh K g from rfl] at r1 r2 r3
  obtain ⟨b1, b2, b3, b4, b5⟩ := e2.2.2.1 K hK
  have dd := e2.2.2.2.1
  have tb := e2.2.2.2.2.2.1
  unfold tp at tb
  have hM := hs.1
  have hM2 := e2.1
  obtain ⟨o1, o2, o3, o4, o5⟩ := hs.2.2.1 K hK
  have hc0 : 0 ≤ mct g K := by unfold IvR1 at hr; omega
  generalize hA1 : mIt (mAgS K sh) (mct g K).toNat 0 g = A at *
  obtain ⟨R', k1, k2, k3⟩ := dryC_l hNm hK e2 (fun x hx => by
    rw [mc] at hx
    have := bd x (by omega) hx
    omega) (by rw [mc]; exact hJ) k486 (iI sh) (mct g K).toNat 0 FU (hR (hA (sI h F) 109 (cK K A (mct A K).toNat))) (by rw [mc]; omega) (by unfold FU; omega) (fun c s hc => by rw [hR_a, up1_n _ _ _ _ hc]) (fun x hx => absurd hx (Nat.not_lt_zero _))
  rw [mc] at k1 k3 b5
  rw [hN_s] at k1 k2 k3 tb b3
  rw [hR_s] at k1 k2 k3
  have cJ := cK_le (K := K) (a := A) (mct g K).toNat
  have jn : ((mct g K).toNat : Int) = mct g K := Int.toNat_of_nonneg hc0
  have hrow : up2 R' (334 + n) K (hN h) (334 + n) K = hN h := up2_e _ _ _ _
  have hcell : ∀ y, up2 R' (334 + n) K (hN h) (hN h) y = R' (hN h) y := fun y => up2_n _ _ _ _ _ _ (by omega)
  have mD : mct (mDry1 sh K g) K = ((cK K A (mct g K).toNat : Nat) : Int) := r1
  have k1' : f_Sim_pass_l617 k486 FU (hA (sI h F) 109 (cK K A (mct g K).toNat)) 320 (iI sh) (iI (K : Int)) (hN h) (iI 0) (hR h (334 + n) K) (iI ((mct g K).toNat : Int)) (iI 0) = k486 (sR (hA (sI h F) 109 (cK K A (mct g K).toNat)) (up2 R' (334 + n) K (hN h))) 320 (iI sh) (iI ((K + 1 : Nat) : Int)) := k1
  have e1' : f_Sim_pass_l513 k486 FU h 320 (iI sh) (iI (K : Int)) (iI 0) (hR h (334 + n) K) (iI ((mct g K).toNat : Int)) (iI 0) = f_Sim_pass_b513 k486 (fun _ _ _ _ _ _ _ _ => none) (sI h F) 320 (iI sh) (iI (K : Int)) (iI (cK K A (mct g K).toNat : Int)) (hR h (334 + n) K) (iI ((mct g K).toNat : Int)) (iI ((mct g K).toNat : Int)) := e1
  refine ⟨sR (hA (sI h F) 109 (cK K A (mct g K).toNat)) (up2 R' (334 + n) K (hN h)), ?_, Sm.rack hNm e2 hK ?_ ?_ ?_ ?_ ?_ r2 ?_ ?_ ?_, ?_⟩
  · refine Eq.trans ?_ (Eq.trans e1' ?_)
    · clear e1' k1' e1 k1 k2 k3 r1 r2 r3 bd bound mA
      simp (disch := first | decide | omega) only [f_Sim_pass_b486, Nat.add_zero, true_and, and_true, gd_T, bn_S, bv_S, lq_E, wI_s, sI_s, hI_s, hT_s, hL_s, hR_s, hJ_s, hN_s, hU_s, nI_i, cst_L, z_i, iI_lt, iI_le, iI_eq, iI_ix, Int.toNat_natCast, toNat_L, if_neg, if_pos, gd_P, inb, ix, hM.t, hM.r14, hM.tra, hM.lra, o1, o2]
    · refine Eq.trans ?_ k1'
      clear e1' k1' e1 k1 k2 k3 r1 r2 r3 bd bound mA
      simp (disch := first | decide | omega) only [f_Sim_pass_b513, Nat.add_zero, true_and, and_true, gd_T, bn_S, bv_S, lq_E, wI_s, sI_s, hI_s, hT_s, hL_s, hR_s, hJ_s, hN_s, hU_s, hN_a, hU_a, hT_a, hL_a, hI_a, hR_a, hJ_a, up1_e, up1_n, nI_i, cst_L, z_i, iI_lt, iI_le, iI_eq, iI_ix, Int.toNat_natCast, toNat_L, if_neg, if_pos, gd_P, inb, ix, hM.t, hM.r14, hM.tra, hM.lra, o1, o2]
  · rw [hN_r, hN_a, hN_s]; omega
  · intro c hc
    rw [hN_s] at hc
    rw [hT_r, hT_a, hN_s, up1_n _ _ _ _ (by omega)]
  · intro c hc
    rw [hN_s] at hc
    rw [hL_r, hL_a, hN_s, up1_n _ _ _ _ (by omega)]
  · intro c s hc
    rw [hN_s] at hc
    rw [hI_r, hI_a, hN_s, up1_n _ _ _ _ (by omega)]
  · intro c s hc hne
    rw [hN_s] at hc
    rw [hR_r, up2_n _ _ _ _ _ _ hne, hR_s]
    exact k2 c s (by omega)
  · unfold SB1
    rw [mD, hR_r, hrow, hT_r, hL_r, hN_r, hI_r, hT_a, hL_a, hI_a, hN_a, hN_s]
    refine ⟨up1_e _ _ _, up1_e _ _ _, by omega, by omega, fun y hy => ?_⟩
    obtain ⟨x, x1, x2, x3⟩ := cK_inv (K := K) (a := A) (mct g K).toNat y (by omega)
    have rr : R' (hN h) y = hR h (hR h (334 + n) K) x := by rw [← x3]; exact k3 x x1 x2
    obtain ⟨d1, d2, d3, d4, d5, d6, d7, d8⟩ := b5 x (by omega)
    rw [hR_s] at d1 d2 d3 d4 d5 d6 d7 d8
    rw [hN_s] at d4
    have w0 := r3 x x1 x2 0 (by omega)
    have w1 := r3 x x1 x2 1 (by omega)
    have w2 := r3 x x1 x2 2 (by omega)
    have w3 := r3 x x1 x2 3 (by omega)
    rw [x3, show 12 + 0 + 5 * K = 12 + 5 * K by omega] at w0
    rw [x3, show 12 + 1 + 5 * K = 13 + 5 * K by omega] at w1
    rw [x3, show 12 + 2 + 5 * K = 14 + 5 * K by omega] at w2
    rw [x3, show 12 + 3 + 5 * K = 15 + 5 * K by omega] at w3
    rw [hcell, rr, up1_n _ _ _ _ (by omega), up1_n _ _ _ _ (by omega), up1_n _ _ _ _ (by omega), w0, w1, w2, w3]
    exact ⟨d1, d2, d3, by omega, d5, d6, d7, d8⟩
  · intro y hy
    rw [mD] at hy
    obtain ⟨x, x1, x2, x3⟩ := cK_inv (K := K) (a := A) (mct g K).toNat y (by omega)
    refine Or.inr ⟨x, by rw [mc]; omega, ?_⟩
    rw [hR_r, hrow, hcell, hR_s, ← x3]
    exact k3 x x1 x2
  · intro y y' hy hy' he
    rw [mD] at hy hy'
    rw [hR_r, hrow, hcell, hcell] at he
    obtain ⟨x, x1, x2, x3⟩ := cK_inv (K := K) (a := A) (mct g K).toNat y (by omega)
    obtain ⟨x', z1, z2, z3⟩ := cK_inv (K := K) (a := A) (mct g K).toNat y' (by omega)
    have u1 := k3 x x1 x2
    have u2 := k3 x' z1 z2
    rw [x3] at u1
    rw [z3] at u2
    have := dd K K x x' hK hK (by rw [mc]; omega) (by rw [mc]; omega) (by rw [hR_s, ← u1, ← u2, he])
    rw [← x3, ← z3, this.2]
  · have ax := e2.2.2.2.2.2.2.1
    rw [hN_s] at ax
    obtain ⟨f1, f2, f3, f4⟩ := e3.x
    refine ⟨by rw [hN_r, hN_a, hN_s]; omega, by rw [hN_r, hN_a, hN_s]; omega, by rw [hU_r, hU_a, hU_s]; omega, fun c hc => ?_⟩
    obtain ⟨q1, q2, q3, q4, q5⟩ := f4 c hc
    have cb : c < hN h ∧ c ≠ 334 + n := by
      rcases ax with k | k
      · omega
      · have := k.1; unfold tp at this; omega
    rw [hT_r, hL_r, hI_r, hR_r, hJ_r, hT_a, hL_a, hI_a, hJ_a, hN_s, up1_n _ _ _ _ (by omega), up1_n _ _ _ _ (by omega), up1_n _ _ _ _ (by omega), up1_n _ _ _ _ (by omega)]
    refine ⟨q1, q2, q3, funext fun s => ?_, q5⟩
    rw [up2_n _ _ _ _ _ _ (by omega)]
    exact k2 c s (by omega)
end

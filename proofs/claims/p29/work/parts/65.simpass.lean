/-! 65 L3: the sim's hour, I: rests, orders, sticks -/
-- the frame of the sim: nothing below 320 changes; at most c cells of d slots are new
def Fx (xA c d : Nat) (h h' : AH) : Prop := hN h ≤ hN h' ∧ hN h' ≤ hN h + c ∧ hU h' ≤ hU h + d ∧ ∀ a, a < 320 ∨ a = xA → hT h' a = hT h a ∧ hL h' a = hL h a ∧ hI h' a = hI h a ∧ hR h' a = hR h a ∧ hJ h' a = hJ h a
theorem Fx.refl {xA : Nat} (h : AH) : Fx xA 0 0 h h := ⟨Nat.le_refl _, Nat.le_refl _, Nat.le_refl _, fun _ _ => ⟨rfl, rfl, rfl, rfl, rfl⟩⟩
theorem Fx.trans {xA c d c' d' : Nat} {h h' h'' : AH} (h1 : Fx xA c d h h') (h2 : Fx xA c' d' h' h'') : Fx xA (c + c') (d + d') h h'' := by
  obtain ⟨a1, a2, a3, a4⟩ := h1
  obtain ⟨b1, b2, b3, b4⟩ := h2
  refine ⟨by omega, by omega, by omega, fun a ha => ?_⟩
  obtain ⟨p1, p2, p3, p4, p5⟩ := a4 a ha
  obtain ⟨q1, q2, q3, q4, q5⟩ := b4 a ha
  exact ⟨q1.trans p1, q2.trans p2, q3.trans p3, q4.trans p4, q5.trans p5⟩
theorem Fx.mono {xA c d c' d' : Nat} {h h' : AH} (k : Fx xA c d h h') (h1 : c ≤ c') (h2 : d ≤ d') : Fx xA c' d' h h' := ⟨k.1, by have := k.2.1; omega, by have := k.2.2.1; omega, k.2.2.2⟩
theorem Fs.x {xA tau : Nat} {h : AH} {F : Nat → Nat → Int32} (k : Fs tau (hI h) F) (hx : xA < 320 ∨ tau ≤ xA) : Fx xA 0 0 h (sI h F) := ⟨Nat.le_refl _, Nat.le_refl _, Nat.le_refl _, fun a ha => ⟨rfl, rfl, funext fun s => k a s (by omega), rfl, rfl⟩⟩
theorem loopM {xA n m p b no : Nat} {O : Nat → Nat → Int} (L : Nat → AH → Int32 → Option AH) (K : AH → Option AH) (f : Nat → GM → GM) (N : Nat) (J : Nat → GM → Prop) (c d : Nat)
    (hstep : ∀ (fu i : Nat) (h : AH) (g : GM), i < N → J i g → Sm xA n m p b no O h g → ∃ h', L (fu + 1) h (iI (i : Int)) = L fu h' (iI ((i + 1 : Nat) : Int)) ∧ Sm xA n m p b no O h' (f i g) ∧ Fx xA c d h h' ∧ J (i + 1) (f i g))
    (hend : ∀ (fu : Nat) (h : AH) (g : GM), J N g → Sm xA n m p b no O h g → L (fu + 1) h (iI (N : Int)) = K h) :
    ∀ (k i fu : Nat) (h : AH) (g : GM), i + k = N → k < fu → J i g → Sm xA n m p b no O h g → ∃ h', L fu h (iI (i : Int)) = K h' ∧ Sm xA n m p b no O h' (mIt f k i g) ∧ Fx xA (k * c) (k * d) h h' ∧ J N (mIt f k i g) := by
  intro k
  induction k with
  | zero =>
    intro i fu h g e hf hJ hs
    obtain ⟨fu, rfl⟩ : ∃ x, fu = x + 1 := ⟨fu - 1, by omega⟩
    obtain rfl : i = N := by omega
    exact ⟨h, hend fu h g hJ hs, hs, (Fx.refl h).mono (by omega) (by omega), hJ⟩
  | succ k ih =>
    intro i fu h g e hf hJ hs
    obtain ⟨fu, rfl⟩ : ∃ x, fu = x + 1 := ⟨fu - 1, by omega⟩
    obtain ⟨h1, e1, e2, e3, e4⟩ := hstep fu i h g (by omega) hJ hs
    obtain ⟨h2, d1, d2, d3, d4⟩ := ih (i + 1) fu h1 (f i g) (by omega) (by omega) e4 e2
    refine ⟨h2, e1.trans d1, d2, (e3.trans d3).mono ?_ ?_, d4⟩
    · rw [Nat.succ_mul]; omega
    · rw [Nat.succ_mul]; omega
section
variable {xA n m p b no : Nat} {O : Nat → Nat → Int} {T C Pb : Int} {h : AH} {g : GM}
theorem simRest_E (hN : Nm n m p b) (hs : Sm xA n m p b no O h g) (hv : Iv n m p b T C Pb g) :
    ∃ h', f_Sim_pass_l10 FU h 320 (335 + n + m) (iI (p : Int)) (iI 0) = f_Sim_pass_b10 (fun _ _ _ _ _ => none) h' 320 (335 + n + m) (iI (p : Int)) (iI (p : Int)) ∧ Sm xA n m p b no O h' (mIt mRest1 p 0 g) ∧ Fx xA 0 0 h h' ∧ Iv n m p b T C Pb (mIt mRest1 p 0 g) := by
  have hN' := hN
  unfold Nm at hN'
  obtain ⟨h', e1, e2, e3, e4⟩ := loopM (n := n) (m := m) (p := p) (b := b) (no := no) (O := O) (fun fu h x => f_Sim_pass_l10 fu h 320 (335 + n + m) (iI (p : Int)) x) (fun h => f_Sim_pass_b10 (fun _ _ _ _ _ => none) h 320 (335 + n + m) (iI (p : Int)) (iI (p : Int))) mRest1 p (fun _ g => Iv n m p b T C Pb g) 0 0 (by
    intro fu i h g hi hv hs
    have hM := hs.1
    have s1 := hs.w hN (31 + i) 6 (Or.inr (Or.inr (Or.inr (Or.inr (Or.inl ⟨by omega, by omega, by decide⟩))))) (sA_p (by omega)) (sS_p (by omega)) (v := 0) rfl (by omega)
    refine ⟨_, ?_, s1, ((Fs.refl _).up _ _ _ (by omega)).x hs.ax, hv.rest hN hi (Or.inl rfl)⟩
    show f_Sim_pass_b10 (f_Sim_pass_l10 fu) h 320 (335 + n + m) (iI (p : Int)) (iI (i : Int)) = _
    simp (disch := first | decide | omega) only [f_Sim_pass_b10, Nat.add_zero, true_and, and_true, gd_T, bn_S, bv_S, lq_E, wI_s, sI_s, hI_s, hT_s, hL_s, hR_s, hJ_s, hN_s, hU_s, nI_L, z_i, o_i, iI_add, iI_sub, iI_mul, iI_neg, iI_lt, iI_le, iI_eq, iI_ix, Int.toNat_natCast, toNat_L, if_neg, if_pos, gd_P, inb, ix, hM.t, hM.tpe, hM.lpe, hM.pR, hM.pT, hM.pL]
    rfl) (by
    intro fu h g _ hs
    have hM := hs.1
    show f_Sim_pass_b10 (f_Sim_pass_l10 fu) h 320 (335 + n + m) (iI (p : Int)) (iI (p : Int)) = _
    simp (disch := first | decide | omega) only [f_Sim_pass_b10, if_pos, iI_lt, iI_le, iI_eq, iI_ix, Int.toNat_natCast, toNat_L]) p 0 FU h g (by omega) (by unfold FU; omega) hv hs
  exact ⟨h', e1, e2, e3.mono (by omega) (by omega), e4⟩
theorem simGrow_E (hN : Nm n m p b) (hs : Sm xA n m p b no O h g) (hv : Iv n m p b T C Pb g) :
    ∃ h', f_Sim_pass_l177 FU h 320 332 (iI (n : Int)) (iI 0) = f_Sim_pass_b225 h' 320 ∧ Sm xA n m p b no O h' (mIt mGrow1 n 0 g) ∧ Fx xA 0 0 h h' ∧ Iv n m p b T C Pb (mIt mGrow1 n 0 g) := by
  have hN' := hN
  unfold Nm at hN'
  obtain ⟨h', e1, e2, e3, e4⟩ := loopM (n := n) (m := m) (p := p) (b := b) (no := no) (O := O) (fun fu h x => f_Sim_pass_l177 fu h 320 332 (iI (n : Int)) x) (fun h => f_Sim_pass_b225 h 320) mGrow1 n (fun _ g => Iv n m p b T C Pb g) 0 0 (by
    intro fu i h g hi hv hs
    have hM := hs.1
    have vG := hv.2.2.1 i hi
    have s1 := hs.w hN (7 + i) 0 (Or.inr (Or.inr (Or.inl ⟨by omega, by omega, by decide⟩))) (sA_g (by omega)) (sS_g (by omega)) (v := min 99 (g (7 + i) 0 + g (7 + i) 1)) rfl (by omega)
    refine ⟨_, ?_, s1, ((Fs.refl _).up _ _ _ (by omega)).x hs.ax, hv.grow hN hi⟩
    show f_Sim_pass_b177 (f_Sim_pass_l177 fu) h 320 332 (iI (n : Int)) (iI (i : Int)) = _
    by_cases c : g (7 + i) 0 + g (7 + i) 1 ≤ 99
    · rw [Int.min_eq_right c]
      simp (disch := first | decide | omega) only [f_Sim_pass_b177, f_Sim_pass_b218, Nat.add_zero, true_and, and_true, gd_T, bn_S, bv_S, lq_E, wI_s, sI_s, hI_s, hT_s, hL_s, hR_s, hJ_s, hN_s, hU_s, nI_L, z_i, o_i, iI_add, iI_sub, iI_mul, iI_neg, iI_lt, iI_le, iI_eq, iI_ix, Int.toNat_natCast, toNat_L, if_neg, if_pos, gd_P, inb, ix, hM.tga, hM.lga, hM.gR, hM.gT, hM.gL, hs.ga]
      rfl
    · rw [Int.min_eq_left (by omega)]
      simp (disch := first | decide | omega) only [f_Sim_pass_b177, f_Sim_pass_b218, Nat.add_zero, true_and, and_true, gd_T, bn_S, bv_S, lq_E, wI_s, sI_s, hI_s, hT_s, hL_s, hR_s, hJ_s, hN_s, hU_s, nI_L, z_i, o_i, iI_add, iI_sub, iI_mul, iI_neg, iI_lt, iI_le, iI_eq, iI_ix, Int.toNat_natCast, toNat_L, if_neg, if_pos, gd_P, inb, ix, hM.tga, hM.lga, hM.gR, hM.gT, hM.gL, hs.ga]
      rfl) (by
    intro fu h g _ hs
    show f_Sim_pass_b177 (f_Sim_pass_l177 fu) h 320 332 (iI (n : Int)) (iI (n : Int)) = _
    simp (disch := first | decide | omega) only [f_Sim_pass_b177, if_pos, iI_lt, iI_le, iI_eq, iI_ix, Int.toNat_natCast, toNat_L]) n 0 FU h g (by omega) (by unfold FU; omega) hv hs
  exact ⟨h', e1, e2, e3.mono (by omega) (by omega), e4⟩
end

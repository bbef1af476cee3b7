/-! 80 L3: what the sim counts -/
theorem loopA {α : Type} (L : Nat → Int32 → Int32 → Option α) (K : Int32 → Option α) (f : Nat → Int) (N : Nat) (hstep : ∀ (fu i : Nat) (s : Int), i < N → L (fu + 1) (iI s) (iI (i : Int)) = L fu (iI (s + f i)) (iI ((i + 1 : Nat) : Int))) (hend : ∀ (fu : Nat) (s : Int), L (fu + 1) (iI s) (iI (N : Int)) = K (iI s)) :
    ∀ (k i fu : Nat) (s : Int), i + k = N → k < fu → L fu (iI s) (iI (i : Int)) = K (iI (s + sumF (fun x => f (i + x)) k)) := by
  intro k
  induction k with
  | zero =>
    intro i fu s hi hf
    obtain ⟨fu, rfl⟩ : ∃ x, fu = x + 1 := ⟨fu - 1, by omega⟩
    obtain rfl : i = N := by omega
    rw [hend, show sumF (fun x => f (i + x)) 0 = 0 from rfl, Int.add_zero]
  | succ k ih =>
    intro i fu s hi hf
    obtain ⟨fu, rfl⟩ : ∃ x, fu = x + 1 := ⟨fu - 1, by omega⟩
    rw [hstep fu i s (by omega), ih (i + 1) fu _ (by omega) (by omega), sumF_head, Nat.add_zero, Int.add_assoc]
    rw [sumF_congr (f := fun x => f (i + (x + 1))) (f' := fun x => f (i + 1 + x)) k (fun x _ => by rw [show i + 1 + x = i + (x + 1) by omega])]
    rfl
theorem loopA0 {α : Type} (L : Nat → Int32 → Int32 → Option α) (K : Int32 → Option α) (f : Nat → Int) (N : Nat) (hf : N < FU) (hstep : ∀ (fu i : Nat) (s : Int), i < N → L (fu + 1) (iI s) (iI (i : Int)) = L fu (iI (s + f i)) (iI ((i + 1 : Nat) : Int))) (hend : ∀ (fu : Nat) (s : Int), L (fu + 1) (iI s) (iI (N : Int)) = K (iI s)) (s : Int) : L FU (iI s) (iI 0) = K (iI (s + sumF f N)) := by
  have k := loopA L K f N hstep hend N 0 FU s (by omega) hf
  rw [sumF_congr (f := f) (f' := fun x => f (0 + x)) N (fun x _ => by rw [Nat.zero_add])] at k
  exact k
section
variable {xA n m p b no : Nat} {O : Nat → Nat → Int} {T C Pb : Int} {h : AH} {g : GM}
def mRow (m b no : Nat) (g : GM) (w : Nat) : Int := if w = 6 then (no : Int) else mCnt m b g w
theorem counted_S (hNm : Nm n m p b) (hs : Sm xA n m p b no O h g) (hv : Iv n m p b T C Pb g) (hno : no ≤ 100) {w : Nat} (hw : w < 16) :
    ∃ h', f_Sim_counted h 320 (iI (w : Int)) = some (h', iI (mRow m b no g w)) ∧ Gx 1 16 h h' := by
  have hM := hs.1
  have tb := hs.2.2.2.2.2.1
  unfold tp at tb
  have hN' := hNm
  unfold Nm at hN'
  have vR := hv.2.2.2.1
  have hS4 := hv.1
  unfold IvSc at hS4
  obtain ⟨s6, s7, s8, s9, -⟩ := hS4
  clear hv
  -- the store
  have e1 : f_Sim_counted h 320 (iI (w : Int)) = f_Sim_counted_l60 FU h 320 (iI (w : Int)) (iI (sumF (fun k => g (43 + k) 0) 4)) (iI 0) (iI 0) (334 + n) (iI (m : Int)) (iI 0) := by
    have k := loopA0 (fun fu x y => f_Sim_counted_l21 fu h 320 (iI (w : Int)) x (iI 0) (iI 0) 323 (iI 4) y) (fun x => f_Sim_counted_l60 FU h 320 (iI (w : Int)) x (iI 0) (iI 0) (334 + n) (iI (m : Int)) (iI 0)) (fun k => g (43 + k) 0) 4 (by unfold FU; omega) (by
      intro fu i s hi
      have hjj : ((i + 1 : Nat) : Int) = (i : Int) + 1 := rfl
      show f_Sim_counted_b21 (f_Sim_counted_l21 fu) h 320 (iI (w : Int)) (iI s) (iI 0) (iI 0) 323 (iI 4) (iI (i : Int)) = _
      simp (disch := first | decide | omega) only [f_Sim_counted_b21, Nat.add_zero, true_and, and_true, gd_T, bn_S, bv_S, lq_E, wI_s, sI_s, hI_s, hT_s, hL_s, hR_s, hJ_s, hN_s, hU_s, nI_L, z_i, o_i, iI_add, iI_sub, iI_mul, iI_neg, iI_lt, iI_le, iI_eq, iI_ix, Int.toNat_natCast, toNat_L, if_neg, if_pos, gd_P, inb, ix, hM.tst, hM.lst, hs.st, hjj]) (by
      intro fu s
      show f_Sim_counted_b21 (f_Sim_counted_l21 fu) h 320 (iI (w : Int)) (iI s) (iI 0) (iI 0) 323 (iI 4) (iI 4) = _
      simp (disch := first | decide | omega) only [f_Sim_counted_b21, Nat.add_zero, true_and, and_true, gd_T, bn_S, bv_S, lq_E, wI_s, sI_s, hI_s, hT_s, hL_s, hR_s, hJ_s, hN_s, hU_s, nI_i, cst_L, z_i, iI_lt, iI_le, iI_eq, iI_ix, Int.toNat_natCast, toNat_L, if_neg, if_pos, gd_P, inb, ix, hM.t, hM.r14, hM.tra, hM.lra]
      all_goals rfl) 0
    rw [Int.zero_add] at k
    refine Eq.trans ?_ k
    simp (disch := first | decide | omega) only [f_Sim_counted, Nat.add_zero, true_and, and_true, gd_T, bn_S, bv_S, lq_E, wI_s, sI_s, hI_s, hT_s, hL_s, hR_s, hJ_s, hN_s, hU_s, nI_i, cst_L, z_i, iI_lt, iI_le, iI_eq, iI_ix, Int.toNat_natCast, toNat_L, if_neg, if_pos, gd_P, inb, ix, hM.t, hM.r9, hM.tst, hM.lst]
    all_goals rfl
  have e2 : ∀ A : Int, f_Sim_counted_l60 FU h 320 (iI (w : Int)) (iI A) (iI 0) (iI 0) (334 + n) (iI (m : Int)) (iI 0) = f_Sim_counted_l133 FU h 320 (iI (w : Int)) (iI A) (iI (sumF (fun k => g (11 + 5 * k) 1) m)) (iI 0) (336 + n + m + p) (iI (b : Int)) (iI 0) := by
    intro A
    have k := loopA0 (fun fu x y => f_Sim_counted_l60 fu h 320 (iI (w : Int)) (iI A) x (iI 0) (334 + n) (iI (m : Int)) y) (fun x => f_Sim_counted_l133 FU h 320 (iI (w : Int)) (iI A) x (iI 0) (336 + n + m + p) (iI (b : Int)) (iI 0)) (fun k => g (11 + 5 * k) 1) m (by unfold FU; omega) (by
      intro fu i s hi
      obtain ⟨b1, b2, b3, b4, b5⟩ := hs.2.2.1 i hi
      obtain ⟨r1, r2, r3, r4, r5, r6, r7⟩ := vR i hi
      have hii : ((i + 1 : Nat) : Int) = (i : Int) + 1 := rfl
      have k2 := loopA0 (fun fu' x y => f_Sim_counted_l86 (f_Sim_counted_l60 fu) fu' h 320 (iI (w : Int)) (iI A) x (iI 0) (334 + n) (iI (m : Int)) (iI (i : Int)) (hR h (334 + n) i) (iI ((mct g i).toNat : Int)) y) (fun x => f_Sim_counted_l60 fu h 320 (iI (w : Int)) (iI A) x (iI 0) (334 + n) (iI (m : Int)) (iI ((i + 1 : Nat) : Int))) (fun j => g (12 + 5 * i) j) (mct g i).toNat (by unfold FU; omega) (by
        intro fu' j s hj
        obtain ⟨d1, d2, d3, d4, d5, -⟩ := b5 j (by omega)
        have hjj : ((j + 1 : Nat) : Int) = (j : Int) + 1 := rfl
        show f_Sim_counted_b86 (f_Sim_counted_l60 fu) (f_Sim_counted_l86 (f_Sim_counted_l60 fu) fu') h 320 (iI (w : Int)) (iI A) (iI s) (iI 0) (334 + n) (iI (m : Int)) (iI (i : Int)) (hR h (334 + n) i) (iI ((mct g i).toNat : Int)) (iI (j : Int)) = _
        simp (disch := first | decide | omega) only [f_Sim_counted_b86, Nat.add_zero, true_and, and_true, gd_T, bn_S, bv_S, lq_E, wI_s, sI_s, hI_s, hT_s, hL_s, hR_s, hJ_s, hN_s, hU_s, nI_L, z_i, o_i, iI_add, iI_sub, iI_mul, iI_neg, iI_lt, iI_le, iI_eq, iI_ix, Int.toNat_natCast, toNat_L, if_neg, if_pos, gd_P, inb, ix, b1, b2, d1, d2, d5, hjj]) (by
        intro fu' s
        show f_Sim_counted_b86 (f_Sim_counted_l60 fu) (f_Sim_counted_l86 (f_Sim_counted_l60 fu) fu') h 320 (iI (w : Int)) (iI A) (iI s) (iI 0) (334 + n) (iI (m : Int)) (iI (i : Int)) (hR h (334 + n) i) (iI ((mct g i).toNat : Int)) (iI ((mct g i).toNat : Int)) = _
        simp (disch := first | decide | omega) only [f_Sim_counted_b86, Nat.add_zero, true_and, and_true, gd_T, bn_S, bv_S, lq_E, wI_s, sI_s, hI_s, hT_s, hL_s, hR_s, hJ_s, hN_s, hU_s, nI_L, z_i, o_i, iI_add, iI_sub, iI_mul, iI_neg, iI_lt, iI_le, iI_eq, iI_ix, Int.toNat_natCast, toNat_L, if_neg, if_pos, gd_P, inb, ix, hii]) s
      rw [← r6] at k2
      refine Eq.trans ?_ k2
      clear k2 r7 b5
      show f_Sim_counted_b60 (f_Sim_counted_l60 fu) h 320 (iI (w : Int)) (iI A) (iI s) (iI 0) (334 + n) (iI (m : Int)) (iI (i : Int)) = _
      simp (disch := first | decide | omega) only [f_Sim_counted_b60, Nat.add_zero, true_and, and_true, gd_T, bn_S, bv_S, lq_E, wI_s, sI_s, hI_s, hT_s, hL_s, hR_s, hJ_s, hN_s, hU_s, nI_i, cst_L, z_i, iI_lt, iI_le, iI_eq, iI_ix, Int.toNat_natCast, toNat_L, if_neg, if_pos, gd_P, inb, ix, hM.tra, hM.lra, b1, b2]
      all_goals rfl) (by
      intro fu s
      show f_Sim_counted_b60 (f_Sim_counted_l60 fu) h 320 (iI (w : Int)) (iI A) (iI s) (iI 0) (334 + n) (iI (m : Int)) (iI (m : Int)) = _
      simp (disch := first | decide | omega) only [f_Sim_counted_b60, Nat.add_zero, true_and, and_true, gd_T, bn_S, bv_S, lq_E, wI_s, sI_s, hI_s, hT_s, hL_s, hR_s, hJ_s, hN_s, hU_s, nI_i, cst_L, z_i, iI_lt, iI_le, iI_eq, iI_ix, Int.toNat_natCast, toNat_L, if_neg, if_pos, gd_P, inb, ix, hM.t, hM.r16, hM.tbo, hM.lbo]
      all_goals rfl) 0
    rw [Int.zero_add] at k
    exact k
  have e3 : ∀ A B : Int, f_Sim_counted_l133 FU h 320 (iI (w : Int)) (iI A) (iI B) (iI 0) (336 + n + m + p) (iI (b : Int)) (iI 0) = f_Sim_counted_b133 (fun _ _ _ _ _ _ _ _ _ => none) h 320 (iI (w : Int)) (iI A) (iI B) (iI (sumF (fun i => g (39 + i) 4) b)) (336 + n + m + p) (iI (b : Int)) (iI (b : Int)) := by
    intro A B
    have k := loopA0 (fun fu x y => f_Sim_counted_l133 fu h 320 (iI (w : Int)) (iI A) (iI B) x (336 + n + m + p) (iI (b : Int)) y) (fun x => f_Sim_counted_b133 (fun _ _ _ _ _ _ _ _ _ => none) h 320 (iI (w : Int)) (iI A) (iI B) x (336 + n + m + p) (iI (b : Int)) (iI (b : Int))) (fun i => g (39 + i) 4) b (by unfold FU; omega) (by
      intro fu i s hi
      have hjj : ((i + 1 : Nat) : Int) = (i : Int) + 1 := rfl
      have q4 := hs.bo (i := i) (s := 4) (by omega) hi (by decide) (by decide)
      show f_Sim_counted_b133 (f_Sim_counted_l133 fu) h 320 (iI (w : Int)) (iI A) (iI B) (iI s) (336 + n + m + p) (iI (b : Int)) (iI (i : Int)) = _
      simp (disch := first | decide | omega) only [f_Sim_counted_b133, Nat.add_zero, true_and, and_true, gd_T, bn_S, bv_S, lq_E, wI_s, sI_s, hI_s, hT_s, hL_s, hR_s, hJ_s, hN_s, hU_s, nI_L, z_i, o_i, iI_add, iI_sub, iI_mul, iI_neg, iI_lt, iI_le, iI_eq, iI_ix, Int.toNat_natCast, toNat_L, if_neg, if_pos, gd_P, inb, ix, hM.tbo, hM.lbo, hM.bR, hM.bT, hM.bL, q4, hjj]) (by
      intro fu s
      show f_Sim_counted_b133 (f_Sim_counted_l133 fu) h 320 (iI (w : Int)) (iI A) (iI B) (iI s) (336 + n + m + p) (iI (b : Int)) (iI (b : Int)) = _
      unfold f_Sim_counted_b133
      have c1 : iI (b : Int) ≤ iI (b : Int) := by rw [iI_le (by omega) (by omega) (by omega) (by omega)]; omega
      simp only [if_pos c1]) 0
    rw [Int.zero_add] at k
    exact k
  rw [e1, e2, e3]
  clear e1 e2 e3 vR
  obtain ⟨A, hA'⟩ : ∃ A : Int, sumF (fun k => g (43 + k) 0) 4 = A := ⟨_, rfl⟩
  obtain ⟨B, hB'⟩ : ∃ B : Int, sumF (fun k => g (11 + 5 * k) 1) m = B := ⟨_, rfl⟩
  obtain ⟨D, hD'⟩ : ∃ D : Int, sumF (fun i => g (39 + i) 4) b = D := ⟨_, rfl⟩
  obtain ⟨F, hF⟩ : ∃ F : Nat → Nat → Int32, F = (up2 (up2 (up2 (up2 (up2 (up2 (up2 (up2 (up2 (up2 (up2 (up2 (up2 (up2 (up2 (up2 (up1 (hI h) (hN h) (fun _ => 0)) (hN h) 0 (iI (g 0 11))) (hN h) 1 (iI (g 0 12))) (hN h) 2 (iI ((n : Int)))) (hN h) 3 (iI ((m : Int)))) (hN h) 4 (iI ((p : Int)))) (hN h) 5 (iI ((b : Int)))) (hN h) 6 (iI ((no : Int)))) (hN h) 7 (iI (A))) (hN h) 8 (iI (B))) (hN h) 9 (iI (D))) (hN h) 10 (iI (g 0 15))) (hN h) 11 (iI (g 0 16))) (hN h) 12 (iI (g 0 17))) (hN h) 13 (iI (g 0 13))) (hN h) 14 (iI (g 0 14))) (hN h) 15 (iI (0))) := ⟨_, rfl⟩
  have q0 := hs.hour
  have q1 := hs.coins
  have q2 := hs.peeled
  have q3 := hs.sold
  have q4 := hs.done
  have q5 := hs.miles
  have q6 := hs.current
  refine ⟨sI (hA h 101 16) F, ?_, Gx.row F fun a ha => ?_⟩
  · have ev : F (hN h) w = iI (mRow m b no g w) := by
      rw [hF]
      unfold mRow
      rcases (show w = 0 ∨ w = 1 ∨ w = 2 ∨ w = 3 ∨ w = 4 ∨ w = 5 ∨ w = 6 ∨ w = 7 ∨ w = 8 ∨ w = 9 ∨ w = 10 ∨ w = 11 ∨ w = 12 ∨ w = 13 ∨ w = 14 ∨ w = 15 by omega) with rfl | rfl | rfl | rfl | rfl | rfl | rfl | rfl | rfl | rfl | rfl | rfl | rfl | rfl | rfl | rfl
      · simp (disch := omega) only [up2_n, up2_e]; rfl
      · simp (disch := omega) only [up2_n, up2_e]; rfl
      · simp (disch := omega) only [up2_n, up2_e]; show _ = iI (g 0 6); rw [s6]
      · simp (disch := omega) only [up2_n, up2_e]; show _ = iI (g 0 7); rw [s7]
      · simp (disch := omega) only [up2_n, up2_e]; show _ = iI (g 0 8); rw [s8]
      · simp (disch := omega) only [up2_n, up2_e]; show _ = iI (g 0 9); rw [s9]
      · simp (disch := omega) only [up2_n, up2_e, ↓reduceIte]
      · simp (disch := omega) only [up2_n, up2_e]; show _ = iI (sumF (fun k => g (43 + k) 0) 4); rw [hA']
      · simp (disch := omega) only [up2_n, up2_e]; show _ = iI (sumF (fun k => g (11 + 5 * k) 1) m); rw [hB']
      · simp (disch := omega) only [up2_n, up2_e]; show _ = iI (sumF (fun i => g (39 + i) 4) b); rw [hD']
      · simp (disch := omega) only [up2_n, up2_e]; rfl
      · simp (disch := omega) only [up2_n, up2_e]; rfl
      · simp (disch := omega) only [up2_n, up2_e]; rfl
      · simp (disch := omega) only [up2_n, up2_e]; rfl
      · simp (disch := omega) only [up2_n, up2_e]; rfl
      · simp (disch := omega) only [up2_n, up2_e]; rfl
    rw [← ev, hA', hB', hD']
    clear ev
    rw [hF]
    simp (disch := first | decide | omega) only [f_Sim_counted_b133, Nat.add_zero, true_and, and_true, gd_T, bn_S, bv_S, lq_E, wI_s, sI_s, hI_s, hT_s, hL_s, hR_s, hJ_s, hN_s, hU_s, hN_a, hU_a, hT_a, hL_a, hI_a, hR_a, hJ_a, up1_e, up1_n, nI_i, cst_L, z_i, iI_lt, iI_le, iI_eq, iI_ix, Int.toNat_natCast, toNat_L, if_neg, if_pos, gd_P, inb, ix, hM.t, hM.r12, hM.r14, hM.r15, hM.r16, hM.r17, hM.tga, hM.lga, hM.tra, hM.lra, hM.tpe, hM.lpe, hM.tbo, hM.lbo, hM.tor, hM.lor, q0, q1, q2, q3, q4, q5, q6, up2_n, up2_e]
  · rw [hF]
    funext s
    simp (disch := omega) only [up2_n, up1_n]
end

/-! 64 L3: the sim: loading; grades of bundles -/
section
variable {xA n m p b no : Nat} {O : Nat → Nat → Int} {T C Pb : Int} {h : AH} {g : GM}
theorem load_re {i k : Nat} {q : Int} (hk : k < 4) (h2 : g (39 + i) 2 = 0) (hi : i < 4) : up2 (up2 (up2 (up2 (up2 g (43 + k) 0 (g (43 + k) 0 - q)) (39 + i) 2 0) (39 + i) 3 1) (39 + i) 4 q) (39 + i) 5 (k : Int) = mLoad i k q g := by
  funext c s
  unfold mLoad
  by_cases e : c = 39 + i
  · subst e
    by_cases e5 : s = 5
    · subst e5; simp (disch := omega) only [up2_n, up2_e]
    · by_cases e4 : s = 4
      · subst e4; simp (disch := omega) only [up2_n, up2_e]
      · by_cases e3 : s = 3
        · subst e3; simp (disch := omega) only [up2_n, up2_e]
        · by_cases e2 : s = 2
          · subst e2; simp (disch := omega) only [up2_n, up2_e]; exact h2.symm
          · simp (disch := omega) only [up2_n]
  · by_cases e1 : c = 43 + k ∧ s = 0
    · obtain ⟨rfl, rfl⟩ := e1; simp (disch := omega) only [up2_n, up2_e]
    · simp (disch := omega) only [up2_n]
theorem load_S (hN : Nm n m p b) (hs : Sm xA n m p b no O h g) (hB : IvB b g) {i k : Nat} (hi : i < b) (hk : k < 4) (h3 : 0 ≤ g (43 + k) 0) (h4 : g (43 + k) 0 ≤ 1000000) {w : Int} (w1 : -1000000 ≤ w) (w2 : w ≤ 1000000) :
    if 1 ≤ mMany g i k w then ∃ F, f_Sim_load h 320 (iI (i : Int)) (iI (k : Int)) (iI w) = some (sI h F, iI (mMany g i k w)) ∧ Sm xA n m p b no O (sI h F) (mLoad i k (mMany g i k w) g) ∧ Fs (338 + n + m + p + b + no) (hI h) F
    else f_Sim_load h 320 (iI (i : Int)) (iI (k : Int)) (iI w) = some (h, iI 0) := by
  have hN' := hN
  unfold Nm at hN'
  have hM := hs.1
  have hBi := hB i hi
  have hw0 : 0 ≤ g (39 + i) 3 ∧ g (39 + i) 3 ≤ 2 := by omega
  have hq0 : 0 ≤ g (39 + i) 0 ∧ g (39 + i) 0 ≤ 40 := by omega
  have hm0 : g (39 + i) 3 = 0 → g (39 + i) 2 = 0 := by omega
  clear hBi hB
  by_cases c3 : g (39 + i) 3 = 0
  · have h2 := hm0 c3
    have hq : mMany g i k w = min (min w (g (39 + i) 0)) (g (43 + k) 0) := by unfold mMany; rw [if_pos c3]
    -- the clamped number
    obtain ⟨q, hqd, hqb⟩ : ∃ q : Int, (if 0 ≤ w then (if w ≤ g (39 + i) 0 then (if w ≤ g (43 + k) 0 then w else g (43 + k) 0) else (if g (39 + i) 0 ≤ g (43 + k) 0 then g (39 + i) 0 else g (43 + k) 0)) else (if 0 ≤ g (43 + k) 0 then 0 else g (43 + k) 0)) = q ∧ 0 ≤ q ∧ q ≤ 40 := ⟨_, rfl, by split <;> (try split) <;> (try split) <;> omega, by split <;> (try split) <;> (try split) <;> omega⟩
    have step : f_Sim_load h 320 (iI (i : Int)) (iI (k : Int)) (iI w) = f_Sim_load_b53 h 320 (iI (k : Int)) (337 + n + m + p + i) (iI q) := by
      subst hqd
      by_cases d1 : 0 ≤ w
      · rw [if_pos d1]
        by_cases d2 : w ≤ g (39 + i) 0
        · rw [if_pos d2]
          by_cases d3 : w ≤ g (43 + k) 0
          · rw [if_pos d3]
            simp (disch := first | decide | omega) only [f_Sim_load, f_Sim_load_b32, Nat.add_zero, true_and, and_true, gd_T, bn_S, bv_S, lq_E, wI_s, sI_s, hI_s, hT_s, hL_s, hR_s, hJ_s, hN_s, hU_s, nI_L, z_i, o_i, iI_add, iI_sub, iI_mul, iI_neg, iI_lt, iI_le, iI_eq, iI_ix, Int.toNat_natCast, toNat_L, if_neg, if_pos, gd_P, inb, ix, hM.t, hM.r9, hM.r16, hM.tst, hM.lst, hM.tbo, hM.lbo, hM.bR, hM.bT, hM.bL, hs.bo, hs.st]
          · rw [if_neg d3]
            simp (disch := first | decide | omega) only [f_Sim_load, f_Sim_load_b32, Nat.add_zero, true_and, and_true, gd_T, bn_S, bv_S, lq_E, wI_s, sI_s, hI_s, hT_s, hL_s, hR_s, hJ_s, hN_s, hU_s, nI_L, z_i, o_i, iI_add, iI_sub, iI_mul, iI_neg, iI_lt, iI_le, iI_eq, iI_ix, Int.toNat_natCast, toNat_L, if_neg, if_pos, gd_P, inb, ix, hM.t, hM.r9, hM.r16, hM.tst, hM.lst, hM.tbo, hM.lbo, hM.bR, hM.bT, hM.bL, hs.bo, hs.st]
        · rw [if_neg d2]
          by_cases d3 : g (39 + i) 0 ≤ g (43 + k) 0
          · rw [if_pos d3]
            simp (disch := first | decide | omega) only [f_Sim_load, f_Sim_load_b32, Nat.add_zero, true_and, and_true, gd_T, bn_S, bv_S, lq_E, wI_s, sI_s, hI_s, hT_s, hL_s, hR_s, hJ_s, hN_s, hU_s, nI_L, z_i, o_i, iI_add, iI_sub, iI_mul, iI_neg, iI_lt, iI_le, iI_eq, iI_ix, Int.toNat_natCast, toNat_L, if_neg, if_pos, gd_P, inb, ix, hM.t, hM.r9, hM.r16, hM.tst, hM.lst, hM.tbo, hM.lbo, hM.bR, hM.bT, hM.bL, hs.bo, hs.st]
          · rw [if_neg d3]
            simp (disch := first | decide | omega) only [f_Sim_load, f_Sim_load_b32, Nat.add_zero, true_and, and_true, gd_T, bn_S, bv_S, lq_E, wI_s, sI_s, hI_s, hT_s, hL_s, hR_s, hJ_s, hN_s, hU_s, nI_L, z_i, o_i, iI_add, iI_sub, iI_mul, iI_neg, iI_lt, iI_le, iI_eq, iI_ix, Int.toNat_natCast, toNat_L, if_neg, if_pos, gd_P, inb, ix, hM.t, hM.r9, hM.r16, hM.tst, hM.lst, hM.tbo, hM.lbo, hM.bR, hM.bT, hM.bL, hs.bo, hs.st]
      · rw [if_neg d1, if_pos h3]
        simp (disch := first | decide | omega) only [f_Sim_load, f_Sim_load_b32, Nat.add_zero, true_and, and_true, gd_T, bn_S, bv_S, lq_E, wI_s, sI_s, hI_s, hT_s, hL_s, hR_s, hJ_s, hN_s, hU_s, nI_L, z_i, o_i, iI_add, iI_sub, iI_mul, iI_neg, iI_lt, iI_le, iI_eq, iI_ix, Int.toNat_natCast, toNat_L, if_neg, if_pos, gd_P, inb, ix, hM.t, hM.r9, hM.r16, hM.tst, hM.lst, hM.tbo, hM.lbo, hM.bR, hM.bT, hM.bL, hs.bo, hs.st]
    rw [step]
    by_cases cq : 1 ≤ mMany g i k w
    · rw [if_pos cq]
      have hqq : mMany g i k w = q := by
        rw [hq] at cq ⊢
        subst hqd
        split <;> (try split) <;> (try split) <;> omega
      rw [hqq] at cq ⊢
      have s1 := hs.w hN (43 + k) 0 (Or.inr (Or.inr (Or.inr (Or.inr (Or.inr (Or.inr ⟨by omega, by omega, by decide⟩)))))) (a := 323) (k := k) (by rw [sA_q]; rfl) sS_q (v := g (43 + k) 0 - q) rfl (by omega)
      have s2 := s1.w hN (39 + i) 2 (Or.inr (Or.inr (Or.inr (Or.inr (Or.inr (Or.inl ⟨by omega, by omega, by decide⟩)))))) (sA_b (by omega)) (sS_b (by omega)) (v := 0) rfl (by omega)
      have s3 := s2.w hN (39 + i) 3 (Or.inr (Or.inr (Or.inr (Or.inr (Or.inr (Or.inl ⟨by omega, by omega, by decide⟩)))))) (sA_b (by omega)) (sS_b (by omega)) (v := 1) rfl (by omega)
      have s4 := Sm.quills hN s3 hi hk (q := q) (by omega)
      rw [load_re hk h2 (by omega)] at s4
      refine ⟨_, ?_, s4, (((((Fs.refl _).up _ _ _ (by omega)).up _ _ _ (by omega)).up _ _ _ (by omega)).up _ _ _ (by omega)).up _ _ _ (by omega)⟩
      clear hqd hq step s1 s2 s3 s4
      simp (disch := first | decide | omega) only [f_Sim_load_b53, Nat.add_zero, true_and, and_true, gd_T, bn_S, bv_S, lq_E, wI_s, sI_s, hI_s, hT_s, hL_s, hR_s, hJ_s, hN_s, hU_s, nI_L, z_i, o_i, iI_add, iI_sub, iI_mul, iI_neg, iI_lt, iI_le, iI_eq, iI_ix, Int.toNat_natCast, toNat_L, if_neg, if_pos, gd_P, inb, ix, hM.t, hM.r9, hM.tst, hM.lst, hM.bT, hM.bL, hs.bo, hs.st, c3, up2_e, up2_n]
    · rw [if_neg cq]
      have q0 : q = 0 := by
        rw [hq] at cq
        subst hqd
        split <;> (try split) <;> (try split) <;> omega
      clear hqd hq step
      subst q0
      simp (disch := first | decide | omega) only [f_Sim_load_b53, Nat.add_zero, true_and, and_true, gd_T, bn_S, bv_S, lq_E, wI_s, sI_s, hI_s, hT_s, hL_s, hR_s, hJ_s, hN_s, hU_s, nI_L, z_i, o_i, iI_add, iI_sub, iI_mul, iI_neg, iI_lt, iI_le, iI_eq, iI_ix, Int.toNat_natCast, toNat_L, if_neg, if_pos, gd_P, inb, ix, hM.bT, hM.bL, hs.bo, c3]
  · have hq : mMany g i k w = 0 := by unfold mMany; rw [if_neg c3]
    rw [if_neg (by omega)]
    have any : ∀ x, f_Sim_load_b53 h 320 (iI (k : Int)) (337 + n + m + p + i) x = some (h, iI 0) := fun x => by
      simp (disch := first | decide | omega) only [f_Sim_load_b53, Nat.add_zero, true_and, and_true, gd_T, bn_S, bv_S, lq_E, wI_s, sI_s, hI_s, hT_s, hL_s, hR_s, hJ_s, hN_s, hU_s, nI_L, z_i, o_i, iI_add, iI_sub, iI_mul, iI_neg, iI_lt, iI_le, iI_eq, iI_ix, Int.toNat_natCast, toNat_L, if_neg, if_pos, gd_P, inb, ix, hM.bT, hM.bL, hs.bo]
    have any2 : ∀ x, f_Sim_load_b32 h 320 (iI (k : Int)) (337 + n + m + p + i) x = some (h, iI 0) := fun x => by
      simp (disch := first | decide | omega) only [f_Sim_load_b32, any, ite_self, lq_E, z_i, iI_lt, iI_le, iI_eq, iI_ix, Int.toNat_natCast, toNat_L, inb, ix, gd_P, hM.t, hM.r9, hM.tst, hM.lst, true_and]
    simp (disch := first | decide | omega) only [f_Sim_load, any2, ite_self, Nat.add_zero, true_and, and_true, gd_T, bn_S, bv_S, lq_E, wI_s, sI_s, hI_s, hT_s, hL_s, hR_s, hJ_s, hN_s, hU_s, nI_L, z_i, o_i, iI_add, iI_sub, iI_mul, iI_neg, iI_lt, iI_le, iI_eq, iI_ix, Int.toNat_natCast, toNat_L, if_neg, if_pos, gd_P, inb, ix, hM.t, hM.r16, hM.tbo, hM.lbo, hM.bR, hM.bT, hM.bL]
end

/-! 43 L3: whetting, loading, resting, in the class -/
theorem whets_E {n m p b r : Nat} {h : AH} {g : GM} (hm : m ≤ 4) (hp : p ≤ 8) (hS : SkR h r) (hP : RP n m p b r (hI h) g) (hg : g 0 8 = p) {i : Nat} (hi : i < p) (h1 : 0 ≤ g (31 + i) 3) (h2 : g (31 + i) 3 ≤ 20) (h3 : 0 ≤ g 0 12) (h4 : g 0 12 ≤ 1000000) (hc : g (31 + i) 3 < 20 ∧ 2 ≤ g 0 12) :
    ∃ F, f_River_whetsKnife h r (iI (i : Int)) = some (sI h F, iI 1) ∧ RP n m p b r F (mWhet i g) ∧ Fm r (hI h) F := by
  have f1 := hasPeeler_E hS hP (i := (i : Int)) (by omega) (by omega) hp hg
  obtain ⟨c1, c2⟩ := hc
  unfold mWhet
  refine ⟨_, ?_, ((hP.up (by omega) 0 12 (v := g 0 12 - 2) rfl (by omega)).up (by omega) (31 + i) 3 (v := 20) rfl (by omega)).up (by omega) (31 + i) 5 (v := g (31 + i) 5 + 1) rfl (by omega), (((Fm.refl _ _).up 0 _ _ (by omega)).up _ _ _ (by omega)).up _ _ _ (by omega)⟩
  simp (disch := first | decide | omega) only [f_River_whetsKnife, Nat.add_zero, true_and, and_true, gd_T, bn_S, bv_S, lq_E, wI_s, sI_s, hI_s, hT_s, hL_s, hR_s, hJ_s, hN_s, hU_s, nI_L, z_i, o_i, iI_add, iI_sub, iI_mul, iI_neg, iI_lt, iI_le, iI_eq, iI_ix, Int.toNat_natCast, if_neg, if_pos, gd_P, inb, ix, hS.t, hS.f0, hS.f1, hS.f2, hS.f3, hS.f4, hS.f5, hS.at1, hS.al1, hS.at2, hS.al2, hS.at3, hS.al3, hS.at4, hS.al4, hS.at5, hS.al5, hS.at6, hS.al6, hS.gR, hS.gT, hS.kR, hS.kT, hS.k3, hS.k4, hS.k5, hS.k6, hS.kt1, hS.kt2, hS.kt3, hS.kt4, hS.kl1, hS.kl2, hS.kl3, hS.kl4, hS.pR, hS.pT, hS.bR, hS.bT, hS.qR, hS.qT, hP.sc, hP.pe, f1, up2_e, up2_n]
theorem whets_N {n m p b r : Nat} {h : AH} {g : GM} (hp : p ≤ 8) (hS : SkR h r) (hP : RP n m p b r (hI h) g) (hg : g 0 8 = p) {i : Nat} (hi : i < p) (h1 : 0 ≤ g (31 + i) 3) (h2 : g (31 + i) 3 ≤ 20) (h3 : 0 ≤ g 0 12) (h4 : g 0 12 ≤ 1000000) (hc : ¬ (g (31 + i) 3 < 20 ∧ 2 ≤ g 0 12)) :
    f_River_whetsKnife h r (iI (i : Int)) = some (h, iI 0) := by
  have f1 := hasPeeler_E hS hP (i := (i : Int)) (by omega) (by omega) hp hg
  by_cases c1 : g (31 + i) 3 < 20
  · have c2 : g 0 12 < 2 := by omega
    simp (disch := first | decide | omega) only [f_River_whetsKnife, Nat.add_zero, true_and, and_true, gd_T, bn_S, bv_S, lq_E, wI_s, sI_s, hI_s, hT_s, hL_s, hR_s, hJ_s, hN_s, hU_s, nI_L, z_i, o_i, iI_add, iI_sub, iI_mul, iI_neg, iI_lt, iI_le, iI_eq, iI_ix, Int.toNat_natCast, if_neg, if_pos, gd_P, inb, ix, hS.t, hS.f0, hS.f1, hS.f2, hS.f3, hS.f4, hS.f5, hS.at1, hS.al1, hS.at2, hS.al2, hS.at3, hS.al3, hS.at4, hS.al4, hS.at5, hS.al5, hS.at6, hS.al6, hS.gR, hS.gT, hS.kR, hS.kT, hS.k3, hS.k4, hS.k5, hS.k6, hS.kt1, hS.kt2, hS.kt3, hS.kt4, hS.kl1, hS.kl2, hS.kl3, hS.kl4, hS.pR, hS.pT, hS.bR, hS.bT, hS.qR, hS.qT, hP.sc, hP.pe, f1]
  · simp (disch := first | decide | omega) only [f_River_whetsKnife, Nat.add_zero, true_and, and_true, gd_T, bn_S, bv_S, lq_E, wI_s, sI_s, hI_s, hT_s, hL_s, hR_s, hJ_s, hN_s, hU_s, nI_L, z_i, o_i, iI_add, iI_sub, iI_mul, iI_neg, iI_lt, iI_le, iI_eq, iI_ix, Int.toNat_natCast, if_neg, if_pos, gd_P, inb, ix, hS.t, hS.f0, hS.f1, hS.f2, hS.f3, hS.f4, hS.f5, hS.at1, hS.al1, hS.at2, hS.al2, hS.at3, hS.al3, hS.at4, hS.al4, hS.at5, hS.al5, hS.at6, hS.al6, hS.gR, hS.gT, hS.kR, hS.kT, hS.k3, hS.k4, hS.k5, hS.k6, hS.kt1, hS.kt2, hS.kt3, hS.kt4, hS.kl1, hS.kl2, hS.kl3, hS.kl4, hS.pR, hS.pT, hS.bR, hS.bT, hS.qR, hS.qT, hP.sc, hP.pe, f1]
theorem load_E {n m p b r : Nat} {h : AH} {g : GM} (hm : m ≤ 4) (hb : b ≤ 4) (hS : SkR h r) (hP : RP n m p b r (hI h) g) (hg : g 0 9 = b) {i k : Nat} (hi : i < b) (hk : k < 4) {w : Int} (w1 : -1000000 ≤ w) (w2 : w ≤ 1000000) (h1 : 0 ≤ g (39 + i) 0) (h2 : g (39 + i) 0 ≤ 40) (h3 : 0 ≤ g (43 + k) 0) (h4 : g (43 + k) 0 ≤ 1000000) (h5 : 0 ≤ g (39 + i) 3) (h6 : g (39 + i) 3 ≤ 2) (hc : 1 ≤ mMany g i k w) :
    ∃ F, f_River_loadBoat h r (iI (i : Int)) (iI (k : Int)) (iI w) = some (sI h F, iI (mMany g i k w)) ∧ RP n m p b r F (mLoad i k (mMany g i k w) g) ∧ Fm r (hI h) F := by
  have f1 := hasBoat_E hS hP (i := (i : Int)) (by omega) (by omega) hb hg
  have f2 := hasGrade_E (h := h) (r := r) (i := (k : Int)) (by omega) (by omega)
  have hw : g (39 + i) 3 = 0 := by unfold mMany at hc; split at hc <;> omega
  have hq : mMany g i k w = min (min w (g (39 + i) 0)) (g (43 + k) 0) := by unfold mMany; rw [if_pos hw]
  rw [hq] at hc
  rw [hq]
  generalize hq2 : min (min w (g (39 + i) 0)) (g (43 + k) 0) = q at *
  have q1 : q ≤ 40 := by omega
  clear hq
  unfold mLoad
  refine ⟨_, ?_, (((hP.up (by omega) (43 + k) 0 (v := g (43 + k) 0 - q) rfl (by omega)).up (by omega) (39 + i) 4 (v := q) rfl (by omega)).up (by omega) (39 + i) 5 (v := (k : Int)) rfl (by omega)).up (by omega) (39 + i) 3 (v := 1) rfl (by omega), ((((Fm.refl _ _).up _ _ _ (by omega)).up _ _ _ (by omega)).up _ _ _ (by omega)).up _ _ _ (by omega)⟩
  simp (disch := first | decide | omega) only [f_River_loadBoat, Nat.add_zero, true_and, and_true, gd_T, bn_S, bv_S, lq_E, wI_s, sI_s, hI_s, hT_s, hL_s, hR_s, hJ_s, hN_s, hU_s, nI_L, z_i, o_i, iI_add, iI_sub, iI_mul, iI_neg, iI_lt, iI_le, iI_eq, iI_ix, Int.toNat_natCast, if_neg, if_pos, gd_P, inb, ix, hS.t, hS.f0, hS.f1, hS.f2, hS.f3, hS.f4, hS.f5, hS.at1, hS.al1, hS.at2, hS.al2, hS.at3, hS.al3, hS.at4, hS.al4, hS.at5, hS.al5, hS.at6, hS.al6, hS.gR, hS.gT, hS.kR, hS.kT, hS.k3, hS.k4, hS.k5, hS.k6, hS.kt1, hS.kt2, hS.kt3, hS.kt4, hS.kl1, hS.kl2, hS.kl3, hS.kl4, hS.pR, hS.pT, hS.bR, hS.bT, hS.qR, hS.qT, hP.gr, hP.bo, f1, f2, hw, min_E, hq2, up2_e, up2_n]
theorem load_N {n m p b r : Nat} {h : AH} {g : GM} (hb : b ≤ 4) (hS : SkR h r) (hP : RP n m p b r (hI h) g) (hg : g 0 9 = b) {i k : Nat} (hi : i < b) (hk : k < 4) {w : Int} (w1 : -1000000 ≤ w) (w2 : w ≤ 1000000) (h1 : 0 ≤ g (39 + i) 0) (h2 : g (39 + i) 0 ≤ 40) (h3 : 0 ≤ g (43 + k) 0) (h4 : g (43 + k) 0 ≤ 1000000) (h5 : 0 ≤ g (39 + i) 3) (h6 : g (39 + i) 3 ≤ 2) (hc : ¬ 1 ≤ mMany g i k w) :
    f_River_loadBoat h r (iI (i : Int)) (iI (k : Int)) (iI w) = some (h, iI 0) := by
  have f1 := hasBoat_E hS hP (i := (i : Int)) (by omega) (by omega) hb hg
  have f2 := hasGrade_E (h := h) (r := r) (i := (k : Int)) (by omega) (by omega)
  by_cases hw : g (39 + i) 3 = 0
  · have hq : mMany g i k w = min (min w (g (39 + i) 0)) (g (43 + k) 0) := by unfold mMany; rw [if_pos hw]
    rw [hq] at hc
    clear hq
    simp (disch := first | decide | omega) only [f_River_loadBoat, Nat.add_zero, true_and, and_true, gd_T, bn_S, bv_S, lq_E, wI_s, sI_s, hI_s, hT_s, hL_s, hR_s, hJ_s, hN_s, hU_s, nI_L, z_i, o_i, iI_add, iI_sub, iI_mul, iI_neg, iI_lt, iI_le, iI_eq, iI_ix, Int.toNat_natCast, if_neg, if_pos, gd_P, inb, ix, hS.t, hS.f0, hS.f1, hS.f2, hS.f3, hS.f4, hS.f5, hS.at1, hS.al1, hS.at2, hS.al2, hS.at3, hS.al3, hS.at4, hS.al4, hS.at5, hS.al5, hS.at6, hS.al6, hS.gR, hS.gT, hS.kR, hS.kT, hS.k3, hS.k4, hS.k5, hS.k6, hS.kt1, hS.kt2, hS.kt3, hS.kt4, hS.kl1, hS.kl2, hS.kl3, hS.kl4, hS.pR, hS.pT, hS.bR, hS.bT, hS.qR, hS.qT, hP.gr, hP.bo, f1, f2, hw, min_E]
  · simp (disch := first | decide | omega) only [f_River_loadBoat, Nat.add_zero, true_and, and_true, gd_T, bn_S, bv_S, lq_E, wI_s, sI_s, hI_s, hT_s, hL_s, hR_s, hJ_s, hN_s, hU_s, nI_L, z_i, o_i, iI_add, iI_sub, iI_mul, iI_neg, iI_lt, iI_le, iI_eq, iI_ix, Int.toNat_natCast, if_neg, if_pos, gd_P, inb, ix, hS.t, hS.f0, hS.f1, hS.f2, hS.f3, hS.f4, hS.f5, hS.at1, hS.al1, hS.at2, hS.al2, hS.at3, hS.al3, hS.at4, hS.al4, hS.at5, hS.al5, hS.at6, hS.al6, hS.gR, hS.gT, hS.kR, hS.kT, hS.k3, hS.k4, hS.k5, hS.k6, hS.kt1, hS.kt2, hS.kt3, hS.kt4, hS.kl1, hS.kl2, hS.kl3, hS.kl4, hS.pR, hS.pT, hS.bR, hS.bT, hS.qR, hS.qT, hP.gr, hP.bo, f1, f2]
-- what a river must keep while orders are carried out
def Ok (n m p b : Nat) (g : GM) : Prop := g 0 6 = n ∧ g 0 7 = m ∧ g 0 8 = p ∧ g 0 9 = b ∧ 0 ≤ g 0 12 ∧ g 0 12 ≤ 1000000 ∧ (∀ i, i < p → 0 ≤ g (31 + i) 3 ∧ g (31 + i) 3 ≤ 20) ∧ (∀ i, i < b → 0 ≤ g (39 + i) 0 ∧ g (39 + i) 0 ≤ 40 ∧ 0 ≤ g (39 + i) 3 ∧ g (39 + i) 3 ≤ 2) ∧ ∀ k, k < 4 → 0 ≤ g (43 + k) 0 ∧ g (43 + k) 0 ≤ 1000000
theorem tk_whet {n m p b r : Nat} (hN : Nm n m p b) (hr : 206 ≤ r) {g : GM} (hk : Ok n m p b g) {l : List Int} (hl : l.length < 398) {i : Nat} (hi : i < p) {v : Int} (hv : v = 0 ∨ v = 1) : Tk n m p b r (nI 22) (iI (i : Int)) (v :: l) g l (if v = 1 ∧ g (31 + i) 3 < 20 ∧ 2 ≤ g 0 12 then mDone (mWhet i g) else g) := by
  intro h hS hO hP hs
  obtain ⟨-, -, k3, -, k5, k6, k7, -⟩ := hk
  obtain ⟨k8, k9⟩ := k7 i hi
  have hp : p ≤ 8 := by unfold Nm at hN; omega
  have hm : m ≤ 4 := by unfold Nm at hN; omega
  obtain ⟨e1, e2⟩ := pop_E hO hs (by omega)
  have P1 : RP n m p b r (up2 (hI h) 202 4 (iI (l.length : Int))) g := hP.fr hN (fun c s _ => by rw [up2_n _ _ _ _ _ _ (by omega)])
  have f1 := hasPeeler_E (h := sI h (up2 (hI h) 202 4 (iI (l.length : Int)))) hS P1 (i := (i : Int)) (by omega) (by omega) hp k3
  rcases hv with rfl | rfl
  · rw [if_neg (by omega)]
    refine ⟨_, ?_, P1, e2, (Fo.refl _ _).hg _⟩
    simp (disch := first | decide | omega) only [f_Orders_take, f_Orders_whetByOrder, f_Orders_whetByOrder_b12, Nat.add_zero, true_and, and_true, gd_T, bn_S, bv_S, lq_E, wI_s, sI_s, hI_s, hT_s, hL_s, hR_s, hJ_s, hN_s, hU_s, nI_L, z_i, o_i, iI_add, iI_sub, iI_mul, iI_neg, iI_lt, iI_le, iI_eq, iI_ix, Int.toNat_natCast, if_neg, if_pos, gd_P, inb, ix, hO.t, e1]
  · by_cases c : g (31 + i) 3 < 20 ∧ 2 ≤ g 0 12
    · rw [if_pos ⟨rfl, c⟩]
      obtain ⟨F, q1, q2, q3⟩ := whets_E (h := sI h (up2 (hI h) 202 4 (iI (l.length : Int)))) hm hp hS P1 k3 hi k8 k9 k5 k6 c
      refine ⟨_, ?_, q2.up hm 0 17 (v := mWhet i g 0 17 + 1) rfl (by omega), ?_, (((Fo.refl _ _).hg _).trans q3.o).up 0 17 _ (by omega)⟩
      · simp (disch := first | decide | omega) only [f_Orders_take, f_Orders_whetByOrder, f_Orders_whetByOrder_b12, Nat.add_zero, true_and, and_true, gd_T, bn_S, bv_S, lq_E, wI_s, sI_s, hI_s, hT_s, hL_s, hR_s, hJ_s, hN_s, hU_s, nI_L, z_i, o_i, iI_add, iI_sub, iI_mul, iI_neg, iI_lt, iI_le, iI_eq, iI_ix, Int.toNat_natCast, if_neg, if_pos, gd_P, inb, ix, hO.t, hS.t, e1, f1, q1, q2.sc]
      · refine e2.fr fun c s hc => ?_
        rw [up2_n _ _ _ _ _ _ (by omega)]
        exact q3 c s (by omega)
    · rw [if_neg (fun q => c q.2)]
      have q1 := whets_N (h := sI h (up2 (hI h) 202 4 (iI (l.length : Int)))) hp hS P1 k3 hi k8 k9 k5 k6 c
      refine ⟨_, ?_, P1, e2, (Fo.refl _ _).hg _⟩
      simp (disch := first | decide | omega) only [f_Orders_take, f_Orders_whetByOrder, f_Orders_whetByOrder_b12, Nat.add_zero, true_and, and_true, gd_T, bn_S, bv_S, lq_E, wI_s, sI_s, hI_s, hT_s, hL_s, hR_s, hJ_s, hN_s, hU_s, nI_L, z_i, o_i, iI_add, iI_sub, iI_mul, iI_neg, iI_lt, iI_le, iI_eq, iI_ix, Int.toNat_natCast, if_neg, if_pos, gd_P, inb, ix, hO.t, hS.t, e1, f1, q1]

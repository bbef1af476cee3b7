/-! 54 L3: a rack, a whole river is copied (written by l3/gen54.py) -/
def Rj (n i j : Nat) (g : GM) (c s : Nat) : Prop := (Lq 12 n i 0 0 0 (mct g) c s ∨ (c = 11 + 5 * i ∧ s < 3)) ∨ ((c = 12 + 5 * i ∨ c = 13 + 5 * i ∨ c = 14 + 5 * i ∨ c = 15 + 5 * i) ∧ s < j)
theorem cp_rack {n m p b a o : Nat} (hN : Nm n m p b) (hao : a + 47 ≤ o ∨ o + 47 ≤ a) {h : AH} {g : GM} (hA : SkR h a) (hS : SkR h o) {F0 F : Nat → Nat → Int32} {i : Nat} (hi : i < m) (h0 : 0 ≤ mct g i) (h60 : mct g i ≤ 60) (hc : Cp n m p b a o (Lq 12 n i 0 0 0 (mct g)) F0 F g) :
    ∃ F', f_Rack_copyFrom (sI h F) (a + (11 + 5 * i)) (o + (11 + 5 * i)) = some (sI h F') ∧ Cp n m p b a o (Lq 12 n (i + 1) 0 0 0 (mct g)) F0 F' g := by
  have hN' := hN
  unfold Nm at hN'
  have hP := hc.2.1
  have c1 : Cp n m p b a o (Rj n i 0 g) F0 _ g := (((hc.w hN hao (11 + 5 * i) 0 (by omega) (x := iI (g (11 + 5 * i) 0)) rfl).w hN hao (11 + 5 * i) 1 (by omega) (x := iI (g (11 + 5 * i) 1)) rfl).w hN hao (11 + 5 * i) 2 (by omega) (x := iI (g (11 + 5 * i) 2)) rfl).mono (fun c s hl => by
    rcases hl with (h1 | ⟨h1, h2⟩) | ⟨h1, h2⟩
    · exact Or.inl (Or.inl (Or.inl h1))
    · rcases (show s = 0 ∨ s = 1 ∨ s = 2 by omega) with rfl | rfl | rfl
      · exact Or.inl (Or.inl (Or.inr ⟨h1, rfl⟩))
      · exact Or.inl (Or.inr ⟨h1, rfl⟩)
      · exact Or.inr ⟨h1, rfl⟩
    · omega)
  obtain ⟨F2, d1, d2⟩ := loopG (fun fu h x => f_Rack_copyFrom_l26 fu h (a + (11 + 5 * i)) (o + (11 + 5 * i)) x) (fun h => some h) (mct g i).toNat h (fun j F => Cp n m p b a o (Rj n i j g) F0 F g) (by
    intro fu j F hj hc
    have hP := hc.2.1
    have hjc : (j : Int) < mct g i := by omega
    have b1 := hP.b1 i j hi hjc
    have b2 := hP.b2 i j hi hjc
    have b3 := hP.b3 i j hi hjc
    have b4 := hP.b4 i j hi hjc
    have e2 : F (a + (11 + 5 * i)) 2 = iI (g (11 + 5 * i) 2) := hc.1 _ _ (Or.inl (Or.inr ⟨rfl, by decide⟩))
    refine ⟨_, ?_, ((((hc.w hN hao (12 + 5 * i) j (by omega) (x := iI (g (12 + 5 * i) j)) rfl).w hN hao (13 + 5 * i) j (by omega) (x := iI (g (13 + 5 * i) j)) rfl).w hN hao (14 + 5 * i) j (by omega) (x := iI (g (14 + 5 * i) j)) rfl).w hN hao (15 + 5 * i) j (by omega) (x := iI (g (15 + 5 * i) j)) rfl).mono ?_⟩
    · unfold mct at hjc h60
      show f_Rack_copyFrom_b26 (f_Rack_copyFrom_l26 fu) (sI h F) (a + (11 + 5 * i)) (o + (11 + 5 * i)) (iI (j : Int)) = _
      simp (disch := first | decide | omega) only [f_Rack_copyFrom_b26, Nat.add_zero, true_and, and_true, gd_T, bn_S, bv_S, lq_E, wI_s, sI_s, hI_s, hT_s, hL_s, hR_s, hJ_s, hN_s, hU_s, nI_L, z_i, o_i, iI_add, iI_sub, iI_mul, iI_neg, iI_lt, iI_le, iI_eq, iI_ix, Int.toNat_natCast, if_neg, if_pos, gd_P, inb, ix, hA.kT, hA.k3, hA.k4, hA.k5, hA.k6, hA.kt1, hA.kt2, hA.kt3, hA.kt4, hA.kl1, hA.kl2, hA.kl3, hA.kl4, hS.kT, hS.k3, hS.k4, hS.k5, hS.k6, hS.kt1, hS.kt2, hS.kt3, hS.kt4, hS.kl1, hS.kl2, hS.kl3, hS.kl4, e2, b1, b2, b3, b4, up2_e, up2_n]
      rfl
    · intro c s hl
      rcases hl with h1 | ⟨h1, h2⟩
      · exact Or.inl (Or.inl (Or.inl (Or.inl (Or.inl h1))))
      · by_cases q : s = j
        · subst q
          rcases h1 with h1 | h1 | h1 | h1
          · exact Or.inl (Or.inl (Or.inl (Or.inr ⟨h1, rfl⟩)))
          · exact Or.inl (Or.inl (Or.inr ⟨h1, rfl⟩))
          · exact Or.inl (Or.inr ⟨h1, rfl⟩)
          · exact Or.inr ⟨h1, rfl⟩
        · exact Or.inl (Or.inl (Or.inl (Or.inl (Or.inr ⟨h1, by omega⟩))))) (by
    intro fu F hc
    have e2 : F (a + (11 + 5 * i)) 2 = iI (g (11 + 5 * i) 2) := hc.1 _ _ (Or.inl (Or.inr ⟨rfl, by decide⟩))
    unfold mct at h0 h60 ⊢
    show f_Rack_copyFrom_b26 (f_Rack_copyFrom_l26 fu) (sI h F) (a + (11 + 5 * i)) (o + (11 + 5 * i)) (iI ((g (11 + 5 * i) 2).toNat : Int)) = _
    simp (disch := first | decide | omega) only [f_Rack_copyFrom_b26, Nat.add_zero, true_and, and_true, gd_T, bn_S, bv_S, lq_E, wI_s, sI_s, hI_s, hT_s, hL_s, hR_s, hJ_s, hN_s, hU_s, iI_lt, iI_le, iI_eq, iI_ix, Int.toNat_natCast, if_neg, if_pos, gd_P, inb, ix, hA.kT, e2]) (mct g i).toNat 0 FU _ (by omega) (by unfold FU; omega) c1
  refine ⟨F2, ?_, d2.mono ?_⟩
  · refine Eq.trans ?_ d1
    have r0 := hP.ra i 0 hi (by decide)
    have r1 := hP.ra i 1 hi (by decide)
    have r2 := hP.ra i 2 hi (by decide)
    simp (disch := first | decide | omega) only [f_Rack_copyFrom, Nat.add_zero, true_and, and_true, gd_T, bn_S, bv_S, lq_E, wI_s, sI_s, hI_s, hT_s, hL_s, hR_s, hJ_s, hN_s, hU_s, nI_L, z_i, o_i, iI_add, iI_sub, iI_mul, iI_neg, if_neg, if_pos, gd_P, inb, ix, hA.kT, hS.kT, r0, r1, r2, up2_e, up2_n]
    rfl
  · intro c s hl
    rcases Lq_m hl with h1 | h1 | ⟨h1, h2⟩
    · exact Or.inl (Or.inl h1)
    · exact Or.inl (Or.inr h1)
    · exact Or.inr ⟨h1, by omega⟩
theorem cp_grades {n m p b a o : Nat} (hN : Nm n m p b) (hao : a + 47 ≤ o ∨ o + 47 ≤ a) {h : AH} {g : GM} (hA : SkR h a) (hS : SkR h o) {F0 F : Nat → Nat → Int32} (hc : Cp n m p b a o (Lq 12 n m p b 0 (mct g)) F0 F g) :
    ∃ F', f_River_copyAllFrom_b145 (sI h F) a o = some (sI h F') ∧ Cp n m p b a o (Lq 12 n m p b 4 (mct g)) F0 F' g := by
  obtain ⟨F2, d1, d2⟩ := loopG (fun fu h x => f_River_copyAllFrom_l147 fu h a o x) (fun h => some h) 4 h (fun j F => Cp n m p b a o (Lq 12 n m p b j (mct g)) F0 F g) (by
    intro fu j F hj hc
    obtain ⟨F1, e1, e2⟩ := cp_Grade hN hao hA hS hj hc
    refine ⟨F1, ?_, e2⟩
    show f_River_copyAllFrom_b147 (f_River_copyAllFrom_l147 fu) (sI h F) a o (iI (j : Int)) = _
    simp (disch := first | decide | omega) only [f_River_copyAllFrom_b147, Nat.add_zero, true_and, and_true, gd_T, bn_S, bv_S, lq_E, wI_s, sI_s, hI_s, hT_s, hL_s, hR_s, hJ_s, hN_s, hU_s, nI_L, z_i, o_i, iI_add, iI_sub, iI_mul, iI_neg, iI_lt, iI_le, iI_eq, iI_ix, Int.toNat_natCast, if_neg, if_pos, gd_P, inb, ix, hA.t, hA.f4, hA.at5, hA.al5, hA.qR, hA.qT, hS.t, hS.f4, hS.at5, hS.al5, hS.qR, hS.qT, e1]
    rfl) (by
    intro fu F hc
    show f_River_copyAllFrom_b147 (f_River_copyAllFrom_l147 fu) (sI h F) a o (iI 4) = _
    simp (disch := first | decide | omega) only [f_River_copyAllFrom_b147, nI_L, z_i, o_i, iI_add, iI_sub, iI_mul, iI_neg, iI_lt, iI_le, iI_eq, iI_ix, Int.toNat_natCast, if_neg, if_pos, gd_P, inb, ix]) 4 0 FU F (by omega) (by unfold FU; omega) hc
  exact ⟨F2, d1, d2⟩
theorem cp_boats {n m p b a o : Nat} (hN : Nm n m p b) (hao : a + 47 ≤ o ∨ o + 47 ≤ a) {h : AH} {g : GM} (hA : SkR h a) (hS : SkR h o) {F0 F : Nat → Nat → Int32} (hg : g 0 9 = b) (hc : Cp n m p b a o (Lq 12 n m p 0 0 (mct g)) F0 F g) :
    ∃ F', f_River_copyAllFrom_b109 (sI h F) a o = f_River_copyAllFrom_b145 (sI h F') a o ∧ Cp n m p b a o (Lq 12 n m p b 0 (mct g)) F0 F' g := by
  have hN' := hN
  unfold Nm at hN'
  obtain ⟨F2, d1, d2⟩ := loopG (fun fu h x => f_River_copyAllFrom_l111 fu h a o x) (fun h => f_River_copyAllFrom_b145 h a o) b h (fun j F => Cp n m p b a o (Lq 12 n m p j 0 (mct g)) F0 F g) (by
    intro fu j F hj hc
    have hs : F (a + 0) 9 = iI (b : Int) := by rw [← hg]; exact hc.1 0 9 (Or.inl ⟨rfl, by decide, by decide⟩)
    rw [Nat.add_zero] at hs
    obtain ⟨F1, e1, e2⟩ := cp_Boat hN hao hA hS hj hc
    refine ⟨F1, ?_, e2⟩
    show f_River_copyAllFrom_b111 (f_River_copyAllFrom_l111 fu) (sI h F) a o (iI (j : Int)) = _
    simp (disch := first | decide | omega) only [f_River_copyAllFrom_b111, Nat.add_zero, true_and, and_true, gd_T, bn_S, bv_S, lq_E, wI_s, sI_s, hI_s, hT_s, hL_s, hR_s, hJ_s, hN_s, hU_s, nI_L, z_i, o_i, iI_add, iI_sub, iI_mul, iI_neg, iI_lt, iI_le, iI_eq, iI_ix, Int.toNat_natCast, if_neg, if_pos, gd_P, inb, ix, hA.t, hA.f3, hA.at4, hA.al4, hA.bR, hA.bT, hS.t, hS.f3, hS.at4, hS.al4, hS.bR, hS.bT, hs, e1]
    rfl) (by
    intro fu F hc
    have hs : F (a + 0) 9 = iI (b : Int) := by rw [← hg]; exact hc.1 0 9 (Or.inl ⟨rfl, by decide, by decide⟩)
    rw [Nat.add_zero] at hs
    show f_River_copyAllFrom_b111 (f_River_copyAllFrom_l111 fu) (sI h F) a o (iI (b : Int)) = _
    simp (disch := first | decide | omega) only [f_River_copyAllFrom_b111, Nat.add_zero, true_and, and_true, gd_T, bn_S, bv_S, lq_E, wI_s, sI_s, hI_s, hT_s, hL_s, hR_s, hJ_s, hN_s, hU_s, iI_lt, iI_le, iI_eq, iI_ix, Int.toNat_natCast, if_neg, if_pos, gd_P, inb, ix, hA.t, hs]) b 0 FU F (by omega) (by unfold FU; omega) hc
  exact ⟨F2, d1, d2⟩
theorem cp_peelers {n m p b a o : Nat} (hN : Nm n m p b) (hao : a + 47 ≤ o ∨ o + 47 ≤ a) {h : AH} {g : GM} (hA : SkR h a) (hS : SkR h o) (hr : ∀ i, i < p → ((iI (g (31 + i) 6) = 0) ∨ (iI (g (31 + i) 6) = 1)) = True) {F0 F : Nat → Nat → Int32} (hg : g 0 8 = p) (hc : Cp n m p b a o (Lq 12 n m 0 0 0 (mct g)) F0 F g) :
    ∃ F', f_River_copyAllFrom_b72 (sI h F) a o = f_River_copyAllFrom_b109 (sI h F') a o ∧ Cp n m p b a o (Lq 12 n m p 0 0 (mct g)) F0 F' g := by
  have hN' := hN
  unfold Nm at hN'
  obtain ⟨F2, d1, d2⟩ := loopG (fun fu h x => f_River_copyAllFrom_l74 fu h a o x) (fun h => f_River_copyAllFrom_b109 h a o) p h (fun j F => Cp n m p b a o (Lq 12 n m j 0 0 (mct g)) F0 F g) (by
    intro fu j F hj hc
    have hs : F (a + 0) 8 = iI (p : Int) := by rw [← hg]; exact hc.1 0 8 (Or.inl ⟨rfl, by decide, by decide⟩)
    rw [Nat.add_zero] at hs
    obtain ⟨F1, e1, e2⟩ := cp_Peeler hN hao hA hS hj (hr j hj) hc
    refine ⟨F1, ?_, e2⟩
    show f_River_copyAllFrom_b74 (f_River_copyAllFrom_l74 fu) (sI h F) a o (iI (j : Int)) = _
    simp (disch := first | decide | omega) only [f_River_copyAllFrom_b74, Nat.add_zero, true_and, and_true, gd_T, bn_S, bv_S, lq_E, wI_s, sI_s, hI_s, hT_s, hL_s, hR_s, hJ_s, hN_s, hU_s, nI_L, z_i, o_i, iI_add, iI_sub, iI_mul, iI_neg, iI_lt, iI_le, iI_eq, iI_ix, Int.toNat_natCast, if_neg, if_pos, gd_P, inb, ix, hA.t, hA.f2, hA.at3, hA.al3, hA.pR, hA.pT, hS.t, hS.f2, hS.at3, hS.al3, hS.pR, hS.pT, hs, e1]
    rfl) (by
    intro fu F hc
    have hs : F (a + 0) 8 = iI (p : Int) := by rw [← hg]; exact hc.1 0 8 (Or.inl ⟨rfl, by decide, by decide⟩)
    rw [Nat.add_zero] at hs
    show f_River_copyAllFrom_b74 (f_River_copyAllFrom_l74 fu) (sI h F) a o (iI (p : Int)) = _
    simp (disch := first | decide | omega) only [f_River_copyAllFrom_b74, Nat.add_zero, true_and, and_true, gd_T, bn_S, bv_S, lq_E, wI_s, sI_s, hI_s, hT_s, hL_s, hR_s, hJ_s, hN_s, hU_s, iI_lt, iI_le, iI_eq, iI_ix, Int.toNat_natCast, if_neg, if_pos, gd_P, inb, ix, hA.t, hs]) p 0 FU F (by omega) (by unfold FU; omega) hc
  exact ⟨F2, d1, d2⟩
theorem cp_racks {n m p b a o : Nat} (hN : Nm n m p b) (hao : a + 47 ≤ o ∨ o + 47 ≤ a) {h : AH} {g : GM} (hA : SkR h a) (hS : SkR h o) (hk : ∀ i, i < m → 0 ≤ mct g i ∧ mct g i ≤ 60) {F0 F : Nat → Nat → Int32} (hg : g 0 7 = m) (hc : Cp n m p b a o (Lq 12 n 0 0 0 0 (mct g)) F0 F g) :
    ∃ F', f_River_copyAllFrom_b36 (sI h F) a o = f_River_copyAllFrom_b72 (sI h F') a o ∧ Cp n m p b a o (Lq 12 n m 0 0 0 (mct g)) F0 F' g := by
  have hN' := hN
  unfold Nm at hN'
  obtain ⟨F2, d1, d2⟩ := loopG (fun fu h x => f_River_copyAllFrom_l38 fu h a o x) (fun h => f_River_copyAllFrom_b72 h a o) m h (fun j F => Cp n m p b a o (Lq 12 n j 0 0 0 (mct g)) F0 F g) (by
    intro fu j F hj hc
    have hs : F (a + 0) 7 = iI (m : Int) := by rw [← hg]; exact hc.1 0 7 (Or.inl ⟨rfl, by decide, by decide⟩)
    rw [Nat.add_zero] at hs
    obtain ⟨F1, e1, e2⟩ := cp_rack hN hao hA hS hj (hk j hj).1 (hk j hj).2 hc
    refine ⟨F1, ?_, e2⟩
    show f_River_copyAllFrom_b38 (f_River_copyAllFrom_l38 fu) (sI h F) a o (iI (j : Int)) = _
    simp (disch := first | decide | omega) only [f_River_copyAllFrom_b38, Nat.add_zero, true_and, and_true, gd_T, bn_S, bv_S, lq_E, wI_s, sI_s, hI_s, hT_s, hL_s, hR_s, hJ_s, hN_s, hU_s, nI_L, z_i, o_i, iI_add, iI_sub, iI_mul, iI_neg, iI_lt, iI_le, iI_eq, iI_ix, Int.toNat_natCast, if_neg, if_pos, gd_P, inb, ix, hA.t, hA.f1, hA.at2, hA.al2, hA.kR, hA.kT, hS.t, hS.f1, hS.at2, hS.al2, hS.kR, hS.kT, hs, e1]
    rfl) (by
    intro fu F hc
    have hs : F (a + 0) 7 = iI (m : Int) := by rw [← hg]; exact hc.1 0 7 (Or.inl ⟨rfl, by decide, by decide⟩)
    rw [Nat.add_zero] at hs
    show f_River_copyAllFrom_b38 (f_River_copyAllFrom_l38 fu) (sI h F) a o (iI (m : Int)) = _
    simp (disch := first | decide | omega) only [f_River_copyAllFrom_b38, Nat.add_zero, true_and, and_true, gd_T, bn_S, bv_S, lq_E, wI_s, sI_s, hI_s, hT_s, hL_s, hR_s, hJ_s, hN_s, hU_s, iI_lt, iI_le, iI_eq, iI_ix, Int.toNat_natCast, if_neg, if_pos, gd_P, inb, ix, hA.t, hs]) m 0 FU F (by omega) (by unfold FU; omega) hc
  exact ⟨F2, d1, d2⟩
theorem cp_gardens {n m p b a o : Nat} (hN : Nm n m p b) (hao : a + 47 ≤ o ∨ o + 47 ≤ a) {h : AH} {g : GM} (hA : SkR h a) (hS : SkR h o) {F0 F : Nat → Nat → Int32} (hg : g 0 6 = n) (hc : Cp n m p b a o (Lq 12 0 0 0 0 0 (mct g)) F0 F g) :
    ∃ F', f_River_copyAllFrom (sI h F) a o = f_River_copyAllFrom_b36 (sI h F') a o ∧ Cp n m p b a o (Lq 12 n 0 0 0 0 (mct g)) F0 F' g := by
  have hN' := hN
  unfold Nm at hN'
  obtain ⟨F2, d1, d2⟩ := loopG (fun fu h x => f_River_copyAllFrom_l2 fu h a o x) (fun h => f_River_copyAllFrom_b36 h a o) n h (fun j F => Cp n m p b a o (Lq 12 j 0 0 0 0 (mct g)) F0 F g) (by
    intro fu j F hj hc
    have hs : F (a + 0) 6 = iI (n : Int) := by rw [← hg]; exact hc.1 0 6 (Or.inl ⟨rfl, by decide, by decide⟩)
    rw [Nat.add_zero] at hs
    obtain ⟨F1, e1, e2⟩ := cp_Garden hN hao hA hS hj hc
    refine ⟨F1, ?_, e2⟩
    show f_River_copyAllFrom_b2 (f_River_copyAllFrom_l2 fu) (sI h F) a o (iI (j : Int)) = _
    simp (disch := first | decide | omega) only [f_River_copyAllFrom_b2, Nat.add_zero, true_and, and_true, gd_T, bn_S, bv_S, lq_E, wI_s, sI_s, hI_s, hT_s, hL_s, hR_s, hJ_s, hN_s, hU_s, nI_L, z_i, o_i, iI_add, iI_sub, iI_mul, iI_neg, iI_lt, iI_le, iI_eq, iI_ix, Int.toNat_natCast, if_neg, if_pos, gd_P, inb, ix, hA.t, hA.f0, hA.at1, hA.al1, hA.gR, hA.gT, hS.t, hS.f0, hS.at1, hS.al1, hS.gR, hS.gT, hs, e1]
    rfl) (by
    intro fu F hc
    have hs : F (a + 0) 6 = iI (n : Int) := by rw [← hg]; exact hc.1 0 6 (Or.inl ⟨rfl, by decide, by decide⟩)
    rw [Nat.add_zero] at hs
    show f_River_copyAllFrom_b2 (f_River_copyAllFrom_l2 fu) (sI h F) a o (iI (n : Int)) = _
    simp (disch := first | decide | omega) only [f_River_copyAllFrom_b2, Nat.add_zero, true_and, and_true, gd_T, bn_S, bv_S, lq_E, wI_s, sI_s, hI_s, hT_s, hL_s, hR_s, hJ_s, hN_s, hU_s, iI_lt, iI_le, iI_eq, iI_ix, Int.toNat_natCast, if_neg, if_pos, gd_P, inb, ix, hA.t, hs]) n 0 FU F (by omega) (by unfold FU; omega) hc
  exact ⟨F2, d1, d2⟩
theorem Lq_Lv {n m p b : Nat} {ct : Nat → Int} {c s : Nat} (h : Lv n m p b ct c s) : Lq 12 n m p b 4 ct c s := h
theorem Lq_0 {n m : Nat} {ct : Nat → Int} {c s : Nat} {e p b q : Nat} (h : Lq e 0 0 0 0 0 ct c s) : (c = 0 ∧ 6 ≤ s ∧ s < 18) ∨ (c = 6 ∧ s < e) := by
  unfold Lq at h
  omega
theorem copy_E {n m p b a o : Nat} (hN : Nm n m p b) (hao : a + 47 ≤ o ∨ o + 47 ≤ a) {h : AH} {g : GM} (hA : SkR h a) (hS : SkR h o) (hP : RP n m p b o (hI h) g) (h6 : g 0 6 = n) (h7 : g 0 7 = m) (h8 : g 0 8 = p) (h9 : g 0 9 = b) (hr : ∀ i, i < p → g (31 + i) 6 = 0 ∨ g (31 + i) 6 = 1) (hk : ∀ i, i < m → 0 ≤ mct g i ∧ mct g i ≤ 60) :
    ∃ F, f_River_copyFrom h a o = some (sI h F) ∧ RP n m p b a F g ∧ RP n m p b o F g ∧ Fm a (hI h) F := by
  have hr' : ∀ i, i < p → ((iI (g (31 + i) 6) = 0) ∨ (iI (g (31 + i) 6) = 1)) = True := by
    intro i hi
    rcases hr i hi with q | q <;> rw [q] <;> simp only [z_i, o_i, true_or, or_true]
  have hao0 : ¬ o = a := by omega
  have c0 := (((((((((((((show Cp n m p b a o (fun _ _ => False) (hI h) (hI h) g from ⟨fun _ _ q => q.elim, hP, Fm.refl _ _⟩).w hN hao 0 6 (by omega) (x := iI (g 0 6)) rfl).w hN hao 0 7 (by omega) (x := iI (g 0 7)) rfl).w hN hao 0 8 (by omega) (x := iI (g 0 8)) rfl).w hN hao 0 9 (by omega) (x := iI (g 0 9)) rfl).w hN hao 0 10 (by omega) (x := iI (g 0 10)) rfl).w hN hao 0 11 (by omega) (x := iI (g 0 11)) rfl).w hN hao 0 12 (by omega) (x := iI (g 0 12)) rfl).w hN hao 0 13 (by omega) (x := iI (g 0 13)) rfl).w hN hao 0 14 (by omega) (x := iI (g 0 14)) rfl).w hN hao 0 15 (by omega) (x := iI (g 0 15)) rfl).w hN hao 0 16 (by omega) (x := iI (g 0 16)) rfl).w hN hao 0 17 (by omega) (x := iI (g 0 17)) rfl)
  simp only [Nat.add_zero] at c0
  have c1 := c0.mono (Q := Lq 0 0 0 0 0 0 (mct g)) (fun c s hl => by
    have hl := Lq_0 (n := 0) (m := 0) (e := 0) (p := 0) (b := 0) (q := 0) hl
    have h1 : c = 0 := by omega
    rcases (show s = 6 ∨ s = 7 ∨ s = 8 ∨ s = 9 ∨ s = 10 ∨ s = 11 ∨ s = 12 ∨ s = 13 ∨ s = 14 ∨ s = 15 ∨ s = 16 ∨ s = 17 by omega) with rfl | rfl | rfl | rfl | rfl | rfl | rfl | rfl | rfl | rfl | rfl | rfl
    · exact Or.inl (Or.inl (Or.inl (Or.inl (Or.inl (Or.inl (Or.inl (Or.inl (Or.inl (Or.inl (Or.inl (Or.inr ⟨h1, rfl⟩)))))))))))
    · exact Or.inl (Or.inl (Or.inl (Or.inl (Or.inl (Or.inl (Or.inl (Or.inl (Or.inl (Or.inl (Or.inr ⟨h1, rfl⟩))))))))))
    · exact Or.inl (Or.inl (Or.inl (Or.inl (Or.inl (Or.inl (Or.inl (Or.inl (Or.inl (Or.inr ⟨h1, rfl⟩)))))))))
    · exact Or.inl (Or.inl (Or.inl (Or.inl (Or.inl (Or.inl (Or.inl (Or.inl (Or.inr ⟨h1, rfl⟩))))))))
    · exact Or.inl (Or.inl (Or.inl (Or.inl (Or.inl (Or.inl (Or.inl (Or.inr ⟨h1, rfl⟩)))))))
    · exact Or.inl (Or.inl (Or.inl (Or.inl (Or.inl (Or.inl (Or.inr ⟨h1, rfl⟩))))))
    · exact Or.inl (Or.inl (Or.inl (Or.inl (Or.inl (Or.inr ⟨h1, rfl⟩)))))
    · exact Or.inl (Or.inl (Or.inl (Or.inl (Or.inr ⟨h1, rfl⟩))))
    · exact Or.inl (Or.inl (Or.inl (Or.inr ⟨h1, rfl⟩)))
    · exact Or.inl (Or.inl (Or.inr ⟨h1, rfl⟩))
    · exact Or.inl (Or.inr ⟨h1, rfl⟩)
    · exact Or.inr ⟨h1, rfl⟩)
  obtain ⟨F2, d1, d2⟩ := loopG (fun fu h x => f_River_copyFrom_l98 fu h a o x) (fun h => f_River_copyAllFrom h a o) 12 h (fun j F => Cp n m p b a o (Lq j 0 0 0 0 0 (mct g)) (hI h) F g) (by
    intro fu j F hj hc
    have hP := hc.2.1
    have e := hP.sh j hj
    refine ⟨_, ?_, (hc.w hN hao 6 j (by omega) (x := iI (g 6 j)) rfl).mono (fun c s hl => ?_)⟩
    · show f_River_copyFrom_b98 (f_River_copyFrom_l98 fu) (sI h F) a o (iI (j : Int)) = _
      simp (disch := first | decide | omega) only [f_River_copyFrom_b98, Nat.add_zero, true_and, and_true, gd_T, bn_S, bv_S, lq_E, wI_s, sI_s, hI_s, hT_s, hL_s, hR_s, hJ_s, hN_s, hU_s, nI_L, z_i, o_i, iI_add, iI_sub, iI_mul, iI_neg, iI_lt, iI_le, iI_eq, iI_ix, Int.toNat_natCast, if_neg, if_pos, gd_P, inb, ix, hA.t, hA.f5, hA.at6, hA.al6, hS.t, hS.f5, hS.at6, hS.al6, e]
      rfl
    · rcases Lq_e hl with h1 | h1
      · exact Or.inl h1
      · exact Or.inr h1) (by
    intro fu F hc
    show f_River_copyFrom_b98 (f_River_copyFrom_l98 fu) (sI h F) a o (iI 12) = _
    simp (disch := first | decide | omega) only [f_River_copyFrom_b98, Nat.add_zero, true_and, and_true, gd_T, bn_S, bv_S, lq_E, wI_s, sI_s, hI_s, hT_s, hL_s, hR_s, hJ_s, hN_s, hU_s, nI_L, z_i, o_i, iI_add, iI_sub, iI_mul, iI_neg, iI_lt, iI_le, iI_eq, iI_ix, Int.toNat_natCast, if_neg, if_pos, gd_P, inb, ix, hA.t]
    cases f_River_copyAllFrom (sI h F) a o <;> rfl) 12 0 FU _ (by omega) (by unfold FU; omega) c1
  obtain ⟨F3, a1, a2⟩ := cp_gardens hN hao hA hS h6 d2
  obtain ⟨F4, a3, a4⟩ := cp_racks hN hao hA hS hk h7 a2
  obtain ⟨F5, a5, a6⟩ := cp_peelers hN hao hA hS hr' h8 a4
  obtain ⟨F6, a7, a8⟩ := cp_boats hN hao hA hS h9 a6
  obtain ⟨F7, a9, b1⟩ := cp_grades hN hao hA hS a8
  refine ⟨F7, ?_, b1.1.mono (fun c s hl => Lq_Lv hl), b1.2.1, b1.2.2⟩
  refine Eq.trans ?_ (d1.trans (a1.trans (a3.trans (a5.trans (a7.trans a9)))))
  simp (disch := first | decide | omega) only [f_River_copyFrom, Nat.add_zero, true_and, and_true, gd_T, bn_S, bv_S, lq_E, wI_s, sI_s, hI_s, hT_s, hL_s, hR_s, hJ_s, hN_s, hU_s, nI_L, z_i, o_i, iI_add, iI_sub, iI_mul, iI_neg, if_neg, if_pos, gd_P, inb, ix, hA.t, hS.t, hP.sc, up2_e, up2_n]
  rfl

/-! 71 L3: the sim's hour, VII: all boats, and the end -/
section
variable {xA n m p b no : Nat} {O : Nat → Nat → Int} {T C Pb : Int} {h : AH} {g : GM}
theorem simBoats_E (hN : Nm n m p b) (hs : Sm xA n m p b no O h g) (hv : Iv n m p b T C Pb g) (hC : C ≤ 900000) (hPb : Pb ≤ 900000) (hh : g 0 11 + 1 ≤ T) :
    ∃ h', f_Sim_pass_l688 FU h 320 (336 + n + m + p) (iI (b : Int)) (iI 0) = some h' ∧ Sm xA n m p b no O h' (mEnd (mIt mGlut1 4 0 (mIt mBoat1 b 0 g))) ∧ Fx xA 0 0 h h' := by
  have hN' := hN
  unfold Nm at hN'
  obtain ⟨h1, e1, e2, e3, e4, e5⟩ := loopM (n := n) (m := m) (p := p) (b := b) (no := no) (O := O) (fun fu h x => f_Sim_pass_l688 fu h 320 (336 + n + m + p) (iI (b : Int)) x) (fun h => f_Sim_pass_l905 FU h 320 (iI 0)) mBoat1 b (fun i g => Iv n m p b T (C + 2000 * (i : Int)) Pb g ∧ g 0 11 + 1 ≤ T) 0 0 (by
    intro fu i h g hi ⟨hv, hh⟩ hs
    have hh2 : mBoat1 i g 0 11 = g 0 11 := by unfold mBoat1 mSell; split <;> (try split) <;> (try split) <;> (try simp (disch := omega) only [up2_n])
    have k : ∃ F, f_Sim_pass_b688 (f_Sim_pass_l688 fu) h 320 (336 + n + m + p) (iI (b : Int)) (iI (i : Int)) = f_Sim_pass_b897 (f_Sim_pass_l688 fu) (sI h F) 320 (336 + n + m + p) (iI (b : Int)) (iI (i : Int)) ∧ Sm xA n m p b no O (sI h F) (mBoat1 i g) ∧ Fs (338 + n + m + p + b + no) (hI h) F := by
      by_cases c : g (39 + i) 3 = 1 ∧ g 0 13 ≤ g (39 + i) 2 + max 1 (g (39 + i) 1 - g 0 14)
      · exact simBoat_s hN hs hv hPb hi c _
      · exact simBoat_n hN hs hv hi c _
    obtain ⟨F, k1, k2, k3⟩ := k
    refine ⟨sI h F, ?_, k2, k3.x hs.ax, (hv.boat hN hi).coins (by omega), by rw [hh2]; exact hh⟩
    refine Eq.trans k1 ?_
    simp only [f_Sim_pass_b897, lq_E, nI_L, iI_add]
    rfl) (by
    intro fu h g _ hs
    show f_Sim_pass_b688 (f_Sim_pass_l688 fu) h 320 (336 + n + m + p) (iI (b : Int)) (iI (b : Int)) = _
    simp (disch := first | decide | omega) only [f_Sim_pass_b688, nI_L, z_i, o_i, iI_add, iI_sub, iI_mul, iI_neg, if_pos, iI_lt, iI_le, iI_eq, iI_ix, Int.toNat_natCast, toNat_L]) b 0 FU h g (by omega) (by unfold FU; omega) ⟨hv.coins (by omega), hh⟩ hs
  obtain ⟨h2, d1, d2, d3⟩ := simEnd_E hN e2 e4 (by omega) hPb e5
  exact ⟨h2, e1.trans d1, d2, (e3.trans d3).mono (by omega) (by omega)⟩
end

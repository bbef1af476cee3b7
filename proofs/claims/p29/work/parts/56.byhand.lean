/-! 56 L3: what is done by hand -/
theorem Cl.up {n m p b no : Nat} {O : Nat → Nat → Int} {h : AH} {g : GM} (hN : Nm n m p b) (hc : Cl n m p b O no h g) {F : Nat → Nat → Int32} {g' : GM} (hP : RP n m p b 206 F g') (hF : Fm 206 (hI h) F) : Cl n m p b O no (sI h F) g' := by
  obtain ⟨hQ, hS, hS2, hO, -, hA, h1⟩ := hc
  exact ⟨hQ, hS, hS2, hO, hP, hA.fr fun c s hc => hF c s (by omega), (hF 200 1 (by omega)).trans h1⟩
section
variable {n m p b no : Nat} {O : Nat → Nat → Int} {T C Pb : Int} {h : AH} {g : GM}
theorem whet_C (hN : Nm n m p b) (hc : Cl n m p b O no h g) (hv : Iv n m p b T C Pb g) (hC : C ≤ 900000) {i : Nat} (hi : i < p) (hw : g (31 + i) 3 < 20 ∧ 2 ≤ g 0 12) :
    ∃ F, f_QuillBoats_whet h 200 (iI (i : Int)) = some (sI h F, iI (g 0 12 - 2)) ∧ Cl n m p b O no (sI h F) (mWhet i g) ∧ Fc (hI h) F := by
  have hv0 := hv
  obtain ⟨vS, vH, vG, vR, vP, vB, vQ, vE⟩ := hv
  unfold IvSc at vS
  have vPi := vP i hi
  have hN' := hN
  unfold Nm at hN'
  have hS := hc.2.1
  have hP := hc.2.2.2.2.1
  have hQ := hc.1
  obtain ⟨F, e1, e2, e3⟩ := whets_E (by omega) (by omega) hS hP vS.2.2.1 hi (by omega) (by omega) (by omega) (by omega) hw
  refine ⟨F, ?_, hc.up hN e2 e3, e3.c (by omega) (by omega)⟩
  have f1 := hasPeeler_E hS hP (i := (i : Int)) (by omega) (by omega) (by omega) vS.2.2.1
  have q := e2.sc 12 (by decide) (by decide)
  have q2 : mWhet i g 0 12 = g 0 12 - 2 := by unfold mWhet; simp (disch := omega) only [up2_n, up2_e]
  rw [q2] at q
  simp (disch := first | decide | omega) only [f_QuillBoats_whet, Nat.add_zero, true_and, and_true, gd_T, bn_S, bv_S, lq_E, wI_s, sI_s, hI_s, hT_s, hL_s, hR_s, hJ_s, hN_s, hU_s, nI_L, z_i, o_i, iI_add, iI_sub, iI_mul, iI_neg, iI_lt, iI_le, iI_eq, iI_ix, Int.toNat_natCast, if_neg, if_pos, gd_P, inb, ix, hQ.t, hQ.r4, hS.t, f1, e1, q]
theorem load_C (hN : Nm n m p b) (hc : Cl n m p b O no h g) (hv : Iv n m p b T C Pb g) (hPb : Pb ≤ 900000) {i k : Nat} (hi : i < b) (hk : k < 4) {w : Int} (w1 : 1 ≤ w) (w2 : w ≤ g (39 + i) 0) (h3 : g (39 + i) 3 = 0) (h4 : 1 ≤ g (43 + k) 0) :
    ∃ F, f_QuillBoats_load h 200 (iI (i : Int)) (iI (k : Int)) (iI w) = some (sI h F, iI (min w (g (43 + k) 0))) ∧ Cl n m p b O no (sI h F) (mLoad i k (min w (g (43 + k) 0)) g) ∧ Fc (hI h) F ∧ Iv n m p b T C Pb (mLoad i k (min w (g (43 + k) 0)) g) := by
  have hv0 := hv
  have q0 := IvQ.le hv k hk
  obtain ⟨vS, vH, vG, vR, vP, vB, vQ, vE⟩ := hv
  unfold IvSc at vS
  have vBi := vB i hi
  have hN' := hN
  unfold Nm at hN'
  have hS := hc.2.1
  have hP := hc.2.2.2.2.1
  have hQ := hc.1
  have hm : mMany g i k w = min w (g (43 + k) 0) := by unfold mMany; rw [if_pos h3]; omega
  obtain ⟨F, e1, e2, e3⟩ := load_E (by omega) (by omega) hS hP vS.2.2.2.1 hi hk (w := w) (by omega) (by omega) (by omega) (by omega) (by omega) (by omega) (by omega) (by omega) (by rw [hm]; omega)
  rw [hm] at e1 e2
  have iv := hv0.load hN hi hk h3 (q := min w (g (43 + k) 0)) (by omega) (by omega) (by omega)
  generalize hq : min w (g (43 + k) 0) = q at *
  refine ⟨F, ?_, hc.up hN e2 e3, e3.c (by omega) (by omega), iv⟩
  have f1 := hasBoat_E hS hP (i := (i : Int)) (by omega) (by omega) (by omega) vS.2.2.2.1
  have f2 := hasGrade_E (h := h) (r := 206) (i := (k : Int)) (by omega) (by omega)
  have f3 := isWithin_E (h := h) (x := w) (a := 1) (c := g (39 + i) 0) (by omega) (by omega) (by decide) (by omega)
  simp (disch := first | decide | omega) only [f_QuillBoats_load, Nat.add_zero, true_and, and_true, gd_T, bn_S, bv_S, lq_E, wI_s, sI_s, hI_s, hT_s, hL_s, hR_s, hJ_s, hN_s, hU_s, nI_L, z_i, o_i, iI_add, iI_sub, iI_mul, iI_neg, iI_lt, iI_le, iI_eq, iI_ix, Int.toNat_natCast, if_neg, if_pos, gd_P, inb, ix, hQ.t, hQ.r4, hS.t, hS.f3, hS.at4, hS.al4, hS.bR, hS.bT, hP.bo, f1, f2, f3, e1]
theorem setShade_C (hN : Nm n m p b) (hc : Cl n m p b O no h g) (hv : Iv n m p b T C Pb g) {i : Nat} (hi : i < 12) {w : Int} (w1 : 0 ≤ w) (w2 : w ≤ 3) :
    ∃ F, f_QuillBoats_setShade h 200 (iI (i : Int)) (iI w) = some (sI h F, iI (g 6 i)) ∧ Cl n m p b O no (sI h F) (up2 g 6 i w) ∧ Fc (hI h) F ∧ Iv n m p b T C Pb (up2 g 6 i w) := by
  have hv0 := hv
  obtain ⟨hS', hH, hG, hR, hP', hB, hQ', hE⟩ := hv
  have hN' := hN
  unfold Nm at hN'
  have hS := hc.2.1
  have hP := hc.2.2.2.2.1
  have hQ := hc.1
  have fm : Fm 206 (hI h) (up2 (hI h) (206 + 6) i (iI w)) := (Fm.refl _ _).up 6 _ _ (by omega)
  refine ⟨_, ?_, hc.up hN (hP.up (by omega) 6 i (v := w) rfl (by omega)) fm, fm.c (by omega) (by omega), hS'.congr fun s hs => (by simp (disch := omega) only [up2_n]), fun s hs => ?_, hG.congr fun i hi s hs => (by simp (disch := omega) only [up2_n]), fun k hk => (hR k hk).congr (fun s hs => (by simp (disch := omega) only [up2_n])) (fun w h1 h2 j hj => (by simp (disch := omega) only [up2_n])), hP'.congr fun i hi s hs => (by simp (disch := omega) only [up2_n]), hB.congr (by simp (disch := omega) only [up2_n]) (fun i hi s hs => (by simp (disch := omega) only [up2_n])), hQ'.congr (fun k hk s hs => (by simp (disch := omega) only [up2_n])), hE.congr (by simp (disch := omega) only [up2_n]) (by simp (disch := omega) only [up2_n]) (fun k hk => (by simp (disch := omega) only [up2_n])) (fun k hk => ⟨(by simp (disch := omega) only [up2_n]), (by simp (disch := omega) only [up2_n])⟩) (fun i hi => (by simp (disch := omega) only [up2_n])) (fun i hi => (by simp (disch := omega) only [up2_n]))⟩
  · have f1 := isWithin_E (h := h) (x := (i : Int)) (a := 0) (c := 11) (by omega) (by omega) (by decide) (by decide)
    have f2 := isWithin_E (h := h) (x := w) (a := 0) (c := 3) (by omega) (by omega) (by decide) (by decide)
    simp (disch := first | decide | omega) only [f_QuillBoats_setShade, Nat.add_zero, true_and, and_true, gd_T, bn_S, bv_S, lq_E, wI_s, sI_s, hI_s, hT_s, hL_s, hR_s, hJ_s, hN_s, hU_s, nI_L, z_i, o_i, iI_add, iI_sub, iI_mul, iI_neg, iI_lt, iI_le, iI_eq, iI_ix, Int.toNat_natCast, if_neg, if_pos, gd_P, inb, ix, hQ.t, hQ.r4, hS.t, hS.f5, hS.at6, hS.al6, f1, f2, hP.sh]
  · by_cases e : s = i
    · subst e; rw [up2_e]; exact ⟨w1, w2⟩
    · rw [up2_n _ _ _ _ _ _ (by omega)]; exact hH s hs
theorem setCurrent_C (hN : Nm n m p b) (hc : Cl n m p b O no h g) (hv : Iv n m p b T C Pb g) {w : Int} (w1 : 0 ≤ w) (w2 : w ≤ 5) :
    ∃ F, f_QuillBoats_setCurrent h 200 (iI w) = some (sI h F, iI (g 0 14)) ∧ Cl n m p b O no (sI h F) (up2 g 0 14 w) ∧ Fc (hI h) F ∧ Iv n m p b T C Pb (up2 g 0 14 w) := by
  have hv0 := hv
  obtain ⟨hS', hH, hG, hR, hP', hB, hQ', hE⟩ := hv
  have hN' := hN
  unfold Nm at hN'
  have hS := hc.2.1
  have hP := hc.2.2.2.2.1
  have hQ := hc.1
  have fm : Fm 206 (hI h) (up2 (hI h) (206 + 0) 14 (iI w)) := (Fm.refl _ _).up 0 _ _ (by omega)
  refine ⟨_, ?_, hc.up hN (hP.up (by omega) 0 14 (v := w) rfl (by omega)) fm, fm.c (by omega) (by omega), ?_, hH.congr fun s hs => (by simp (disch := omega) only [up2_n]), hG.congr fun i hi s hs => (by simp (disch := omega) only [up2_n]), fun k hk => (hR k hk).congr (fun s hs => (by simp (disch := omega) only [up2_n])) (fun w h1 h2 j hj => (by simp (disch := omega) only [up2_n])), hP'.congr fun i hi s hs => (by simp (disch := omega) only [up2_n]), hB.congr (by simp (disch := omega) only [up2_n]) (fun i hi s hs => (by simp (disch := omega) only [up2_n])), hQ'.congr (fun k hk s hs => (by simp (disch := omega) only [up2_n])), hE.congr (by simp (disch := omega) only [up2_n]) (by simp (disch := omega) only [up2_n]) (fun k hk => (by simp (disch := omega) only [up2_n])) (fun k hk => ⟨(by simp (disch := omega) only [up2_n]), (by simp (disch := omega) only [up2_n])⟩) (fun i hi => (by simp (disch := omega) only [up2_n])) (fun i hi => (by simp (disch := omega) only [up2_n]))⟩
  · have f1 := isWithin_E (h := h) (x := w) (a := 0) (c := 5) (by omega) (by omega) (by decide) (by decide)
    have q := hP.sc 14 (by decide) (by decide)
    simp (disch := first | decide | omega) only [f_QuillBoats_setCurrent, Nat.add_zero, true_and, and_true, gd_T, bn_S, bv_S, lq_E, wI_s, sI_s, hI_s, hT_s, hL_s, hR_s, hJ_s, hN_s, hU_s, nI_L, z_i, o_i, iI_add, iI_sub, iI_mul, iI_neg, iI_lt, iI_le, iI_eq, iI_ix, Int.toNat_natCast, if_neg, if_pos, gd_P, inb, ix, hQ.t, hQ.r4, hS.t, f1, q]
  · unfold IvSc at hS' ⊢
    simp (disch := omega) only [up2_n, up2_e]
    omega
theorem grant_C (hN : Nm n m p b) (hc : Cl n m p b O no h g) (hv : Iv n m p b T C Pb g) (hC : C ≤ 900000) (hC9 : 99999 ≤ C) {w : Int} (w1 : 1 ≤ w) (w2 : w ≤ 9999) :
    ∃ F, f_QuillBoats_grant h 200 (iI w) = some (sI h F, iI (min 99999 (g 0 12 + w))) ∧ Cl n m p b O no (sI h F) (up2 g 0 12 (min 99999 (g 0 12 + w))) ∧ Fc (hI h) F ∧ Iv n m p b T C Pb (up2 g 0 12 (min 99999 (g 0 12 + w))) := by
  have hv0 := hv
  obtain ⟨hS', hH, hG, hR, hP', hB, hQ', hE⟩ := hv
  have hS'' := hS'
  unfold IvSc at hS''
  have hN' := hN
  unfold Nm at hN'
  have hS := hc.2.1
  have hP := hc.2.2.2.2.1
  have hQ := hc.1
  have fm : Fm 206 (hI h) (up2 (hI h) (206 + 0) 12 (iI (min 99999 (g 0 12 + w)))) := (Fm.refl _ _).up 0 _ _ (by omega)
  refine ⟨_, ?_, hc.up hN (hP.up (by omega) 0 12 (v := min 99999 (g 0 12 + w)) rfl (by omega)) fm, fm.c (by omega) (by omega), ?_, hH.congr fun s hs => (by simp (disch := omega) only [up2_n]), hG.congr fun i hi s hs => (by simp (disch := omega) only [up2_n]), fun k hk => (hR k hk).congr (fun s hs => (by simp (disch := omega) only [up2_n])) (fun w h1 h2 j hj => (by simp (disch := omega) only [up2_n])), hP'.congr fun i hi s hs => (by simp (disch := omega) only [up2_n]), hB.congr (by simp (disch := omega) only [up2_n]) (fun i hi s hs => (by simp (disch := omega) only [up2_n])), hQ'.congr (fun k hk s hs => (by simp (disch := omega) only [up2_n])), hE.congr (by simp (disch := omega) only [up2_n]) (by simp (disch := omega) only [up2_n]) (fun k hk => (by simp (disch := omega) only [up2_n])) (fun k hk => ⟨(by simp (disch := omega) only [up2_n]), (by simp (disch := omega) only [up2_n])⟩) (fun i hi => (by simp (disch := omega) only [up2_n])) (fun i hi => (by simp (disch := omega) only [up2_n]))⟩
  · have f1 := isWithin_E (h := h) (x := w) (a := 1) (c := 9999) (by omega) (by omega) (by decide) (by decide)
    have q := hP.sc 12 (by decide) (by decide)
    simp (disch := first | decide | omega) only [f_QuillBoats_grant, Nat.add_zero, true_and, and_true, gd_T, bn_S, bv_S, lq_E, wI_s, sI_s, hI_s, hT_s, hL_s, hR_s, hJ_s, hN_s, hU_s, nI_L, z_i, o_i, iI_add, iI_sub, iI_mul, iI_neg, iI_lt, iI_le, iI_eq, iI_ix, Int.toNat_natCast, if_neg, if_pos, gd_P, inb, ix, hQ.t, hQ.r4, hS.t, f1, q, min_E, up2_e, up2_n]
  · unfold IvSc
    simp (disch := omega) only [up2_n, up2_e]
    omega
end

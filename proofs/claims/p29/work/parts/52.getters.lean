/-! 52 L3: what the class answers, II: gardens, racks, bundles, peelers, boats, grades (written by l3/gen52.py) -/
theorem loopC (L : Nat → Int32 → Int32 → Option (AH × Int32)) (h : AH) (f : Nat → Int) (N : Nat) (hstep : ∀ (fu i : Nat) (s : Int), i < N → L (fu + 1) (iI s) (iI (i : Int)) = L fu (iI (s + f i)) (iI ((i + 1 : Nat) : Int))) (hend : ∀ (fu : Nat) (s : Int), L (fu + 1) (iI s) (iI (N : Int)) = some (h, iI s)) (hN : N < FU) : L FU (iI 0) (iI 0) = some (h, iI (sumF f N)) := by
  have key := loopS L h f N hstep hend N 0 FU 0 (by omega) hN
  rw [sumF_z f] at key
  exact key
def mOfG (p : Nat) (g : GM) (K : Nat) : Int := sumF (fun i => if g (31 + i) 0 = (K : Int) then 1 else 0) p
def mToR (p : Nat) (g : GM) (K : Nat) : Int := sumF (fun i => if g (31 + i) 1 = (K : Int) then 1 else 0) p
theorem peelersOfGarden_E {n m p b r : Nat} {h : AH} {g : GM} (hp : p ≤ 8) (hS : SkR h r) (hP : RP n m p b r (hI h) g) (hg : g 0 8 = p) {K : Nat} (hK : K < 100) (hv : ∀ i, i < p → 0 ≤ g (31 + i) 0 ∧ g (31 + i) 0 < 100) : f_River_peelersOfGarden h r (iI (K : Int)) = some (h, iI (mOfG p g K)) := by
  have s8 := hP.sc 8 (by decide) (by decide)
  rw [hg] at s8
  refine loopC (fun fu x y => f_River_peelersOfGarden_l4 fu h r (iI (K : Int)) x y) h (fun i => if g (31 + i) 0 = (K : Int) then 1 else 0) p ?_ ?_ (by unfold FU; omega)
  · intro fu i s hi
    have h1 := hv i hi
    show f_River_peelersOfGarden_b4 (f_River_peelersOfGarden_l4 fu) h r (iI (K : Int)) (iI s) (iI (i : Int)) = _
    by_cases c : g (31 + i) 0 = (K : Int)
    · rw [if_pos c]
      simp (disch := first | decide | omega) only [f_River_peelersOfGarden_b4, f_River_peelersOfGarden_b37, Nat.add_zero, true_and, and_true, gd_T, bn_S, bv_S, lq_E, wI_s, sI_s, hI_s, hT_s, hL_s, hR_s, hJ_s, hN_s, hU_s, nI_L, z_i, o_i, iI_add, iI_sub, iI_mul, iI_neg, iI_lt, iI_le, iI_eq, iI_ix, Int.toNat_natCast, if_neg, if_pos, gd_P, inb, ix, hS.t, hS.f0, hS.f1, hS.f2, hS.f3, hS.f4, hS.f5, hS.at1, hS.al1, hS.at2, hS.al2, hS.at3, hS.al3, hS.at4, hS.al4, hS.at5, hS.al5, hS.at6, hS.al6, hS.gR, hS.gT, hS.kR, hS.kT, hS.k3, hS.k4, hS.k5, hS.k6, hS.kt1, hS.kt2, hS.kt3, hS.kt4, hS.kl1, hS.kl2, hS.kl3, hS.kl4, hS.pR, hS.pT, hS.bR, hS.bT, hS.qR, hS.qT, s8, hP.pe, c]
      rfl
    · rw [if_neg c]
      simp (disch := first | decide | omega) only [f_River_peelersOfGarden_b4, f_River_peelersOfGarden_b37, Nat.add_zero, true_and, and_true, gd_T, bn_S, bv_S, lq_E, wI_s, sI_s, hI_s, hT_s, hL_s, hR_s, hJ_s, hN_s, hU_s, nI_L, z_i, o_i, iI_add, iI_sub, iI_mul, iI_neg, iI_lt, iI_le, iI_eq, iI_ix, Int.toNat_natCast, if_neg, if_pos, gd_P, inb, ix, hS.t, hS.f0, hS.f1, hS.f2, hS.f3, hS.f4, hS.f5, hS.at1, hS.al1, hS.at2, hS.al2, hS.at3, hS.al3, hS.at4, hS.al4, hS.at5, hS.al5, hS.at6, hS.al6, hS.gR, hS.gT, hS.kR, hS.kT, hS.k3, hS.k4, hS.k5, hS.k6, hS.kt1, hS.kt2, hS.kt3, hS.kt4, hS.kl1, hS.kl2, hS.kl3, hS.kl4, hS.pR, hS.pT, hS.bR, hS.bT, hS.qR, hS.qT, s8, hP.pe]
      rfl
  · intro fu s
    show f_River_peelersOfGarden_b4 (f_River_peelersOfGarden_l4 fu) h r (iI (K : Int)) (iI s) (iI (p : Int)) = _
    simp (disch := first | decide | omega) only [f_River_peelersOfGarden_b4, Nat.add_zero, true_and, and_true, gd_T, bn_S, bv_S, lq_E, wI_s, sI_s, hI_s, hT_s, hL_s, hR_s, hJ_s, hN_s, hU_s, nI_L, z_i, o_i, iI_add, iI_sub, iI_mul, iI_neg, iI_lt, iI_le, iI_eq, iI_ix, Int.toNat_natCast, if_neg, if_pos, gd_P, inb, ix, hS.t, s8]
theorem peelersToRack_E {n m p b r : Nat} {h : AH} {g : GM} (hp : p ≤ 8) (hS : SkR h r) (hP : RP n m p b r (hI h) g) (hg : g 0 8 = p) {K : Nat} (hK : K < 100) (hv : ∀ i, i < p → 0 ≤ g (31 + i) 1 ∧ g (31 + i) 1 < 100) : f_River_peelersToRack h r (iI (K : Int)) = some (h, iI (mToR p g K)) := by
  have s8 := hP.sc 8 (by decide) (by decide)
  rw [hg] at s8
  refine loopC (fun fu x y => f_River_peelersToRack_l4 fu h r (iI (K : Int)) x y) h (fun i => if g (31 + i) 1 = (K : Int) then 1 else 0) p ?_ ?_ (by unfold FU; omega)
  · intro fu i s hi
    have h1 := hv i hi
    show f_River_peelersToRack_b4 (f_River_peelersToRack_l4 fu) h r (iI (K : Int)) (iI s) (iI (i : Int)) = _
    by_cases c : g (31 + i) 1 = (K : Int)
    · rw [if_pos c]
      simp (disch := first | decide | omega) only [f_River_peelersToRack_b4, f_River_peelersToRack_b37, Nat.add_zero, true_and, and_true, gd_T, bn_S, bv_S, lq_E, wI_s, sI_s, hI_s, hT_s, hL_s, hR_s, hJ_s, hN_s, hU_s, nI_L, z_i, o_i, iI_add, iI_sub, iI_mul, iI_neg, iI_lt, iI_le, iI_eq, iI_ix, Int.toNat_natCast, if_neg, if_pos, gd_P, inb, ix, hS.t, hS.f0, hS.f1, hS.f2, hS.f3, hS.f4, hS.f5, hS.at1, hS.al1, hS.at2, hS.al2, hS.at3, hS.al3, hS.at4, hS.al4, hS.at5, hS.al5, hS.at6, hS.al6, hS.gR, hS.gT, hS.kR, hS.kT, hS.k3, hS.k4, hS.k5, hS.k6, hS.kt1, hS.kt2, hS.kt3, hS.kt4, hS.kl1, hS.kl2, hS.kl3, hS.kl4, hS.pR, hS.pT, hS.bR, hS.bT, hS.qR, hS.qT, s8, hP.pe, c]
      rfl
    · rw [if_neg c]
      simp (disch := first | decide | omega) only [f_River_peelersToRack_b4, f_River_peelersToRack_b37, Nat.add_zero, true_and, and_true, gd_T, bn_S, bv_S, lq_E, wI_s, sI_s, hI_s, hT_s, hL_s, hR_s, hJ_s, hN_s, hU_s, nI_L, z_i, o_i, iI_add, iI_sub, iI_mul, iI_neg, iI_lt, iI_le, iI_eq, iI_ix, Int.toNat_natCast, if_neg, if_pos, gd_P, inb, ix, hS.t, hS.f0, hS.f1, hS.f2, hS.f3, hS.f4, hS.f5, hS.at1, hS.al1, hS.at2, hS.al2, hS.at3, hS.al3, hS.at4, hS.al4, hS.at5, hS.al5, hS.at6, hS.al6, hS.gR, hS.gT, hS.kR, hS.kT, hS.k3, hS.k4, hS.k5, hS.k6, hS.kt1, hS.kt2, hS.kt3, hS.kt4, hS.kl1, hS.kl2, hS.kl3, hS.kl4, hS.pR, hS.pT, hS.bR, hS.bT, hS.qR, hS.qT, s8, hP.pe]
      rfl
  · intro fu s
    show f_River_peelersToRack_b4 (f_River_peelersToRack_l4 fu) h r (iI (K : Int)) (iI s) (iI (p : Int)) = _
    simp (disch := first | decide | omega) only [f_River_peelersToRack_b4, Nat.add_zero, true_and, and_true, gd_T, bn_S, bv_S, lq_E, wI_s, sI_s, hI_s, hT_s, hL_s, hR_s, hJ_s, hN_s, hU_s, nI_L, z_i, o_i, iI_add, iI_sub, iI_mul, iI_neg, iI_lt, iI_le, iI_eq, iI_ix, Int.toNat_natCast, if_neg, if_pos, gd_P, inb, ix, hS.t, s8]
theorem garden_E0 {n m p b no : Nat} {O : Nat → Nat → Int} {h : AH} {g : GM} (hN : Nm n m p b) (hc : Cl n m p b O no h g) (hg : g 0 6 = n) {i : Nat} (hi : i < n) : f_QuillBoats_garden h 200 (iI (i : Int)) (iI 0) = some (h, iI (g (7 + i) 0)) := by
  obtain ⟨hQ, hS, -, -, hP, -, -⟩ := hc
  unfold Nm at hN
  have f1 := hasGarden_E hS hP (i := (i : Int)) (by omega) (by omega) (by omega) hg
  have f2 := isWithin_E (h := h) (x := 0) (a := 0) (c := 3) (by decide) (by decide) (by decide) (by decide)
  have f3 := (ofGarden_E hS hP (by omega) hg hi).1
  simp (disch := first | decide | omega) only [f_QuillBoats_garden, Nat.add_zero, true_and, and_true, gd_T, bn_S, bv_S, lq_E, wI_s, sI_s, hI_s, hT_s, hL_s, hR_s, hJ_s, hN_s, hU_s, nI_L, z_i, o_i, iI_add, iI_sub, iI_mul, iI_neg, iI_lt, iI_le, iI_eq, iI_ix, Int.toNat_natCast, if_neg, if_pos, gd_P, inb, ix, hQ.t, hQ.r4, hS.t, f1, f2, f3]
theorem garden_E1 {n m p b no : Nat} {O : Nat → Nat → Int} {h : AH} {g : GM} (hN : Nm n m p b) (hc : Cl n m p b O no h g) (hg : g 0 6 = n) {i : Nat} (hi : i < n) : f_QuillBoats_garden h 200 (iI (i : Int)) (iI 1) = some (h, iI (g (7 + i) 1)) := by
  obtain ⟨hQ, hS, -, -, hP, -, -⟩ := hc
  unfold Nm at hN
  have f1 := hasGarden_E hS hP (i := (i : Int)) (by omega) (by omega) (by omega) hg
  have f2 := isWithin_E (h := h) (x := 1) (a := 0) (c := 3) (by decide) (by decide) (by decide) (by decide)
  have f3 := (ofGarden_E hS hP (by omega) hg hi).2.1
  simp (disch := first | decide | omega) only [f_QuillBoats_garden, Nat.add_zero, true_and, and_true, gd_T, bn_S, bv_S, lq_E, wI_s, sI_s, hI_s, hT_s, hL_s, hR_s, hJ_s, hN_s, hU_s, nI_L, z_i, o_i, iI_add, iI_sub, iI_mul, iI_neg, iI_lt, iI_le, iI_eq, iI_ix, Int.toNat_natCast, if_neg, if_pos, gd_P, inb, ix, hQ.t, hQ.r4, hS.t, f1, f2, f3]
theorem garden_E2 {n m p b no : Nat} {O : Nat → Nat → Int} {h : AH} {g : GM} (hN : Nm n m p b) (hc : Cl n m p b O no h g) (hg : g 0 6 = n) {i : Nat} (hi : i < n) : f_QuillBoats_garden h 200 (iI (i : Int)) (iI 2) = some (h, iI (g (7 + i) 2)) := by
  obtain ⟨hQ, hS, -, -, hP, -, -⟩ := hc
  unfold Nm at hN
  have f1 := hasGarden_E hS hP (i := (i : Int)) (by omega) (by omega) (by omega) hg
  have f2 := isWithin_E (h := h) (x := 2) (a := 0) (c := 3) (by decide) (by decide) (by decide) (by decide)
  have f3 := (ofGarden_E hS hP (by omega) hg hi).2.2
  simp (disch := first | decide | omega) only [f_QuillBoats_garden, Nat.add_zero, true_and, and_true, gd_T, bn_S, bv_S, lq_E, wI_s, sI_s, hI_s, hT_s, hL_s, hR_s, hJ_s, hN_s, hU_s, nI_L, z_i, o_i, iI_add, iI_sub, iI_mul, iI_neg, iI_lt, iI_le, iI_eq, iI_ix, Int.toNat_natCast, if_neg, if_pos, gd_P, inb, ix, hQ.t, hQ.r4, hS.t, f1, f2, f3]
theorem rack_E0 {n m p b no : Nat} {O : Nat → Nat → Int} {h : AH} {g : GM} (hN : Nm n m p b) (hc : Cl n m p b O no h g) (hg : g 0 7 = m) {i : Nat} (hi : i < m) : f_QuillBoats_rack h 200 (iI (i : Int)) (iI 0) = some (h, iI (g (11 + 5 * i) 0)) := by
  obtain ⟨hQ, hS, -, -, hP, -, -⟩ := hc
  unfold Nm at hN
  have f1 := hasRack_E hS hP (i := (i : Int)) (by omega) (by omega) (by omega) hg
  have f2 := isWithin_E (h := h) (x := 0) (a := 0) (c := 3) (by decide) (by decide) (by decide) (by decide)
  have f3 := (ofRack_E hS hP (by omega) hg hi).1
  simp (disch := first | decide | omega) only [f_QuillBoats_rack, Nat.add_zero, true_and, and_true, gd_T, bn_S, bv_S, lq_E, wI_s, sI_s, hI_s, hT_s, hL_s, hR_s, hJ_s, hN_s, hU_s, nI_L, z_i, o_i, iI_add, iI_sub, iI_mul, iI_neg, iI_lt, iI_le, iI_eq, iI_ix, Int.toNat_natCast, if_neg, if_pos, gd_P, inb, ix, hQ.t, hQ.r4, hS.t, f1, f2, f3]
theorem rack_E1 {n m p b no : Nat} {O : Nat → Nat → Int} {h : AH} {g : GM} (hN : Nm n m p b) (hc : Cl n m p b O no h g) (hg : g 0 7 = m) {i : Nat} (hi : i < m) : f_QuillBoats_rack h 200 (iI (i : Int)) (iI 1) = some (h, iI (mRoom g i)) := by
  obtain ⟨hQ, hS, -, -, hP, -, -⟩ := hc
  unfold Nm at hN
  have f1 := hasRack_E hS hP (i := (i : Int)) (by omega) (by omega) (by omega) hg
  have f2 := isWithin_E (h := h) (x := 1) (a := 0) (c := 3) (by decide) (by decide) (by decide) (by decide)
  have f3 := (ofRack_E hS hP (by omega) hg hi).2.1
  simp (disch := first | decide | omega) only [f_QuillBoats_rack, Nat.add_zero, true_and, and_true, gd_T, bn_S, bv_S, lq_E, wI_s, sI_s, hI_s, hT_s, hL_s, hR_s, hJ_s, hN_s, hU_s, nI_L, z_i, o_i, iI_add, iI_sub, iI_mul, iI_neg, iI_lt, iI_le, iI_eq, iI_ix, Int.toNat_natCast, if_neg, if_pos, gd_P, inb, ix, hQ.t, hQ.r4, hS.t, f1, f2, f3]
theorem rack_E2 {n m p b no : Nat} {O : Nat → Nat → Int} {h : AH} {g : GM} (hN : Nm n m p b) (hc : Cl n m p b O no h g) (hg : g 0 7 = m) {i : Nat} (hi : i < m) : f_QuillBoats_rack h 200 (iI (i : Int)) (iI 2) = some (h, iI (g (11 + 5 * i) 2)) := by
  obtain ⟨hQ, hS, -, -, hP, -, -⟩ := hc
  unfold Nm at hN
  have f1 := hasRack_E hS hP (i := (i : Int)) (by omega) (by omega) (by omega) hg
  have f2 := isWithin_E (h := h) (x := 2) (a := 0) (c := 3) (by decide) (by decide) (by decide) (by decide)
  have f3 := (ofRack_E hS hP (by omega) hg hi).2.2
  simp (disch := first | decide | omega) only [f_QuillBoats_rack, Nat.add_zero, true_and, and_true, gd_T, bn_S, bv_S, lq_E, wI_s, sI_s, hI_s, hT_s, hL_s, hR_s, hJ_s, hN_s, hU_s, nI_L, z_i, o_i, iI_add, iI_sub, iI_mul, iI_neg, iI_lt, iI_le, iI_eq, iI_ix, Int.toNat_natCast, if_neg, if_pos, gd_P, inb, ix, hQ.t, hQ.r4, hS.t, f1, f2, f3]
theorem peeler_E0 {n m p b no : Nat} {O : Nat → Nat → Int} {h : AH} {g : GM} (hN : Nm n m p b) (hc : Cl n m p b O no h g) (hg : g 0 8 = p) {i : Nat} (hi : i < p) : f_QuillBoats_peeler h 200 (iI (i : Int)) (iI 0) = some (h, iI (g (31 + i) 0)) := by
  obtain ⟨hQ, hS, -, -, hP, -, -⟩ := hc
  unfold Nm at hN
  have f1 := hasPeeler_E hS hP (i := (i : Int)) (by omega) (by omega) (by omega) hg
  have f2 := isWithin_E (h := h) (x := 0) (a := 0) (c := 5) (by decide) (by decide) (by decide) (by decide)
  have f3 := (ofPeeler_E hS hP (by omega) hg hi).1
  simp (disch := first | decide | omega) only [f_QuillBoats_peeler, Nat.add_zero, true_and, and_true, gd_T, bn_S, bv_S, lq_E, wI_s, sI_s, hI_s, hT_s, hL_s, hR_s, hJ_s, hN_s, hU_s, nI_L, z_i, o_i, iI_add, iI_sub, iI_mul, iI_neg, iI_lt, iI_le, iI_eq, iI_ix, Int.toNat_natCast, if_neg, if_pos, gd_P, inb, ix, hQ.t, hQ.r4, hS.t, f1, f2, f3]
theorem peeler_E1 {n m p b no : Nat} {O : Nat → Nat → Int} {h : AH} {g : GM} (hN : Nm n m p b) (hc : Cl n m p b O no h g) (hg : g 0 8 = p) {i : Nat} (hi : i < p) : f_QuillBoats_peeler h 200 (iI (i : Int)) (iI 1) = some (h, iI (g (31 + i) 1)) := by
  obtain ⟨hQ, hS, -, -, hP, -, -⟩ := hc
  unfold Nm at hN
  have f1 := hasPeeler_E hS hP (i := (i : Int)) (by omega) (by omega) (by omega) hg
  have f2 := isWithin_E (h := h) (x := 1) (a := 0) (c := 5) (by decide) (by decide) (by decide) (by decide)
  have f3 := (ofPeeler_E hS hP (by omega) hg hi).2.1
  simp (disch := first | decide | omega) only [f_QuillBoats_peeler, Nat.add_zero, true_and, and_true, gd_T, bn_S, bv_S, lq_E, wI_s, sI_s, hI_s, hT_s, hL_s, hR_s, hJ_s, hN_s, hU_s, nI_L, z_i, o_i, iI_add, iI_sub, iI_mul, iI_neg, iI_lt, iI_le, iI_eq, iI_ix, Int.toNat_natCast, if_neg, if_pos, gd_P, inb, ix, hQ.t, hQ.r4, hS.t, f1, f2, f3]
theorem peeler_E2 {n m p b no : Nat} {O : Nat → Nat → Int} {h : AH} {g : GM} (hN : Nm n m p b) (hc : Cl n m p b O no h g) (hg : g 0 8 = p) {i : Nat} (hi : i < p) : f_QuillBoats_peeler h 200 (iI (i : Int)) (iI 2) = some (h, iI (g (31 + i) 2)) := by
  obtain ⟨hQ, hS, -, -, hP, -, -⟩ := hc
  unfold Nm at hN
  have f1 := hasPeeler_E hS hP (i := (i : Int)) (by omega) (by omega) (by omega) hg
  have f2 := isWithin_E (h := h) (x := 2) (a := 0) (c := 5) (by decide) (by decide) (by decide) (by decide)
  have f3 := (ofPeeler_E hS hP (by omega) hg hi).2.2.1
  simp (disch := first | decide | omega) only [f_QuillBoats_peeler, Nat.add_zero, true_and, and_true, gd_T, bn_S, bv_S, lq_E, wI_s, sI_s, hI_s, hT_s, hL_s, hR_s, hJ_s, hN_s, hU_s, nI_L, z_i, o_i, iI_add, iI_sub, iI_mul, iI_neg, iI_lt, iI_le, iI_eq, iI_ix, Int.toNat_natCast, if_neg, if_pos, gd_P, inb, ix, hQ.t, hQ.r4, hS.t, f1, f2, f3]
theorem peeler_E3 {n m p b no : Nat} {O : Nat → Nat → Int} {h : AH} {g : GM} (hN : Nm n m p b) (hc : Cl n m p b O no h g) (hg : g 0 8 = p) {i : Nat} (hi : i < p) : f_QuillBoats_peeler h 200 (iI (i : Int)) (iI 3) = some (h, iI (g (31 + i) 3)) := by
  obtain ⟨hQ, hS, -, -, hP, -, -⟩ := hc
  unfold Nm at hN
  have f1 := hasPeeler_E hS hP (i := (i : Int)) (by omega) (by omega) (by omega) hg
  have f2 := isWithin_E (h := h) (x := 3) (a := 0) (c := 5) (by decide) (by decide) (by decide) (by decide)
  have f3 := (ofPeeler_E hS hP (by omega) hg hi).2.2.2.1
  simp (disch := first | decide | omega) only [f_QuillBoats_peeler, Nat.add_zero, true_and, and_true, gd_T, bn_S, bv_S, lq_E, wI_s, sI_s, hI_s, hT_s, hL_s, hR_s, hJ_s, hN_s, hU_s, nI_L, z_i, o_i, iI_add, iI_sub, iI_mul, iI_neg, iI_lt, iI_le, iI_eq, iI_ix, Int.toNat_natCast, if_neg, if_pos, gd_P, inb, ix, hQ.t, hQ.r4, hS.t, f1, f2, f3]
theorem peeler_E4 {n m p b no : Nat} {O : Nat → Nat → Int} {h : AH} {g : GM} (hN : Nm n m p b) (hc : Cl n m p b O no h g) (hg : g 0 8 = p) {i : Nat} (hi : i < p) : f_QuillBoats_peeler h 200 (iI (i : Int)) (iI 4) = some (h, iI (g (31 + i) 4)) := by
  obtain ⟨hQ, hS, -, -, hP, -, -⟩ := hc
  unfold Nm at hN
  have f1 := hasPeeler_E hS hP (i := (i : Int)) (by omega) (by omega) (by omega) hg
  have f2 := isWithin_E (h := h) (x := 4) (a := 0) (c := 5) (by decide) (by decide) (by decide) (by decide)
  have f3 := (ofPeeler_E hS hP (by omega) hg hi).2.2.2.2.1
  simp (disch := first | decide | omega) only [f_QuillBoats_peeler, Nat.add_zero, true_and, and_true, gd_T, bn_S, bv_S, lq_E, wI_s, sI_s, hI_s, hT_s, hL_s, hR_s, hJ_s, hN_s, hU_s, nI_L, z_i, o_i, iI_add, iI_sub, iI_mul, iI_neg, iI_lt, iI_le, iI_eq, iI_ix, Int.toNat_natCast, if_neg, if_pos, gd_P, inb, ix, hQ.t, hQ.r4, hS.t, f1, f2, f3]
theorem peeler_E5 {n m p b no : Nat} {O : Nat → Nat → Int} {h : AH} {g : GM} (hN : Nm n m p b) (hc : Cl n m p b O no h g) (hg : g 0 8 = p) {i : Nat} (hi : i < p) : f_QuillBoats_peeler h 200 (iI (i : Int)) (iI 5) = some (h, iI (g (31 + i) 5)) := by
  obtain ⟨hQ, hS, -, -, hP, -, -⟩ := hc
  unfold Nm at hN
  have f1 := hasPeeler_E hS hP (i := (i : Int)) (by omega) (by omega) (by omega) hg
  have f2 := isWithin_E (h := h) (x := 5) (a := 0) (c := 5) (by decide) (by decide) (by decide) (by decide)
  have f3 := (ofPeeler_E hS hP (by omega) hg hi).2.2.2.2.2
  simp (disch := first | decide | omega) only [f_QuillBoats_peeler, Nat.add_zero, true_and, and_true, gd_T, bn_S, bv_S, lq_E, wI_s, sI_s, hI_s, hT_s, hL_s, hR_s, hJ_s, hN_s, hU_s, nI_L, z_i, o_i, iI_add, iI_sub, iI_mul, iI_neg, iI_lt, iI_le, iI_eq, iI_ix, Int.toNat_natCast, if_neg, if_pos, gd_P, inb, ix, hQ.t, hQ.r4, hS.t, f1, f2, f3]
theorem boat_E0 {n m p b no : Nat} {O : Nat → Nat → Int} {h : AH} {g : GM} (hN : Nm n m p b) (hc : Cl n m p b O no h g) (hg : g 0 9 = b) {i : Nat} (hi : i < b) : f_QuillBoats_boat h 200 (iI (i : Int)) (iI 0) = some (h, iI (g (39 + i) 0)) := by
  obtain ⟨hQ, hS, -, -, hP, -, -⟩ := hc
  unfold Nm at hN
  have f1 := hasBoat_E hS hP (i := (i : Int)) (by omega) (by omega) (by omega) hg
  have f2 := isWithin_E (h := h) (x := 0) (a := 0) (c := 6) (by decide) (by decide) (by decide) (by decide)
  have f3 := (ofBoat_E hS hP (by omega) hg hi).1
  simp (disch := first | decide | omega) only [f_QuillBoats_boat, Nat.add_zero, true_and, and_true, gd_T, bn_S, bv_S, lq_E, wI_s, sI_s, hI_s, hT_s, hL_s, hR_s, hJ_s, hN_s, hU_s, nI_L, z_i, o_i, iI_add, iI_sub, iI_mul, iI_neg, iI_lt, iI_le, iI_eq, iI_ix, Int.toNat_natCast, if_neg, if_pos, gd_P, inb, ix, hQ.t, hQ.r4, hS.t, f1, f2, f3]
theorem boat_E1 {n m p b no : Nat} {O : Nat → Nat → Int} {h : AH} {g : GM} (hN : Nm n m p b) (hc : Cl n m p b O no h g) (hg : g 0 9 = b) {i : Nat} (hi : i < b) : f_QuillBoats_boat h 200 (iI (i : Int)) (iI 1) = some (h, iI (g (39 + i) 1)) := by
  obtain ⟨hQ, hS, -, -, hP, -, -⟩ := hc
  unfold Nm at hN
  have f1 := hasBoat_E hS hP (i := (i : Int)) (by omega) (by omega) (by omega) hg
  have f2 := isWithin_E (h := h) (x := 1) (a := 0) (c := 6) (by decide) (by decide) (by decide) (by decide)
  have f3 := (ofBoat_E hS hP (by omega) hg hi).2.1
  simp (disch := first | decide | omega) only [f_QuillBoats_boat, Nat.add_zero, true_and, and_true, gd_T, bn_S, bv_S, lq_E, wI_s, sI_s, hI_s, hT_s, hL_s, hR_s, hJ_s, hN_s, hU_s, nI_L, z_i, o_i, iI_add, iI_sub, iI_mul, iI_neg, iI_lt, iI_le, iI_eq, iI_ix, Int.toNat_natCast, if_neg, if_pos, gd_P, inb, ix, hQ.t, hQ.r4, hS.t, f1, f2, f3]
theorem boat_E2 {n m p b no : Nat} {O : Nat → Nat → Int} {h : AH} {g : GM} (hN : Nm n m p b) (hc : Cl n m p b O no h g) (hg : g 0 9 = b) {i : Nat} (hi : i < b) : f_QuillBoats_boat h 200 (iI (i : Int)) (iI 2) = some (h, iI (g (39 + i) 2)) := by
  obtain ⟨hQ, hS, -, -, hP, -, -⟩ := hc
  unfold Nm at hN
  have f1 := hasBoat_E hS hP (i := (i : Int)) (by omega) (by omega) (by omega) hg
  have f2 := isWithin_E (h := h) (x := 2) (a := 0) (c := 6) (by decide) (by decide) (by decide) (by decide)
  have f3 := (ofBoat_E hS hP (by omega) hg hi).2.2.1
  simp (disch := first | decide | omega) only [f_QuillBoats_boat, Nat.add_zero, true_and, and_true, gd_T, bn_S, bv_S, lq_E, wI_s, sI_s, hI_s, hT_s, hL_s, hR_s, hJ_s, hN_s, hU_s, nI_L, z_i, o_i, iI_add, iI_sub, iI_mul, iI_neg, iI_lt, iI_le, iI_eq, iI_ix, Int.toNat_natCast, if_neg, if_pos, gd_P, inb, ix, hQ.t, hQ.r4, hS.t, f1, f2, f3]
theorem boat_E3 {n m p b no : Nat} {O : Nat → Nat → Int} {h : AH} {g : GM} (hN : Nm n m p b) (hc : Cl n m p b O no h g) (hg : g 0 9 = b) {i : Nat} (hi : i < b) : f_QuillBoats_boat h 200 (iI (i : Int)) (iI 3) = some (h, iI (g (39 + i) 3)) := by
  obtain ⟨hQ, hS, -, -, hP, -, -⟩ := hc
  unfold Nm at hN
  have f1 := hasBoat_E hS hP (i := (i : Int)) (by omega) (by omega) (by omega) hg
  have f2 := isWithin_E (h := h) (x := 3) (a := 0) (c := 6) (by decide) (by decide) (by decide) (by decide)
  have f3 := (ofBoat_E hS hP (by omega) hg hi).2.2.2.1
  simp (disch := first | decide | omega) only [f_QuillBoats_boat, Nat.add_zero, true_and, and_true, gd_T, bn_S, bv_S, lq_E, wI_s, sI_s, hI_s, hT_s, hL_s, hR_s, hJ_s, hN_s, hU_s, nI_L, z_i, o_i, iI_add, iI_sub, iI_mul, iI_neg, iI_lt, iI_le, iI_eq, iI_ix, Int.toNat_natCast, if_neg, if_pos, gd_P, inb, ix, hQ.t, hQ.r4, hS.t, f1, f2, f3]
theorem boat_E4 {n m p b no : Nat} {O : Nat → Nat → Int} {h : AH} {g : GM} (hN : Nm n m p b) (hc : Cl n m p b O no h g) (hg : g 0 9 = b) {i : Nat} (hi : i < b) : f_QuillBoats_boat h 200 (iI (i : Int)) (iI 4) = some (h, iI (g (39 + i) 4)) := by
  obtain ⟨hQ, hS, -, -, hP, -, -⟩ := hc
  unfold Nm at hN
  have f1 := hasBoat_E hS hP (i := (i : Int)) (by omega) (by omega) (by omega) hg
  have f2 := isWithin_E (h := h) (x := 4) (a := 0) (c := 6) (by decide) (by decide) (by decide) (by decide)
  have f3 := (ofBoat_E hS hP (by omega) hg hi).2.2.2.2.1
  simp (disch := first | decide | omega) only [f_QuillBoats_boat, Nat.add_zero, true_and, and_true, gd_T, bn_S, bv_S, lq_E, wI_s, sI_s, hI_s, hT_s, hL_s, hR_s, hJ_s, hN_s, hU_s, nI_L, z_i, o_i, iI_add, iI_sub, iI_mul, iI_neg, iI_lt, iI_le, iI_eq, iI_ix, Int.toNat_natCast, if_neg, if_pos, gd_P, inb, ix, hQ.t, hQ.r4, hS.t, f1, f2, f3]
theorem boat_E5 {n m p b no : Nat} {O : Nat → Nat → Int} {h : AH} {g : GM} (hN : Nm n m p b) (hc : Cl n m p b O no h g) (hg : g 0 9 = b) {i : Nat} (hi : i < b) : f_QuillBoats_boat h 200 (iI (i : Int)) (iI 5) = some (h, iI (g (39 + i) 5)) := by
  obtain ⟨hQ, hS, -, -, hP, -, -⟩ := hc
  unfold Nm at hN
  have f1 := hasBoat_E hS hP (i := (i : Int)) (by omega) (by omega) (by omega) hg
  have f2 := isWithin_E (h := h) (x := 5) (a := 0) (c := 6) (by decide) (by decide) (by decide) (by decide)
  have f3 := (ofBoat_E hS hP (by omega) hg hi).2.2.2.2.2.1
  simp (disch := first | decide | omega) only [f_QuillBoats_boat, Nat.add_zero, true_and, and_true, gd_T, bn_S, bv_S, lq_E, wI_s, sI_s, hI_s, hT_s, hL_s, hR_s, hJ_s, hN_s, hU_s, nI_L, z_i, o_i, iI_add, iI_sub, iI_mul, iI_neg, iI_lt, iI_le, iI_eq, iI_ix, Int.toNat_natCast, if_neg, if_pos, gd_P, inb, ix, hQ.t, hQ.r4, hS.t, f1, f2, f3]
theorem boat_E6 {n m p b no : Nat} {O : Nat → Nat → Int} {h : AH} {g : GM} (hN : Nm n m p b) (hc : Cl n m p b O no h g) (hg : g 0 9 = b) {i : Nat} (hi : i < b) : f_QuillBoats_boat h 200 (iI (i : Int)) (iI 6) = some (h, iI (g (39 + i) 6)) := by
  obtain ⟨hQ, hS, -, -, hP, -, -⟩ := hc
  unfold Nm at hN
  have f1 := hasBoat_E hS hP (i := (i : Int)) (by omega) (by omega) (by omega) hg
  have f2 := isWithin_E (h := h) (x := 6) (a := 0) (c := 6) (by decide) (by decide) (by decide) (by decide)
  have f3 := (ofBoat_E hS hP (by omega) hg hi).2.2.2.2.2.2
  simp (disch := first | decide | omega) only [f_QuillBoats_boat, Nat.add_zero, true_and, and_true, gd_T, bn_S, bv_S, lq_E, wI_s, sI_s, hI_s, hT_s, hL_s, hR_s, hJ_s, hN_s, hU_s, nI_L, z_i, o_i, iI_add, iI_sub, iI_mul, iI_neg, iI_lt, iI_le, iI_eq, iI_ix, Int.toNat_natCast, if_neg, if_pos, gd_P, inb, ix, hQ.t, hQ.r4, hS.t, f1, f2, f3]
theorem grade_E0 {n m p b no : Nat} {O : Nat → Nat → Int} {h : AH} {g : GM} (hN : Nm n m p b) (hc : Cl n m p b O no h g) {i : Nat} (hi : i < 4) (h0 : 0 ≤ g (43 + i) 2) (h1 : g (43 + i) 2 < 1000000) (h2 : 0 ≤ g (43 + i) 1) (h3 : g (43 + i) 1 ≤ 50) : f_QuillBoats_grade h 200 (iI (i : Int)) (iI 0) = some (h, iI (g (43 + i) 0)) := by
  obtain ⟨hQ, hS, -, -, hP, -, -⟩ := hc
  unfold Nm at hN
  have f1 := hasGrade_E (h := h) (r := 206) (i := (i : Int)) (by omega) (by omega)
  have f2 := isWithin_E (h := h) (x := 0) (a := 0) (c := 4) (by decide) (by decide) (by decide) (by decide)
  have f3 := (ofGrade_E hS hP hi h0 h1 h2 h3).1
  simp (disch := first | decide | omega) only [f_QuillBoats_grade, Nat.add_zero, true_and, and_true, gd_T, bn_S, bv_S, lq_E, wI_s, sI_s, hI_s, hT_s, hL_s, hR_s, hJ_s, hN_s, hU_s, nI_L, z_i, o_i, iI_add, iI_sub, iI_mul, iI_neg, iI_lt, iI_le, iI_eq, iI_ix, Int.toNat_natCast, if_neg, if_pos, gd_P, inb, ix, hQ.t, hQ.r4, hS.t, f1, f2, f3]
theorem grade_E1 {n m p b no : Nat} {O : Nat → Nat → Int} {h : AH} {g : GM} (hN : Nm n m p b) (hc : Cl n m p b O no h g) {i : Nat} (hi : i < 4) (h0 : 0 ≤ g (43 + i) 2) (h1 : g (43 + i) 2 < 1000000) (h2 : 0 ≤ g (43 + i) 1) (h3 : g (43 + i) 1 ≤ 50) : f_QuillBoats_grade h 200 (iI (i : Int)) (iI 1) = some (h, iI (g (43 + i) 1)) := by
  obtain ⟨hQ, hS, -, -, hP, -, -⟩ := hc
  unfold Nm at hN
  have f1 := hasGrade_E (h := h) (r := 206) (i := (i : Int)) (by omega) (by omega)
  have f2 := isWithin_E (h := h) (x := 1) (a := 0) (c := 4) (by decide) (by decide) (by decide) (by decide)
  have f3 := (ofGrade_E hS hP hi h0 h1 h2 h3).2.1
  simp (disch := first | decide | omega) only [f_QuillBoats_grade, Nat.add_zero, true_and, and_true, gd_T, bn_S, bv_S, lq_E, wI_s, sI_s, hI_s, hT_s, hL_s, hR_s, hJ_s, hN_s, hU_s, nI_L, z_i, o_i, iI_add, iI_sub, iI_mul, iI_neg, iI_lt, iI_le, iI_eq, iI_ix, Int.toNat_natCast, if_neg, if_pos, gd_P, inb, ix, hQ.t, hQ.r4, hS.t, f1, f2, f3]
theorem grade_E2 {n m p b no : Nat} {O : Nat → Nat → Int} {h : AH} {g : GM} (hN : Nm n m p b) (hc : Cl n m p b O no h g) {i : Nat} (hi : i < 4) (h0 : 0 ≤ g (43 + i) 2) (h1 : g (43 + i) 2 < 1000000) (h2 : 0 ≤ g (43 + i) 1) (h3 : g (43 + i) 1 ≤ 50) : f_QuillBoats_grade h 200 (iI (i : Int)) (iI 2) = some (h, iI (g (43 + i) 2)) := by
  obtain ⟨hQ, hS, -, -, hP, -, -⟩ := hc
  unfold Nm at hN
  have f1 := hasGrade_E (h := h) (r := 206) (i := (i : Int)) (by omega) (by omega)
  have f2 := isWithin_E (h := h) (x := 2) (a := 0) (c := 4) (by decide) (by decide) (by decide) (by decide)
  have f3 := (ofGrade_E hS hP hi h0 h1 h2 h3).2.2.1
  simp (disch := first | decide | omega) only [f_QuillBoats_grade, Nat.add_zero, true_and, and_true, gd_T, bn_S, bv_S, lq_E, wI_s, sI_s, hI_s, hT_s, hL_s, hR_s, hJ_s, hN_s, hU_s, nI_L, z_i, o_i, iI_add, iI_sub, iI_mul, iI_neg, iI_lt, iI_le, iI_eq, iI_ix, Int.toNat_natCast, if_neg, if_pos, gd_P, inb, ix, hQ.t, hQ.r4, hS.t, f1, f2, f3]
theorem grade_E3 {n m p b no : Nat} {O : Nat → Nat → Int} {h : AH} {g : GM} (hN : Nm n m p b) (hc : Cl n m p b O no h g) {i : Nat} (hi : i < 4) (h0 : 0 ≤ g (43 + i) 2) (h1 : g (43 + i) 2 < 1000000) (h2 : 0 ≤ g (43 + i) 1) (h3 : g (43 + i) 1 ≤ 50) : f_QuillBoats_grade h 200 (iI (i : Int)) (iI 3) = some (h, iI (mPrice g i)) := by
  obtain ⟨hQ, hS, -, -, hP, -, -⟩ := hc
  unfold Nm at hN
  have f1 := hasGrade_E (h := h) (r := 206) (i := (i : Int)) (by omega) (by omega)
  have f2 := isWithin_E (h := h) (x := 3) (a := 0) (c := 4) (by decide) (by decide) (by decide) (by decide)
  have f3 := (ofGrade_E hS hP hi h0 h1 h2 h3).2.2.2.1
  simp (disch := first | decide | omega) only [f_QuillBoats_grade, Nat.add_zero, true_and, and_true, gd_T, bn_S, bv_S, lq_E, wI_s, sI_s, hI_s, hT_s, hL_s, hR_s, hJ_s, hN_s, hU_s, nI_L, z_i, o_i, iI_add, iI_sub, iI_mul, iI_neg, iI_lt, iI_le, iI_eq, iI_ix, Int.toNat_natCast, if_neg, if_pos, gd_P, inb, ix, hQ.t, hQ.r4, hS.t, f1, f2, f3]
theorem grade_E4 {n m p b no : Nat} {O : Nat → Nat → Int} {h : AH} {g : GM} (hN : Nm n m p b) (hc : Cl n m p b O no h g) {i : Nat} (hi : i < 4) (h0 : 0 ≤ g (43 + i) 2) (h1 : g (43 + i) 2 < 1000000) (h2 : 0 ≤ g (43 + i) 1) (h3 : g (43 + i) 1 ≤ 50) : f_QuillBoats_grade h 200 (iI (i : Int)) (iI 4) = some (h, iI (g (43 + i) 3)) := by
  obtain ⟨hQ, hS, -, -, hP, -, -⟩ := hc
  unfold Nm at hN
  have f1 := hasGrade_E (h := h) (r := 206) (i := (i : Int)) (by omega) (by omega)
  have f2 := isWithin_E (h := h) (x := 4) (a := 0) (c := 4) (by decide) (by decide) (by decide) (by decide)
  have f3 := (ofGrade_E hS hP hi h0 h1 h2 h3).2.2.2.2
  simp (disch := first | decide | omega) only [f_QuillBoats_grade, Nat.add_zero, true_and, and_true, gd_T, bn_S, bv_S, lq_E, wI_s, sI_s, hI_s, hT_s, hL_s, hR_s, hJ_s, hN_s, hU_s, nI_L, z_i, o_i, iI_add, iI_sub, iI_mul, iI_neg, iI_lt, iI_le, iI_eq, iI_ix, Int.toNat_natCast, if_neg, if_pos, gd_P, inb, ix, hQ.t, hQ.r4, hS.t, f1, f2, f3]
theorem garden_E3 {n m p b no : Nat} {O : Nat → Nat → Int} {h : AH} {g : GM} (hN : Nm n m p b) (hc : Cl n m p b O no h g) (hg : g 0 6 = n) (g8 : g 0 8 = p) (hv : ∀ i, i < p → 0 ≤ g (31 + i) 0 ∧ g (31 + i) 0 < 100) {i : Nat} (hi : i < n) : f_QuillBoats_garden h 200 (iI (i : Int)) (iI 3) = some (h, iI (mOfG p g i)) := by
  obtain ⟨hQ, hS, -, -, hP, -, -⟩ := hc
  unfold Nm at hN
  have f1 := hasGarden_E hS hP (i := (i : Int)) (by omega) (by omega) (by omega) hg
  have f2 := isWithin_E (h := h) (x := 3) (a := 0) (c := 3) (by decide) (by decide) (by decide) (by decide)
  have f3 := peelersOfGarden_E (by omega) hS hP g8 (K := i) (by omega) hv
  simp (disch := first | decide | omega) only [f_QuillBoats_garden, f_River_ofGarden, Nat.add_zero, true_and, and_true, gd_T, bn_S, bv_S, lq_E, wI_s, sI_s, hI_s, hT_s, hL_s, hR_s, hJ_s, hN_s, hU_s, nI_L, z_i, o_i, iI_add, iI_sub, iI_mul, iI_neg, iI_lt, iI_le, iI_eq, iI_ix, Int.toNat_natCast, if_neg, if_pos, gd_P, inb, ix, hQ.t, hQ.r4, hS.t, f1, f2, f3]
theorem rack_E3 {n m p b no : Nat} {O : Nat → Nat → Int} {h : AH} {g : GM} (hN : Nm n m p b) (hc : Cl n m p b O no h g) (hg : g 0 7 = m) (g8 : g 0 8 = p) (hv : ∀ i, i < p → 0 ≤ g (31 + i) 1 ∧ g (31 + i) 1 < 100) {i : Nat} (hi : i < m) : f_QuillBoats_rack h 200 (iI (i : Int)) (iI 3) = some (h, iI (mToR p g i)) := by
  obtain ⟨hQ, hS, -, -, hP, -, -⟩ := hc
  unfold Nm at hN
  have f1 := hasRack_E hS hP (i := (i : Int)) (by omega) (by omega) (by omega) hg
  have f2 := isWithin_E (h := h) (x := 3) (a := 0) (c := 3) (by decide) (by decide) (by decide) (by decide)
  have f3 := peelersToRack_E (by omega) hS hP g8 (K := i) (by omega) hv
  simp (disch := first | decide | omega) only [f_QuillBoats_rack, f_River_ofRack, Nat.add_zero, true_and, and_true, gd_T, bn_S, bv_S, lq_E, wI_s, sI_s, hI_s, hT_s, hL_s, hR_s, hJ_s, hN_s, hU_s, nI_L, z_i, o_i, iI_add, iI_sub, iI_mul, iI_neg, iI_lt, iI_le, iI_eq, iI_ix, Int.toNat_natCast, if_neg, if_pos, gd_P, inb, ix, hQ.t, hQ.r4, hS.t, f1, f2, f3]
theorem shade_E {n m p b no : Nat} {O : Nat → Nat → Int} {h : AH} {g : GM} (hc : Cl n m p b O no h g) {i : Nat} (hi : i < 12) : f_QuillBoats_shade h 200 (iI (i : Int)) = some (h, iI (g 6 i)) := by
  obtain ⟨hQ, hS, -, -, hP, -, -⟩ := hc
  have f2 := isWithin_E (h := h) (x := (i : Int)) (a := 0) (c := 11) (by omega) (by omega) (by decide) (by decide)
  simp (disch := first | decide | omega) only [f_QuillBoats_shade, Nat.add_zero, true_and, and_true, gd_T, bn_S, bv_S, lq_E, wI_s, sI_s, hI_s, hT_s, hL_s, hR_s, hJ_s, hN_s, hU_s, nI_L, z_i, o_i, iI_add, iI_sub, iI_mul, iI_neg, iI_lt, iI_le, iI_eq, iI_ix, Int.toNat_natCast, if_neg, if_pos, gd_P, inb, ix, hQ.t, hQ.r4, hS.t, hS.f5, hS.at6, hS.al6, f2, hP.sh]
theorem worth_E {n m p b no : Nat} {O : Nat → Nat → Int} {h : AH} {g : GM} (hc : Cl n m p b O no h g) {i : Nat} (hi : i < 4) (h0 : 0 ≤ g (43 + i) 2) (h1 : g (43 + i) 2 < 1000000) (h2 : 0 ≤ g (43 + i) 1) (h3 : g (43 + i) 1 ≤ 50) {q : Int} (q1 : 1 ≤ q) (q2 : q ≤ 40) : f_QuillBoats_worth h 200 (iI (i : Int)) (iI q) = some (h, iI (mWorth (g (43 + i) 1) q.toNat (g (43 + i) 2))) := by
  obtain ⟨hQ, hS, -, -, hP, -, -⟩ := hc
  have f1 := hasGrade_E (h := h) (r := 206) (i := (i : Int)) (by omega) (by omega)
  have f2 := isWithin_E (h := h) (x := q) (a := 1) (c := 40) (by omega) (by omega) (by decide) (by decide)
  have f3 := worthOf_E hS hP hi h0 h1 h2 h3 (q := q) (by omega) (by omega)
  simp (disch := first | decide | omega) only [f_QuillBoats_worth, Nat.add_zero, true_and, and_true, gd_T, bn_S, bv_S, lq_E, wI_s, sI_s, hI_s, hT_s, hL_s, hR_s, hJ_s, hN_s, hU_s, nI_L, z_i, o_i, iI_add, iI_sub, iI_mul, iI_neg, iI_lt, iI_le, iI_eq, iI_ix, Int.toNat_natCast, if_neg, if_pos, gd_P, inb, ix, hQ.t, hQ.r4, hS.t, hS.f4, hS.at5, hS.al5, hS.qR, hS.qT, f1, f2, f3]
-- bundles
theorem tell_E {n m p b r : Nat} {h : AH} {g : GM} (hS : SkR h r) (hP : RP n m p b r (hI h) g) {K j : Nat} (hK : K < m) (hm : m ≤ 4) (hj : (j : Int) < mct g K) (h6 : mct g K ≤ 60) (h1 : 1 ≤ g (13 + 5 * K) j) (h2 : g (13 + 5 * K) j ≤ 9) (h3 : 0 ≤ g (15 + 5 * K) j) (h4 : g (15 + 5 * K) j ≤ 10000) :
    f_Rack_tell h (r + (11 + 5 * K)) (iI (j : Int)) (iI 0) = some (h, iI (g (12 + 5 * K) j)) ∧ f_Rack_tell h (r + (11 + 5 * K)) (iI (j : Int)) (iI 1) = some (h, iI (g (13 + 5 * K) j)) ∧ f_Rack_tell h (r + (11 + 5 * K)) (iI (j : Int)) (iI 2) = some (h, iI (g (14 + 5 * K) j)) ∧ f_Rack_tell h (r + (11 + 5 * K)) (iI (j : Int)) (iI 3) = some (h, iI (g (15 + 5 * K) j)) ∧ f_Rack_tell h (r + (11 + 5 * K)) (iI (j : Int)) (iI 4) = some (h, iI (mGradeOf (g (13 + 5 * K) j) (g (15 + 5 * K) j))) := by
  have b1 := hP.b1 K j hK hj
  have b2 := hP.b2 K j hK hj
  have b3 := hP.b3 K j hK hj
  have b4 := hP.b4 K j hK hj
  have f1 := gradeOf_E (h := h) h1 h2 h3 (by omega)
  have f2 := hP.ra K 2 hK (by decide)
  unfold mct at hj h6
  refine ⟨?_, ?_, ?_, ?_, ?_⟩ <;> simp (disch := first | decide | omega) only [f_Rack_tell, Nat.add_zero, true_and, and_true, gd_T, bn_S, bv_S, lq_E, wI_s, sI_s, hI_s, hT_s, hL_s, hR_s, hJ_s, hN_s, hU_s, nI_L, z_i, o_i, iI_add, iI_sub, iI_mul, iI_neg, iI_lt, iI_le, iI_eq, iI_ix, Int.toNat_natCast, if_neg, if_pos, gd_P, inb, ix, hS.t, hS.f0, hS.f1, hS.f2, hS.f3, hS.f4, hS.f5, hS.at1, hS.al1, hS.at2, hS.al2, hS.at3, hS.al3, hS.at4, hS.al4, hS.at5, hS.al5, hS.at6, hS.al6, hS.gR, hS.gT, hS.kR, hS.kT, hS.k3, hS.k4, hS.k5, hS.k6, hS.kt1, hS.kt2, hS.kt3, hS.kt4, hS.kl1, hS.kl2, hS.kl3, hS.kl4, hS.pR, hS.pT, hS.bR, hS.bT, hS.qR, hS.qT, f1, f2, b1, b2, b3, b4]
theorem ofBundle_E {n m p b r : Nat} {h : AH} {g : GM} (hm : m ≤ 4) (hS : SkR h r) (hP : RP n m p b r (hI h) g) (hg : g 0 7 = m) {K j : Nat} (hK : K < m) (hj : (j : Int) < mct g K) (h6 : mct g K ≤ 60) (h1 : 1 ≤ g (13 + 5 * K) j) (h2 : g (13 + 5 * K) j ≤ 9) (h3 : 0 ≤ g (15 + 5 * K) j) (h4 : g (15 + 5 * K) j ≤ 10000) : f_River_ofBundle h r (iI (K : Int)) (iI (j : Int)) (iI 0) = some (h, iI (g (12 + 5 * K) j)) ∧ f_River_ofBundle h r (iI (K : Int)) (iI (j : Int)) (iI 1) = some (h, iI (g (13 + 5 * K) j)) ∧ f_River_ofBundle h r (iI (K : Int)) (iI (j : Int)) (iI 2) = some (h, iI (g (14 + 5 * K) j)) ∧ f_River_ofBundle h r (iI (K : Int)) (iI (j : Int)) (iI 3) = some (h, iI (g (15 + 5 * K) j)) ∧ f_River_ofBundle h r (iI (K : Int)) (iI (j : Int)) (iI 4) = some (h, iI (mGradeOf (g (13 + 5 * K) j) (g (15 + 5 * K) j))) := by
  obtain ⟨t0, t1, t2, t3, t4⟩ := tell_E hS hP hK hm hj h6 h1 h2 h3 h4
  have f1 := hasRack_E hS hP (i := (K : Int)) (by omega) (by omega) hm hg
  refine ⟨?_, ?_, ?_, ?_, ?_⟩ <;> simp (disch := first | decide | omega) only [f_River_ofBundle, Nat.add_zero, true_and, and_true, gd_T, bn_S, bv_S, lq_E, wI_s, sI_s, hI_s, hT_s, hL_s, hR_s, hJ_s, hN_s, hU_s, nI_L, z_i, o_i, iI_add, iI_sub, iI_mul, iI_neg, iI_lt, iI_le, iI_eq, iI_ix, Int.toNat_natCast, if_neg, if_pos, gd_P, inb, ix, hS.t, hS.f0, hS.f1, hS.f2, hS.f3, hS.f4, hS.f5, hS.at1, hS.al1, hS.at2, hS.al2, hS.at3, hS.al3, hS.at4, hS.al4, hS.at5, hS.al5, hS.at6, hS.al6, hS.gR, hS.gT, hS.kR, hS.kT, hS.k3, hS.k4, hS.k5, hS.k6, hS.kt1, hS.kt2, hS.kt3, hS.kt4, hS.kl1, hS.kl2, hS.kl3, hS.kl4, hS.pR, hS.pT, hS.bR, hS.bT, hS.qR, hS.qT, f1, t0, t1, t2, t3, t4]
theorem hasBundle_E {n m p b r : Nat} {h : AH} {g : GM} (hm : m ≤ 4) (hS : SkR h r) (hP : RP n m p b r (hI h) g) (hg : g 0 7 = m) {K j : Nat} (hK : K < m) (hj : (j : Int) < mct g K) (h6 : mct g K ≤ 60) : f_River_hasBundle h r (iI (K : Int)) (iI (j : Int)) = some (h, iI 1) := by
  have f1 := hasRack_E hS hP (i := (K : Int)) (by omega) (by omega) hm hg
  have f2 := bundles_E hS hP hK hm
  unfold mct at hj h6
  simp (disch := first | decide | omega) only [f_River_hasBundle, Nat.add_zero, true_and, and_true, gd_T, bn_S, bv_S, lq_E, wI_s, sI_s, hI_s, hT_s, hL_s, hR_s, hJ_s, hN_s, hU_s, nI_L, z_i, o_i, iI_add, iI_sub, iI_mul, iI_neg, iI_lt, iI_le, iI_eq, iI_ix, Int.toNat_natCast, if_neg, if_pos, gd_P, inb, ix, hS.t, hS.f0, hS.f1, hS.f2, hS.f3, hS.f4, hS.f5, hS.at1, hS.al1, hS.at2, hS.al2, hS.at3, hS.al3, hS.at4, hS.al4, hS.at5, hS.al5, hS.at6, hS.al6, hS.gR, hS.gT, hS.kR, hS.kT, hS.k3, hS.k4, hS.k5, hS.k6, hS.kt1, hS.kt2, hS.kt3, hS.kt4, hS.kl1, hS.kl2, hS.kl3, hS.kl4, hS.pR, hS.pT, hS.bR, hS.bT, hS.qR, hS.qT, f1, f2]
theorem bundle_E0 {n m p b no : Nat} {O : Nat → Nat → Int} {h : AH} {g : GM} (hN : Nm n m p b) (hc : Cl n m p b O no h g) (hg : g 0 7 = m) {K j : Nat} (hK : K < m) (hj : (j : Int) < mct g K) (h6 : mct g K ≤ 60) (h1 : 1 ≤ g (13 + 5 * K) j) (h2 : g (13 + 5 * K) j ≤ 9) (h3 : 0 ≤ g (15 + 5 * K) j) (h4 : g (15 + 5 * K) j ≤ 10000) : f_QuillBoats_bundle h 200 (iI (K : Int)) (iI (j : Int)) (iI 0) = some (h, iI (g (12 + 5 * K) j)) := by
  obtain ⟨hQ, hS, -, -, hP, -, -⟩ := hc
  unfold Nm at hN
  have f1 := hasBundle_E (by omega) hS hP hg hK hj h6
  have f2 := isWithin_E (h := h) (x := 0) (a := 0) (c := 4) (by decide) (by decide) (by decide) (by decide)
  have f3 := (ofBundle_E (by omega) hS hP hg hK hj h6 h1 h2 h3 h4).1
  simp (disch := first | decide | omega) only [f_QuillBoats_bundle, Nat.add_zero, true_and, and_true, gd_T, bn_S, bv_S, lq_E, wI_s, sI_s, hI_s, hT_s, hL_s, hR_s, hJ_s, hN_s, hU_s, nI_L, z_i, o_i, iI_add, iI_sub, iI_mul, iI_neg, iI_lt, iI_le, iI_eq, iI_ix, Int.toNat_natCast, if_neg, if_pos, gd_P, inb, ix, hQ.t, hQ.r4, hS.t, f1, f2, f3]
theorem bundle_E1 {n m p b no : Nat} {O : Nat → Nat → Int} {h : AH} {g : GM} (hN : Nm n m p b) (hc : Cl n m p b O no h g) (hg : g 0 7 = m) {K j : Nat} (hK : K < m) (hj : (j : Int) < mct g K) (h6 : mct g K ≤ 60) (h1 : 1 ≤ g (13 + 5 * K) j) (h2 : g (13 + 5 * K) j ≤ 9) (h3 : 0 ≤ g (15 + 5 * K) j) (h4 : g (15 + 5 * K) j ≤ 10000) : f_QuillBoats_bundle h 200 (iI (K : Int)) (iI (j : Int)) (iI 1) = some (h, iI (g (13 + 5 * K) j)) := by
  obtain ⟨hQ, hS, -, -, hP, -, -⟩ := hc
  unfold Nm at hN
  have f1 := hasBundle_E (by omega) hS hP hg hK hj h6
  have f2 := isWithin_E (h := h) (x := 1) (a := 0) (c := 4) (by decide) (by decide) (by decide) (by decide)
  have f3 := (ofBundle_E (by omega) hS hP hg hK hj h6 h1 h2 h3 h4).2.1
  simp (disch := first | decide | omega) only [f_QuillBoats_bundle, Nat.add_zero, true_and, and_true, gd_T, bn_S, bv_S, lq_E, wI_s, sI_s, hI_s, hT_s, hL_s, hR_s, hJ_s, hN_s, hU_s, nI_L, z_i, o_i, iI_add, iI_sub, iI_mul, iI_neg, iI_lt, iI_le, iI_eq, iI_ix, Int.toNat_natCast, if_neg, if_pos, gd_P, inb, ix, hQ.t, hQ.r4, hS.t, f1, f2, f3]
theorem bundle_E2 {n m p b no : Nat} {O : Nat → Nat → Int} {h : AH} {g : GM} (hN : Nm n m p b) (hc : Cl n m p b O no h g) (hg : g 0 7 = m) {K j : Nat} (hK : K < m) (hj : (j : Int) < mct g K) (h6 : mct g K ≤ 60) (h1 : 1 ≤ g (13 + 5 * K) j) (h2 : g (13 + 5 * K) j ≤ 9) (h3 : 0 ≤ g (15 + 5 * K) j) (h4 : g (15 + 5 * K) j ≤ 10000) : f_QuillBoats_bundle h 200 (iI (K : Int)) (iI (j : Int)) (iI 2) = some (h, iI (g (14 + 5 * K) j)) := by
  obtain ⟨hQ, hS, -, -, hP, -, -⟩ := hc
  unfold Nm at hN
  have f1 := hasBundle_E (by omega) hS hP hg hK hj h6
  have f2 := isWithin_E (h := h) (x := 2) (a := 0) (c := 4) (by decide) (by decide) (by decide) (by decide)
  have f3 := (ofBundle_E (by omega) hS hP hg hK hj h6 h1 h2 h3 h4).2.2.1
  simp (disch := first | decide | omega) only [f_QuillBoats_bundle, Nat.add_zero, true_and, and_true, gd_T, bn_S, bv_S, lq_E, wI_s, sI_s, hI_s, hT_s, hL_s, hR_s, hJ_s, hN_s, hU_s, nI_L, z_i, o_i, iI_add, iI_sub, iI_mul, iI_neg, iI_lt, iI_le, iI_eq, iI_ix, Int.toNat_natCast, if_neg, if_pos, gd_P, inb, ix, hQ.t, hQ.r4, hS.t, f1, f2, f3]
theorem bundle_E3 {n m p b no : Nat} {O : Nat → Nat → Int} {h : AH} {g : GM} (hN : Nm n m p b) (hc : Cl n m p b O no h g) (hg : g 0 7 = m) {K j : Nat} (hK : K < m) (hj : (j : Int) < mct g K) (h6 : mct g K ≤ 60) (h1 : 1 ≤ g (13 + 5 * K) j) (h2 : g (13 + 5 * K) j ≤ 9) (h3 : 0 ≤ g (15 + 5 * K) j) (h4 : g (15 + 5 * K) j ≤ 10000) : f_QuillBoats_bundle h 200 (iI (K : Int)) (iI (j : Int)) (iI 3) = some (h, iI (g (15 + 5 * K) j)) := by
  obtain ⟨hQ, hS, -, -, hP, -, -⟩ := hc
  unfold Nm at hN
  have f1 := hasBundle_E (by omega) hS hP hg hK hj h6
  have f2 := isWithin_E (h := h) (x := 3) (a := 0) (c := 4) (by decide) (by decide) (by decide) (by decide)
  have f3 := (ofBundle_E (by omega) hS hP hg hK hj h6 h1 h2 h3 h4).2.2.2.1
  simp (disch := first | decide | omega) only [f_QuillBoats_bundle, Nat.add_zero, true_and, and_true, gd_T, bn_S, bv_S, lq_E, wI_s, sI_s, hI_s, hT_s, hL_s, hR_s, hJ_s, hN_s, hU_s, nI_L, z_i, o_i, iI_add, iI_sub, iI_mul, iI_neg, iI_lt, iI_le, iI_eq, iI_ix, Int.toNat_natCast, if_neg, if_pos, gd_P, inb, ix, hQ.t, hQ.r4, hS.t, f1, f2, f3]
theorem bundle_E4 {n m p b no : Nat} {O : Nat → Nat → Int} {h : AH} {g : GM} (hN : Nm n m p b) (hc : Cl n m p b O no h g) (hg : g 0 7 = m) {K j : Nat} (hK : K < m) (hj : (j : Int) < mct g K) (h6 : mct g K ≤ 60) (h1 : 1 ≤ g (13 + 5 * K) j) (h2 : g (13 + 5 * K) j ≤ 9) (h3 : 0 ≤ g (15 + 5 * K) j) (h4 : g (15 + 5 * K) j ≤ 10000) : f_QuillBoats_bundle h 200 (iI (K : Int)) (iI (j : Int)) (iI 4) = some (h, iI (mGradeOf (g (13 + 5 * K) j) (g (15 + 5 * K) j))) := by
  obtain ⟨hQ, hS, -, -, hP, -, -⟩ := hc
  unfold Nm at hN
  have f1 := hasBundle_E (by omega) hS hP hg hK hj h6
  have f2 := isWithin_E (h := h) (x := 4) (a := 0) (c := 4) (by decide) (by decide) (by decide) (by decide)
  have f3 := (ofBundle_E (by omega) hS hP hg hK hj h6 h1 h2 h3 h4).2.2.2.2
  simp (disch := first | decide | omega) only [f_QuillBoats_bundle, Nat.add_zero, true_and, and_true, gd_T, bn_S, bv_S, lq_E, wI_s, sI_s, hI_s, hT_s, hL_s, hR_s, hJ_s, hN_s, hU_s, nI_L, z_i, o_i, iI_add, iI_sub, iI_mul, iI_neg, iI_lt, iI_le, iI_eq, iI_ix, Int.toNat_natCast, if_neg, if_pos, gd_P, inb, ix, hQ.t, hQ.r4, hS.t, f1, f2, f3]

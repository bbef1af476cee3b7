/-! 51 L3: what the class answers, I: counts (written by l3/gen51.py) -/
def SkQ (h : AH) : Prop := hT h 200 = 1 ∧ hR h 200 0 = 201 ∧ hR h 200 3 = 202 ∧ hR h 200 4 = 206 ∧ hR h 200 9 = 265 ∧ hT h 201 = 102 ∧ hL h 201 = 2000
def Cl (n m p b : Nat) (O : Nat → Nat → Int) (no : Nat) (h : AH) (g : GM) : Prop := SkQ h ∧ SkR h 206 ∧ SkR h 265 ∧ SkO h ∧ RP n m p b 206 (hI h) g ∧ Pg n m p b O no (hI h) ∧ hI h 200 1 = iI 0
theorem SkQ.t {h : AH} (k : SkQ h) : hT h 200 = 1 := k.1
theorem SkQ.r0 {h : AH} (k : SkQ h) : hR h 200 0 = 201 := k.2.1
theorem SkQ.r3 {h : AH} (k : SkQ h) : hR h 200 3 = 202 := k.2.2.1
theorem SkQ.r4 {h : AH} (k : SkQ h) : hR h 200 4 = 206 := k.2.2.2.1
theorem SkQ.r9 {h : AH} (k : SkQ h) : hR h 200 9 = 265 := k.2.2.2.2.1
theorem isWithin_E {h : AH} {x a c : Int} (h1 : a ≤ x) (h2 : x ≤ c) (h3 : -1000000 ≤ a) (h4 : c ≤ 1000000) : f_QuillBoats_isWithin h (iI x) (iI a) (iI c) = some (h, iI 1) := by
  simp (disch := first | decide | omega) only [f_QuillBoats_isWithin, nI_L, z_i, o_i, iI_add, iI_sub, iI_mul, iI_neg, iI_lt, iI_le, iI_eq, iI_ix, Int.toNat_natCast, if_neg, if_pos, gd_P, inb, ix]
theorem loopS (L : Nat → Int32 → Int32 → Option (AH × Int32)) (h : AH) (f : Nat → Int) (N : Nat) (hstep : ∀ (fu i : Nat) (s : Int), i < N → L (fu + 1) (iI s) (iI (i : Int)) = L fu (iI (s + f i)) (iI ((i + 1 : Nat) : Int))) (hend : ∀ (fu : Nat) (s : Int), L (fu + 1) (iI s) (iI (N : Int)) = some (h, iI s)) :
    ∀ (k i fu : Nat) (s : Int), i + k = N → k < fu → L fu (iI s) (iI (i : Int)) = some (h, iI (s + sumF (fun x => f (i + x)) k)) := by
  intro k
  induction k with
  | zero =>
    intro i fu s hi hf
    obtain ⟨fu, rfl⟩ : ∃ x, fu = x + 1 := ⟨fu - 1, by omega⟩
    obtain rfl : i = N := by omega
    rw [hend, show sumF (fun x => f (i + x)) 0 = 0 from rfl, Int.add_zero]
  | succ k ih =>
    intro i fu s hi hf
    obtain ⟨fu, rfl⟩ : ∃ x, fu = x + 1 := ⟨fu - 1, by omega⟩
    rw [hstep fu i s (by omega), ih (i + 1) fu _ (by omega) (by omega), sumF_head, Nat.add_zero, Int.add_assoc]
    rw [sumF_congr (f := fun x => f (i + (x + 1))) (f' := fun x => f (i + 1 + x)) k (fun x _ => by rw [show i + 1 + x = i + (x + 1) by omega])]
    rfl
theorem sumF_z (f : Nat → Int) (k : Nat) : (0 : Int) + sumF (fun x => f (0 + x)) k = sumF f k := by
  rw [Int.zero_add]
  exact sumF_congr k (fun x _ => by rw [Nat.zero_add])
theorem stored_E {n m p b r : Nat} {h : AH} {g : GM} (hS : SkR h r) (hP : RP n m p b r (hI h) g) : f_River_storedQuills h r = some (h, iI (sumF (fun k => g (43 + k) 0) 4)) := by
  have key := loopS (fun fu x y => f_River_storedQuills_l4 fu h r x y) h (fun k => g (43 + k) 0) 4 (by
    intro fu i s hi
    show f_River_storedQuills_b4 (f_River_storedQuills_l4 fu) h r (iI s) (iI (i : Int)) = _
    simp (disch := first | decide | omega) only [f_River_storedQuills_b4, Nat.add_zero, true_and, and_true, gd_T, bn_S, bv_S, lq_E, wI_s, sI_s, hI_s, hT_s, hL_s, hR_s, hJ_s, hN_s, hU_s, nI_L, z_i, o_i, iI_add, iI_sub, iI_mul, iI_neg, iI_lt, iI_le, iI_eq, iI_ix, Int.toNat_natCast, if_neg, if_pos, gd_P, inb, ix, hS.t, hS.f0, hS.f1, hS.f2, hS.f3, hS.f4, hS.f5, hS.at1, hS.al1, hS.at2, hS.al2, hS.at3, hS.al3, hS.at4, hS.al4, hS.at5, hS.al5, hS.at6, hS.al6, hS.gR, hS.gT, hS.kR, hS.kT, hS.k3, hS.k4, hS.k5, hS.k6, hS.kt1, hS.kt2, hS.kt3, hS.kt4, hS.kl1, hS.kl2, hS.kl3, hS.kl4, hS.pR, hS.pT, hS.bR, hS.bT, hS.qR, hS.qT, hP.gr]
    rfl) (by
    intro fu s
    show f_River_storedQuills_b4 (f_River_storedQuills_l4 fu) h r (iI s) (iI 4) = _
    simp (disch := first | decide | omega) only [f_River_storedQuills_b4, nI_L, z_i, o_i, iI_add, iI_sub, iI_mul, iI_neg, iI_lt, iI_le, iI_eq, iI_ix, Int.toNat_natCast, if_neg, if_pos, gd_P, inb, ix]) 4 0 FU 0 (by omega) (by unfold FU; omega)
  rw [sumF_z (fun k => g (43 + k) 0)] at key
  exact key
theorem lying_E {n m p b r : Nat} {h : AH} {g : GM} (hm : m ≤ 4) (hS : SkR h r) (hP : RP n m p b r (hI h) g) (hg : g 0 7 = m) : f_River_dryingQuills h r = some (h, iI (sumF (fun k => g (11 + 5 * k) 1) m)) := by
  have s7 := hP.sc 7 (by decide) (by decide)
  rw [hg] at s7
  have key := loopS (fun fu x y => f_River_dryingQuills_l4 fu h r x y) h (fun k => g (11 + 5 * k) 1) m (by
    intro fu i s hi
    show f_River_dryingQuills_b4 (f_River_dryingQuills_l4 fu) h r (iI s) (iI (i : Int)) = _
    simp (disch := first | decide | omega) only [f_River_dryingQuills_b4, f_Rack_lyingQuills, Nat.add_zero, true_and, and_true, gd_T, bn_S, bv_S, lq_E, wI_s, sI_s, hI_s, hT_s, hL_s, hR_s, hJ_s, hN_s, hU_s, nI_L, z_i, o_i, iI_add, iI_sub, iI_mul, iI_neg, iI_lt, iI_le, iI_eq, iI_ix, Int.toNat_natCast, if_neg, if_pos, gd_P, inb, ix, hS.t, hS.f0, hS.f1, hS.f2, hS.f3, hS.f4, hS.f5, hS.at1, hS.al1, hS.at2, hS.al2, hS.at3, hS.al3, hS.at4, hS.al4, hS.at5, hS.al5, hS.at6, hS.al6, hS.gR, hS.gT, hS.kR, hS.kT, hS.k3, hS.k4, hS.k5, hS.k6, hS.kt1, hS.kt2, hS.kt3, hS.kt4, hS.kl1, hS.kl2, hS.kl3, hS.kl4, hS.pR, hS.pT, hS.bR, hS.bT, hS.qR, hS.qT, s7, hP.ra]
    rfl) (by
    intro fu s
    show f_River_dryingQuills_b4 (f_River_dryingQuills_l4 fu) h r (iI s) (iI (m : Int)) = _
    simp (disch := first | decide | omega) only [f_River_dryingQuills_b4, Nat.add_zero, true_and, and_true, gd_T, bn_S, bv_S, lq_E, wI_s, sI_s, hI_s, hT_s, hL_s, hR_s, hJ_s, hN_s, hU_s, nI_L, z_i, o_i, iI_add, iI_sub, iI_mul, iI_neg, iI_lt, iI_le, iI_eq, iI_ix, Int.toNat_natCast, if_neg, if_pos, gd_P, inb, ix, hS.t, s7]) m 0 FU 0 (by omega) (by unfold FU; omega)
  rw [sumF_z (fun k => g (11 + 5 * k) 1)] at key
  exact key
theorem shipped_E {n m p b r : Nat} {h : AH} {g : GM} (hb : b ≤ 4) (hS : SkR h r) (hP : RP n m p b r (hI h) g) (hg : g 0 9 = b) : f_River_shippedQuills h r = some (h, iI (sumF (fun i => g (39 + i) 4) b)) := by
  have s9 := hP.sc 9 (by decide) (by decide)
  rw [hg] at s9
  have key := loopS (fun fu x y => f_River_shippedQuills_l4 fu h r x y) h (fun i => g (39 + i) 4) b (by
    intro fu i s hi
    show f_River_shippedQuills_b4 (f_River_shippedQuills_l4 fu) h r (iI s) (iI (i : Int)) = _
    simp (disch := first | decide | omega) only [f_River_shippedQuills_b4, Nat.add_zero, true_and, and_true, gd_T, bn_S, bv_S, lq_E, wI_s, sI_s, hI_s, hT_s, hL_s, hR_s, hJ_s, hN_s, hU_s, nI_L, z_i, o_i, iI_add, iI_sub, iI_mul, iI_neg, iI_lt, iI_le, iI_eq, iI_ix, Int.toNat_natCast, if_neg, if_pos, gd_P, inb, ix, hS.t, hS.f0, hS.f1, hS.f2, hS.f3, hS.f4, hS.f5, hS.at1, hS.al1, hS.at2, hS.al2, hS.at3, hS.al3, hS.at4, hS.al4, hS.at5, hS.al5, hS.at6, hS.al6, hS.gR, hS.gT, hS.kR, hS.kT, hS.k3, hS.k4, hS.k5, hS.k6, hS.kt1, hS.kt2, hS.kt3, hS.kt4, hS.kl1, hS.kl2, hS.kl3, hS.kl4, hS.pR, hS.pT, hS.bR, hS.bT, hS.qR, hS.qT, s9, hP.bo]
    rfl) (by
    intro fu s
    show f_River_shippedQuills_b4 (f_River_shippedQuills_l4 fu) h r (iI s) (iI (b : Int)) = _
    simp (disch := first | decide | omega) only [f_River_shippedQuills_b4, Nat.add_zero, true_and, and_true, gd_T, bn_S, bv_S, lq_E, wI_s, sI_s, hI_s, hT_s, hL_s, hR_s, hJ_s, hN_s, hU_s, nI_L, z_i, o_i, iI_add, iI_sub, iI_mul, iI_neg, iI_lt, iI_le, iI_eq, iI_ix, Int.toNat_natCast, if_neg, if_pos, gd_P, inb, ix, hS.t, s9]) b 0 FU 0 (by omega) (by unfold FU; omega)
  rw [sumF_z (fun i => g (39 + i) 4)] at key
  exact key
def mCnt (m b : Nat) (g : GM) : Nat → Int
  | 0 => g 0 11
  | 1 => g 0 12
  | 2 => g 0 6
  | 3 => g 0 7
  | 4 => g 0 8
  | 5 => g 0 9
  | 6 => g 0 10
  | 7 => sumF (fun k => g (43 + k) 0) 4
  | 8 => sumF (fun k => g (11 + 5 * k) 1) m
  | 9 => sumF (fun i => g (39 + i) 4) b
  | 10 => g 0 15
  | 11 => g 0 16
  | 12 => g 0 17
  | 13 => g 0 13
  | 14 => g 0 14
  | _ => 0
theorem total_E {n m p b r : Nat} {h : AH} {g : GM} (hm : m ≤ 4) (hb : b ≤ 4) (hS : SkR h r) (hP : RP n m p b r (hI h) g) (g7 : g 0 7 = m) (g9 : g 0 9 = b) : ∀ w : Nat, w < 15 → f_River_total h r (iI (w : Int)) = some (h, iI (mCnt m b g w)) := by
  have f1 := stored_E hS hP
  have f2 := lying_E hm hS hP g7
  have f3 := shipped_E hb hS hP g9
  intro w hw
  match w, hw with
  | 0, _ =>
    show f_River_total h r (iI 0) = some (h, iI (g 0 11))
    simp (disch := first | decide | omega) only [f_River_total, Nat.add_zero, true_and, and_true, gd_T, bn_S, bv_S, lq_E, wI_s, sI_s, hI_s, hT_s, hL_s, hR_s, hJ_s, hN_s, hU_s, nI_L, z_i, o_i, iI_add, iI_sub, iI_mul, iI_neg, iI_lt, iI_le, iI_eq, iI_ix, Int.toNat_natCast, if_neg, if_pos, gd_P, inb, ix, hS.t, hP.sc]
  | 1, _ =>
    show f_River_total h r (iI 1) = some (h, iI (g 0 12))
    simp (disch := first | decide | omega) only [f_River_total, Nat.add_zero, true_and, and_true, gd_T, bn_S, bv_S, lq_E, wI_s, sI_s, hI_s, hT_s, hL_s, hR_s, hJ_s, hN_s, hU_s, nI_L, z_i, o_i, iI_add, iI_sub, iI_mul, iI_neg, iI_lt, iI_le, iI_eq, iI_ix, Int.toNat_natCast, if_neg, if_pos, gd_P, inb, ix, hS.t, hP.sc]
  | 2, _ =>
    show f_River_total h r (iI 2) = some (h, iI (g 0 6))
    simp (disch := first | decide | omega) only [f_River_total, Nat.add_zero, true_and, and_true, gd_T, bn_S, bv_S, lq_E, wI_s, sI_s, hI_s, hT_s, hL_s, hR_s, hJ_s, hN_s, hU_s, nI_L, z_i, o_i, iI_add, iI_sub, iI_mul, iI_neg, iI_lt, iI_le, iI_eq, iI_ix, Int.toNat_natCast, if_neg, if_pos, gd_P, inb, ix, hS.t, hP.sc]
  | 3, _ =>
    show f_River_total h r (iI 3) = some (h, iI (g 0 7))
    simp (disch := first | decide | omega) only [f_River_total, Nat.add_zero, true_and, and_true, gd_T, bn_S, bv_S, lq_E, wI_s, sI_s, hI_s, hT_s, hL_s, hR_s, hJ_s, hN_s, hU_s, nI_L, z_i, o_i, iI_add, iI_sub, iI_mul, iI_neg, iI_lt, iI_le, iI_eq, iI_ix, Int.toNat_natCast, if_neg, if_pos, gd_P, inb, ix, hS.t, hP.sc]
  | 4, _ =>
    show f_River_total h r (iI 4) = some (h, iI (g 0 8))
    simp (disch := first | decide | omega) only [f_River_total, Nat.add_zero, true_and, and_true, gd_T, bn_S, bv_S, lq_E, wI_s, sI_s, hI_s, hT_s, hL_s, hR_s, hJ_s, hN_s, hU_s, nI_L, z_i, o_i, iI_add, iI_sub, iI_mul, iI_neg, iI_lt, iI_le, iI_eq, iI_ix, Int.toNat_natCast, if_neg, if_pos, gd_P, inb, ix, hS.t, hP.sc]
  | 5, _ =>
    show f_River_total h r (iI 5) = some (h, iI (g 0 9))
    simp (disch := first | decide | omega) only [f_River_total, Nat.add_zero, true_and, and_true, gd_T, bn_S, bv_S, lq_E, wI_s, sI_s, hI_s, hT_s, hL_s, hR_s, hJ_s, hN_s, hU_s, nI_L, z_i, o_i, iI_add, iI_sub, iI_mul, iI_neg, iI_lt, iI_le, iI_eq, iI_ix, Int.toNat_natCast, if_neg, if_pos, gd_P, inb, ix, hS.t, hP.sc]
  | 6, _ =>
    show f_River_total h r (iI 6) = some (h, iI (g 0 10))
    simp (disch := first | decide | omega) only [f_River_total, Nat.add_zero, true_and, and_true, gd_T, bn_S, bv_S, lq_E, wI_s, sI_s, hI_s, hT_s, hL_s, hR_s, hJ_s, hN_s, hU_s, nI_L, z_i, o_i, iI_add, iI_sub, iI_mul, iI_neg, iI_lt, iI_le, iI_eq, iI_ix, Int.toNat_natCast, if_neg, if_pos, gd_P, inb, ix, hS.t, hP.sc]
  | 7, _ =>
    show f_River_total h r (iI 7) = some (h, iI (sumF (fun k => g (43 + k) 0) 4))
    simp (disch := first | decide | omega) only [f_River_total, Nat.add_zero, true_and, and_true, gd_T, bn_S, bv_S, lq_E, wI_s, sI_s, hI_s, hT_s, hL_s, hR_s, hJ_s, hN_s, hU_s, nI_L, z_i, o_i, iI_add, iI_sub, iI_mul, iI_neg, iI_lt, iI_le, iI_eq, iI_ix, Int.toNat_natCast, if_neg, if_pos, gd_P, inb, ix, hS.t, f1]
  | 8, _ =>
    show f_River_total h r (iI 8) = some (h, iI (sumF (fun k => g (11 + 5 * k) 1) m))
    simp (disch := first | decide | omega) only [f_River_total, Nat.add_zero, true_and, and_true, gd_T, bn_S, bv_S, lq_E, wI_s, sI_s, hI_s, hT_s, hL_s, hR_s, hJ_s, hN_s, hU_s, nI_L, z_i, o_i, iI_add, iI_sub, iI_mul, iI_neg, iI_lt, iI_le, iI_eq, iI_ix, Int.toNat_natCast, if_neg, if_pos, gd_P, inb, ix, hS.t, f2]
  | 9, _ =>
    show f_River_total h r (iI 9) = some (h, iI (sumF (fun i => g (39 + i) 4) b))
    simp (disch := first | decide | omega) only [f_River_total, Nat.add_zero, true_and, and_true, gd_T, bn_S, bv_S, lq_E, wI_s, sI_s, hI_s, hT_s, hL_s, hR_s, hJ_s, hN_s, hU_s, nI_L, z_i, o_i, iI_add, iI_sub, iI_mul, iI_neg, iI_lt, iI_le, iI_eq, iI_ix, Int.toNat_natCast, if_neg, if_pos, gd_P, inb, ix, hS.t, f3]
  | 10, _ =>
    show f_River_total h r (iI 10) = some (h, iI (g 0 15))
    simp (disch := first | decide | omega) only [f_River_total, Nat.add_zero, true_and, and_true, gd_T, bn_S, bv_S, lq_E, wI_s, sI_s, hI_s, hT_s, hL_s, hR_s, hJ_s, hN_s, hU_s, nI_L, z_i, o_i, iI_add, iI_sub, iI_mul, iI_neg, iI_lt, iI_le, iI_eq, iI_ix, Int.toNat_natCast, if_neg, if_pos, gd_P, inb, ix, hS.t, hP.sc]
  | 11, _ =>
    show f_River_total h r (iI 11) = some (h, iI (g 0 16))
    simp (disch := first | decide | omega) only [f_River_total, Nat.add_zero, true_and, and_true, gd_T, bn_S, bv_S, lq_E, wI_s, sI_s, hI_s, hT_s, hL_s, hR_s, hJ_s, hN_s, hU_s, nI_L, z_i, o_i, iI_add, iI_sub, iI_mul, iI_neg, iI_lt, iI_le, iI_eq, iI_ix, Int.toNat_natCast, if_neg, if_pos, gd_P, inb, ix, hS.t, hP.sc]
  | 12, _ =>
    show f_River_total h r (iI 12) = some (h, iI (g 0 17))
    simp (disch := first | decide | omega) only [f_River_total, Nat.add_zero, true_and, and_true, gd_T, bn_S, bv_S, lq_E, wI_s, sI_s, hI_s, hT_s, hL_s, hR_s, hJ_s, hN_s, hU_s, nI_L, z_i, o_i, iI_add, iI_sub, iI_mul, iI_neg, iI_lt, iI_le, iI_eq, iI_ix, Int.toNat_natCast, if_neg, if_pos, gd_P, inb, ix, hS.t, hP.sc]
  | 13, _ =>
    show f_River_total h r (iI 13) = some (h, iI (g 0 13))
    simp (disch := first | decide | omega) only [f_River_total, Nat.add_zero, true_and, and_true, gd_T, bn_S, bv_S, lq_E, wI_s, sI_s, hI_s, hT_s, hL_s, hR_s, hJ_s, hN_s, hU_s, nI_L, z_i, o_i, iI_add, iI_sub, iI_mul, iI_neg, iI_lt, iI_le, iI_eq, iI_ix, Int.toNat_natCast, if_neg, if_pos, gd_P, inb, ix, hS.t, hP.sc]
  | 14, _ =>
    show f_River_total h r (iI 14) = some (h, iI (g 0 14))
    simp (disch := first | decide | omega) only [f_River_total, Nat.add_zero, true_and, and_true, gd_T, bn_S, bv_S, lq_E, wI_s, sI_s, hI_s, hT_s, hL_s, hR_s, hJ_s, hN_s, hU_s, nI_L, z_i, o_i, iI_add, iI_sub, iI_mul, iI_neg, iI_lt, iI_le, iI_eq, iI_ix, Int.toNat_natCast, if_neg, if_pos, gd_P, inb, ix, hS.t, hP.sc]
  | k + 15, h => omega
theorem count_E {n m p b no : Nat} {O : Nat → Nat → Int} {h : AH} {g : GM} (hN : Nm n m p b) (hc : Cl n m p b O no h g) (g7 : g 0 7 = m) (g9 : g 0 9 = b) : ∀ w : Nat, w < 16 → f_QuillBoats_count h 200 (iI (w : Int)) = some (h, iI (mCnt m b g w)) := by
  intro w hw
  obtain ⟨hQ, hS, -, -, hP, -, h1⟩ := hc
  unfold Nm at hN
  have f1 := isWithin_E (h := h) (x := (w : Int)) (a := 0) (c := 15) (by omega) (by omega) (by omega) (by omega)
  by_cases q : w = 15
  · subst q
    have f1' : f_QuillBoats_isWithin h (iI 15) (iI 0) (iI 15) = some (h, iI 1) := f1
    show f_QuillBoats_count h 200 (iI 15) = some (h, iI 0)
    simp (disch := first | decide | omega) only [f_QuillBoats_count, f_QuillBoats_counted, Nat.add_zero, true_and, and_true, gd_T, bn_S, bv_S, lq_E, wI_s, sI_s, hI_s, hT_s, hL_s, hR_s, hJ_s, hN_s, hU_s, nI_L, z_i, o_i, iI_add, iI_sub, iI_mul, iI_neg, iI_lt, iI_le, iI_eq, iI_ix, Int.toNat_natCast, if_neg, if_pos, gd_P, inb, ix, hQ.t, f1', h1]
  · have f2 := total_E (by omega) (by omega) hS hP g7 g9 w (by omega)
    simp (disch := first | decide | omega) only [f_QuillBoats_count, f_QuillBoats_counted, Nat.add_zero, true_and, and_true, gd_T, bn_S, bv_S, lq_E, wI_s, sI_s, hI_s, hT_s, hL_s, hR_s, hJ_s, hN_s, hU_s, nI_L, z_i, o_i, iI_add, iI_sub, iI_mul, iI_neg, iI_lt, iI_le, iI_eq, iI_ix, Int.toNat_natCast, if_neg, if_pos, gd_P, inb, ix, hQ.t, hQ.r4, hS.t, f1, f2]

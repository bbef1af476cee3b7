/-! 58 L3: the mean edge -/
def okMean (e p : Nat) : Bool := decide (FP.ddiv (FP.i2d (nI e)) (FP.i2d (nI p)) &&& 0x7fffffffffffffff ≤ 0x7ff0000000000000) && decide (Op.cmpValue (FP.dcmp (FP.ddiv (FP.i2d (nI e)) (FP.i2d (nI p))) (FP.ddiv (FP.i2d (nI e)) (FP.i2d (nI p)))) .l = 0)
set_option maxRecDepth 100000 in
theorem okMean_all : ((List.range 81).all fun e => (List.range 4).all fun p => okMean e (p + 1)) = true := by decide +kernel
theorem okMean_of {e p : Nat} (he : e ≤ 80) (hp : 1 ≤ p) (hp4 : p ≤ 4) : FP.ddiv (FP.i2d (nI e)) (FP.i2d (nI p)) &&& 0x7fffffffffffffff ≤ 0x7ff0000000000000 ∧ Op.cmpValue (FP.dcmp (FP.ddiv (FP.i2d (nI e)) (FP.i2d (nI p))) (FP.ddiv (FP.i2d (nI e)) (FP.i2d (nI p)))) .l = 0 := by
  have h1 := List.all_eq_true.mp okMean_all e (List.mem_range.mpr (by omega))
  have h2 := List.all_eq_true.mp h1 (p - 1) (List.mem_range.mpr (by omega))
  rw [show p - 1 + 1 = p by omega] at h2
  unfold okMean at h2
  rw [Bool.and_eq_true] at h2
  exact ⟨of_decide_eq_true h2.1, of_decide_eq_true h2.2⟩
def mMean (p : Nat) (g : GM) : UInt64 := FP.ddiv (FP.i2d (iI (sumF (fun i => g (31 + i) 3) p))) (FP.i2d (iI (p : Int)))
theorem sumF_le {f : Nat → Int} {c : Int} : ∀ n, (∀ k, k < n → f k ≤ c) → sumF f n ≤ c * n := by
  intro n
  induction n with
  | zero => intro _; show (0 : Int) ≤ c * 0; omega
  | succ n ih =>
    intro h
    have h1 := ih (fun k hk => h k (by omega))
    have h2 := h n (by omega)
    rw [show sumF f (n + 1) = sumF f n + f n from rfl, show ((n + 1 : Nat) : Int) = (n : Int) + 1 from rfl, Int.mul_add]
    omega
theorem mMean_ok {n m p b : Nat} (hN : Nm n m p b) {g : GM} (hP : IvP n m p g) : mMean p g &&& 0x7fffffffffffffff ≤ 0x7ff0000000000000 ∧ Op.cmpValue (FP.dcmp (mMean p g) (mMean p g)) .l = 0 := by
  unfold Nm at hN
  obtain ⟨s1, -⟩ := sumF_nn (f := fun i => g (31 + i) 3) p (fun k hk => (hP k hk).2.2.2.2.2.2.1)
  have s2 := sumF_le (f := fun i => g (31 + i) 3) (c := 20) p (fun k hk => (hP k hk).2.2.2.2.2.2.2.1)
  obtain ⟨e, he⟩ : ∃ e : Nat, sumF (fun i => g (31 + i) 3) p = (e : Int) := ⟨(sumF (fun i => g (31 + i) 3) p).toNat, by omega⟩
  have k := okMean_of (e := e) (p := p) (by omega) (by omega) (by omega)
  unfold mMean
  rw [he, ← nI_i, ← nI_i]
  exact k
theorem mean_E {n m p b no : Nat} {O : Nat → Nat → Int} {T C Pb : Int} {h : AH} {g : GM} (hN : Nm n m p b) (hc : Cl n m p b O no h g) (hv : Iv n m p b T C Pb g) : f_QuillBoats_mean h 200 = some (h, mMean p g) := by
  have mo := (mMean_ok hN hv.2.2.2.2.1).1
  obtain ⟨vS, vH, vG, vR, vP, vB, vQ, vE⟩ := hv
  unfold IvSc at vS
  have hN' := hN
  unfold Nm at hN'
  obtain ⟨hQ, hS, hS2, hO, hP, hA, h1⟩ := hc
  have s8 := hP.sc 8 (by decide) (by decide)
  rw [vS.2.2.1] at s8
  have key : ∀ (e j fu : Nat) (s : Int), e + j = p → e < fu → f_QuillBoats_mean_l4 fu h 200 (iI s) (iI (j : Int)) = f_QuillBoats_mean_b42 h 200 (iI (s + sumF (fun x => g (31 + (j + x)) 3) e)) := by
    intro e
    induction e with
    | zero =>
      intro j fu s he hf
      obtain ⟨fu, rfl⟩ : ∃ x, fu = x + 1 := ⟨fu - 1, by omega⟩
      obtain rfl : j = p := by omega
      show f_QuillBoats_mean_b4 (f_QuillBoats_mean_l4 fu) h 200 (iI s) (iI (j : Int)) = f_QuillBoats_mean_b42 h 200 (iI (s + 0))
      simp (disch := first | decide | omega) only [f_QuillBoats_mean_b4, Nat.add_zero, true_and, and_true, gd_T, bn_S, bv_S, lq_E, wI_s, sI_s, hI_s, hT_s, hL_s, hR_s, hJ_s, hN_s, hU_s, iI_lt, iI_le, iI_eq, iI_ix, Int.toNat_natCast, if_neg, if_pos, gd_P, inb, ix, hQ.t, hQ.r4, hS.t, s8, Int.add_zero]
    | succ e ih =>
      intro j fu s he hf
      obtain ⟨fu, rfl⟩ : ∃ x, fu = x + 1 := ⟨fu - 1, by omega⟩
      have h2 := ih (j + 1) fu (s + g (31 + j) 3) (by omega) (by omega)
      rw [sumF_head, Nat.add_zero]
      rw [sumF_congr (f := fun x => g (31 + (j + (x + 1))) 3) (f' := fun x => g (31 + (j + 1 + x)) 3) e (fun x _ => by rw [show j + 1 + x = j + (x + 1) by omega]), Int.add_assoc] at h2
      refine Eq.trans ?_ h2
      show f_QuillBoats_mean_b4 (f_QuillBoats_mean_l4 fu) h 200 (iI s) (iI (j : Int)) = _
      simp (disch := first | decide | omega) only [f_QuillBoats_mean_b4, Nat.add_zero, true_and, and_true, gd_T, bn_S, bv_S, lq_E, wI_s, sI_s, hI_s, hT_s, hL_s, hR_s, hJ_s, hN_s, hU_s, nI_L, z_i, o_i, iI_add, iI_sub, iI_mul, iI_neg, iI_lt, iI_le, iI_eq, iI_ix, Int.toNat_natCast, if_neg, if_pos, gd_P, inb, ix, hQ.t, hQ.r4, hS.t, hS.f2, hS.at3, hS.al3, hS.pR, hS.pT, hP.pe, s8]
      rfl
  have k := key p 0 FU 0 (by omega) (by unfold FU; omega)
  rw [Int.zero_add, sumF_congr (f := fun i => g (31 + i) 3) (f' := fun x => g (31 + (0 + x)) 3) p (fun x _ => by rw [Nat.zero_add])] at k
  refine Eq.trans k ?_
  have mo2 : FP.ddiv (FP.i2d (iI (sumF (fun i => g (31 + i) 3) p))) (FP.i2d (iI (p : Int))) &&& 0x7fffffffffffffff ≤ 0x7ff0000000000000 := mo
  simp (disch := first | decide | omega) only [f_QuillBoats_mean_b42, f_QuillBoats_mean_b67, Nat.add_zero, true_and, and_true, gd_T, bn_S, bv_S, lq_E, wI_s, sI_s, hI_s, hT_s, hL_s, hR_s, hJ_s, hN_s, hU_s, nI_L, z_i, o_i, iI_add, iI_sub, iI_mul, iI_neg, iI_lt, iI_le, iI_eq, iI_ix, Int.toNat_natCast, if_neg, if_pos, gd_P, inb, ix, hQ.t, hQ.r4, hS.t, s8]

  rfl

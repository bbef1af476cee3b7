/-! 91 L3: builders, III: numbers, signs; a builder begun, a string made -/
theorem i8_all : ((List.range 128).all fun v => decide (Int8.toInt32 (Int32.toInt8 (nI v)) = nI v)) = true := by decide +kernel
theorem i8_E {v : Nat} (h : v < 128) : Int8.toInt32 (Int32.toInt8 (iI (v : Int))) = iI (v : Int) := by
  have k := of_decide_eq_true (List.all_eq_true.mp i8_all v (List.mem_range.mpr h))
  rw [nI_i] at k
  exact k
theorem iI_divn {a b : Int} (h1 : 0 ≤ a) (h2 : a < 2147483648) (h3 : 0 < b) (h4 : b < 2147483648) : iI (-a) / iI b = iI (-(a / b)) := by
  apply Int32.toInt.inj
  have h5 : a / b ≤ a := Int.ediv_le_self b h1
  have h6 : 0 ≤ a / b := Int.ediv_nonneg h1 (by omega)
  rw [Int32.toInt_div_of_ne_left, iI_toInt (by omega) (by omega), iI_toInt (by omega) h4, iI_toInt (by omega) (by omega), Int.neg_tdiv, Int.tdiv_eq_ediv_of_nonneg h1]
  intro h7
  have := congrArg Int32.toInt h7
  rw [iI_toInt (by omega) (by omega), Int32.toInt_minValue] at this
  omega
def Dg (h : AH) : Prop := hT h 3 = 102 ∧ hT h 4 = 102 ∧ 100 ≤ hL h 3 ∧ 100 ≤ hL h 4 ∧ ∀ k, k < 100 → hI h 3 k = iI ((48 + k % 10 : Nat) : Int) ∧ hI h 4 k = iI ((48 + k / 10 : Nat) : Int)
theorem Dg.s {h : AH} {F : Nat → Nat → Int32} (k : Dg h) (e : ∀ x, x < 200 → F x = hI h x) : Dg (sI h F) := by
  obtain ⟨k1, k2, k3, k4, k5⟩ := k
  refine ⟨k1, k2, k3, k4, fun q hq => ?_⟩
  rw [hI_s, e 3 (by omega), e 4 (by omega)]
  exact k5 q hq
theorem Dg.ext {h h' : AH} (k : Dg h) (e3 : E4 h h' 3) (e4 : E4 h h' 4) : Dg h' := by
  obtain ⟨k1, k2, k3, k4, k5⟩ := k
  unfold Dg
  rw [e3.1, e4.1, e3.2.1, e4.2.1, e3.2.2.1, e4.2.2.1]
  exact ⟨k1, k2, k3, k4, k5⟩
theorem dig_len {n : Nat} : 1 ≤ (dig n).length ∧ (dig n).length ≤ 3 := by
  unfold dig
  split
  · show 1 ≤ 1 ∧ 1 ≤ 3; omega
  · split
    · show 1 ≤ 2 ∧ 2 ≤ 3; omega
    · show 1 ≤ 3 ∧ 3 ≤ 3; omega
theorem stringSize_E {h : AH} {n : Nat} (hn : n < 1000) : f_Integer_stringSize h (iI (n : Int)) = some (h, iI ((dig n).length : Int)) := by
  have st : ∀ (fu : Nat) (a2 a3 : Int), -100000 ≤ a2 → a2 ≤ 0 → 0 ≤ a3 → a3 < 10 → f_Integer_stringSize_l16 (fu + 1) h (iI (-(n : Int))) (iI 0) (iI a2) (iI a3) = if -(n : Int) ≤ a2 then f_Integer_stringSize_l16 fu h (iI (-(n : Int))) (iI 0) (iI (10 * a2)) (iI (a3 + 1)) else some (h, iI a3) := by
    intro fu a2 a3 h1 h2 h3 h4
    show f_Integer_stringSize_b16 (f_Integer_stringSize_l16 fu) h (iI (-(n : Int))) (iI 0) (iI a2) (iI a3) = _
    unfold f_Integer_stringSize_b16
    rw [if_neg (by rw [nI_L, iI_le (by omega) (by omega) (by omega) (by omega)]; omega)]
    by_cases c : -(n : Int) ≤ a2
    · rw [if_pos (by rw [iI_le (by omega) (by omega) (by omega) (by omega)]; exact c), if_pos c, lq_E, lq_E, nI_L, nI_L, iI_mul, iI_add]
    · rw [if_neg (by rw [iI_le (by omega) (by omega) (by omega) (by omega)]; exact c), if_neg c, iI_add, Int.add_zero]
  have e0 : f_Integer_stringSize h (iI (n : Int)) = f_Integer_stringSize_l16 (99997 + 3) h (iI (-(n : Int))) (iI 0) (iI (-10)) (iI 1) := by
    unfold f_Integer_stringSize
    rw [if_neg (by rw [z_i, iI_lt (by omega) (by omega) (by omega) (by omega)]; omega), lq_E, iI_neg]
    unfold f_Integer_stringSize_b11
    rw [nI_L, nI_L, nI_L, iI_neg]
    rfl
  rw [e0, st (99997 + 2) (-10) 1 (by omega) (by omega) (by omega) (by omega)]
  unfold dig
  by_cases c1 : n < 10
  · rw [if_neg (by omega), if_pos c1]; rfl
  · rw [if_pos (by omega), if_neg c1, st (99997 + 1) (10 * -10) (1 + 1) (by omega) (by omega) (by omega) (by omega)]
    by_cases c2 : n < 100
    · rw [if_neg (by omega), if_pos c2]; rfl
    · rw [if_pos (by omega), if_neg c2, st 99997 (10 * (10 * -10)) (1 + 1 + 1) (by omega) (by omega) (by omega) (by omega), if_neg (by omega)]
      rfl
theorem getChars_E {h : AH} (hd : Dg h) {n : Nat} (hn : n < 1000) {v d : Nat} (h1 : hT h v = 102) (h2 : 200 ≤ v) (h3 : d + (dig n).length ≤ hL h v) (h4 : hL h v ≤ 5000) :
    ∃ F r, f_Integer_getChars h (iI (n : Int)) (iI ((d + (dig n).length : Nat) : Int)) v = some (sI h F, r) ∧ (∀ i, i < (dig n).length → F v (d + i) = iI (nth (dig n) i : Int)) ∧ (∀ i, i < d → F v i = hI h v i) ∧ ∀ x, x ≠ v → F x = hI h x := by
  have e0 : f_Integer_getChars h (iI (n : Int)) (iI ((d + (dig n).length : Nat) : Int)) v = f_Integer_getChars_l22 (99998 + 2) h (iI (-(n : Int))) v (iI ((d + (dig n).length : Nat) : Int)) (iI 0) := by
    unfold f_Integer_getChars
    rw [if_pos (by rw [z_i, iI_le (by omega) (by omega) (by omega) (by omega)]; omega)]
    unfold f_Integer_getChars_b12
    rw [if_neg (by decide), lq_E, iI_neg, nI_L]
    rfl
  obtain ⟨d1, d2, d3, d4, d5⟩ := hd
  rw [e0]
  clear e0
  -- one or two digits
  have two : ∀ (fu : Nat) (F : Nat → Nat → Int32) (q e : Nat), q < 100 → (∀ x, x ≠ v → F x = hI h x) → (dig q).length ≤ e → e ≤ hL h v → ∃ F' r, f_Integer_getChars_l22 (fu + 1) (sI h F) (iI (-(q : Int))) v (iI (e : Int)) (iI 0) = some (sI h F', r) ∧ (∀ i, i < (dig q).length → F' v (e - (dig q).length + i) = iI (nth (dig q) i : Int)) ∧ (∀ i, i < e - (dig q).length ∨ e ≤ i → F' v i = F v i) ∧ ∀ x, x ≠ v → F' x = hI h x := by
    intro fu F q e hq hF he1 he2
    have F3 : F 3 = hI h 3 := hF 3 (by omega)
    have F4 : F 4 = hI h 4 := hF 4 (by omega)
    obtain ⟨x1, x2⟩ := d5 q hq
    have i1 := i8_E (v := 48 + q % 10) (by omega)
    have i2 := i8_E (v := 48 + q / 10) (by omega)
    show ∃ F' r, f_Integer_getChars_b22 (f_Integer_getChars_l22 fu) (sI h F) (iI (-(q : Int))) v (iI (e : Int)) (iI 0) = some (sI h F', r) ∧ _
    have p : (dig q).length = if q < 10 then 1 else 2 := by
      unfold dig
      by_cases c : q < 10
      · rw [if_pos c, if_pos c]; rfl
      · rw [if_neg c, if_neg c, if_pos hq]; rfl
    have e1 : 1 ≤ e := by have := dig_len (n := q); omega
    have ee : iI (e : Int) + iI (-1) = iI ((e - 1 : Nat) : Int) := by rw [iI_add]; congr 1; omega
    have ix1 : (iI ((e - 1 : Nat) : Int)).toNatClampNeg = e - 1 := iI_ixn (by omega)
    have ixq : (iI (q : Int)).toNatClampNeg = q := iI_ixn (by omega)
    have nq : iI (-(-(q : Int))) = iI (q : Int) := by rw [Int.neg_neg]
    have c0 : ¬ iI ((e - 1 : Nat) : Int) < iI 0 := by rw [iI_lt (by omega) (by omega) (by omega) (by omega)]; omega
    have c1 : ¬ iI (q : Int) < iI 0 := by rw [iI_lt (by omega) (by omega) (by omega) (by omega)]; omega
    by_cases c : q < 10
    · rw [if_pos c] at p
      rw [p]
      refine ⟨up2 F v (e - 1) (iI ((48 + q % 10 : Nat) : Int)), iI ((e - 1 : Nat) : Int), ?_, fun i hi => ?_, fun i hi => ?_, fun x hx => ?_⟩
      · unfold f_Integer_getChars_b22
        have n1 : -100 < -(q : Int) := by omega
        have n2 : -9 ≤ -(q : Int) := by omega
        simp (disch := first | decide | omega) only [f_Integer_getChars_b104, ↓lq_E, ↓reduceIte, nI_L, z_i, iI_neg, nq, ee, ix, inb, ix1, ixq, c0, c1, d1, h1, hT_s, hL_s, hI_s, wI_s, sI_s, F3, x1, i1, true_and, and_true, not_false_eq_true, gd_P, gd_T, iI_lt, iI_le, iI_eq, iI_ix, Int.toNat_natCast, toNat_L, n1, n2, KK]
      · obtain rfl : i = 0 := by omega
        rw [show e - 1 + 0 = e - 1 by omega, up2_e]
        unfold dig
        rw [if_pos c, show q % 10 = q by omega]
        rfl
      · rw [up2_n _ _ _ _ _ _ (by omega)]
      · funext s
        rw [up2_n _ _ _ _ _ _ (fun y => hx y.1), hF x hx]
    · rw [if_neg c] at p
      rw [p]
      have e2 : 2 ≤ e := by omega
      have ee2 : iI ((e - 1 : Nat) : Int) + iI (-1) = iI ((e - 2 : Nat) : Int) := by rw [iI_add]; congr 1; omega
      have ix2 : (iI ((e - 2 : Nat) : Int)).toNatClampNeg = e - 2 := iI_ixn (by omega)
      have c2 : ¬ iI ((e - 2 : Nat) : Int) < iI 0 := by rw [iI_lt (by omega) (by omega) (by omega) (by omega)]; omega
      refine ⟨up2 (up2 F v (e - 1) (iI ((48 + q % 10 : Nat) : Int))) v (e - 2) (iI ((48 + q / 10 : Nat) : Int)), iI ((e - 2 : Nat) : Int), ?_, fun i hi => ?_, fun i hi => ?_, fun x hx => ?_⟩
      · unfold f_Integer_getChars_b22
        have n1 : -100 < -(q : Int) := by omega
        have n2 : ¬ -9 ≤ -(q : Int) := by omega
        have v4 : ¬ (4 : Nat) = v := by omega
        simp (disch := first | decide | omega) only [f_Integer_getChars_b104, ↓lq_E, ↓reduceIte, nI_L, z_i, iI_neg, nq, ee, ee2, ix, inb, ix1, ix2, ixq, c0, c1, c2, d1, d2, h1, hT_s, hL_s, hI_s, wI_s, sI_s, F3, F4, x1, x2, i1, i2, up2_n, true_and, and_true, not_false_eq_true, gd_P, gd_T, iI_lt, iI_le, iI_eq, iI_ix, Int.toNat_natCast, toNat_L, n1, n2, KK]
      · unfold dig
        rw [if_neg c, if_pos hq]
        rcases (show i = 0 ∨ i = 1 by omega) with rfl | rfl
        · rw [show e - 2 + 0 = e - 2 by omega, up2_e]; rfl
        · rw [show e - 2 + 1 = e - 1 by omega, up2_n _ _ _ _ _ _ (by omega), up2_e]; rfl
      · rw [up2_n _ _ _ _ _ _ (by omega), up2_n _ _ _ _ _ _ (by omega)]
      · funext s
        rw [up2_n _ _ _ _ _ _ (fun y => hx y.1), up2_n _ _ _ _ _ _ (fun y => hx y.1), hF x hx]
  by_cases c : n < 100
  · obtain ⟨F, r, k1, k2, k3, k4⟩ := two (99998 + 1) (hI h) n (d + (dig n).length) c (fun _ _ => rfl) (by omega) (by omega)
    refine ⟨F, r, k1, fun i hi => ?_, fun i hi => k3 i (by omega), k4⟩
    have := k2 i hi
    rw [show d + (dig n).length - (dig n).length = d by omega] at this
    exact this
  · have p : (dig n).length = 3 := by unfold dig; rw [if_neg (by omega), if_neg c]; rfl
    have pd : dig n = [48 + n / 100, 48 + n / 10 % 10, 48 + n % 10] := by unfold dig; rw [if_neg (by omega), if_neg c]
    have p1 : (dig (n / 100)).length = 1 := by unfold dig; rw [if_pos (by omega)]; rfl
    rw [p] at h3
    obtain ⟨x1, x2⟩ := d5 (n % 100) (by omega)
    have i1 := i8_E (v := 48 + n % 100 % 10) (by omega)
    have i2 := i8_E (v := 48 + n % 100 / 10) (by omega)
    have ee : iI ((d + 3 : Nat) : Int) + iI (-1) = iI ((d + 2 : Nat) : Int) := by rw [iI_add]; congr 1; omega
    have ee2 : iI ((d + 2 : Nat) : Int) + iI (-1) = iI ((d + 1 : Nat) : Int) := by rw [iI_add]; congr 1; omega
    have ix1 : (iI ((d + 2 : Nat) : Int)).toNatClampNeg = d + 2 := iI_ixn (by omega)
    have ix2 : (iI ((d + 1 : Nat) : Int)).toNatClampNeg = d + 1 := iI_ixn (by omega)
    have ixq : (iI ((n % 100 : Nat) : Int)).toNatClampNeg = n % 100 := iI_ixn (by omega)
    have dv : iI (-(n : Int)) / iI 100 = iI (-((n / 100 : Nat) : Int)) := by rw [iI_divn (by omega) (by omega) (by omega) (by omega)]; congr 1
    have rm : iI (-((n / 100 : Nat) : Int)) * iI 100 - iI (-(n : Int)) = iI ((n % 100 : Nat) : Int) := by rw [iI_mul, iI_sub]; congr 1; omega
    have c0 : ¬ iI ((d + 2 : Nat) : Int) < iI 0 := by rw [iI_lt (by omega) (by omega) (by omega) (by omega)]; omega
    have c2 : ¬ iI ((d + 1 : Nat) : Int) < iI 0 := by rw [iI_lt (by omega) (by omega) (by omega) (by omega)]; omega
    have c1 : ¬ iI ((n % 100 : Nat) : Int) < iI 0 := by rw [iI_lt (by omega) (by omega) (by omega) (by omega)]; omega
    obtain ⟨F, r, k1, k2, k3, k4⟩ := two 99998 (up2 (up2 (hI h) v (d + 2) (iI ((48 + n % 100 % 10 : Nat) : Int))) v (d + 1) (iI ((48 + n % 100 / 10 : Nat) : Int))) (n / 100) (d + 1) (by omega) (fun x hx => by
      funext s
      rw [up2_n _ _ _ _ _ _ (fun y => hx y.1), up2_n _ _ _ _ _ _ (fun y => hx y.1)]) (by omega) (by omega)
    rw [p1, show d + 1 - 1 = d by omega] at k2 k3
    refine ⟨F, r, ?_, fun i hi => ?_, fun i hi => ?_, k4⟩
    · refine Eq.trans ?_ k1
      rw [p]
      show f_Integer_getChars_b22 (f_Integer_getChars_l22 (99998 + 1)) h (iI (-(n : Int))) v (iI ((d + 3 : Nat) : Int)) (iI 0) = _
      unfold f_Integer_getChars_b22
      have n1 : ¬ -100 < -(n : Int) := by omega
      have v4 : ¬ (4 : Nat) = v := by omega
      clear two k1 k2 k3 k4
      simp (disch := first | decide | omega) only [↓lq_E, ↓reduceIte, nI_L, z_i, iI_neg, ee, ee2, ix, inb, ix1, ix2, ixq, dv, rm, c0, c1, c2, d1, d2, h1, hT_s, hL_s, hI_s, wI_s, sI_s, x1, x2, i1, i2, up2_n, true_and, and_true, not_false_eq_true, gd_P, gd_T, iI_lt, iI_le, iI_eq, iI_ix, Int.toNat_natCast, toNat_L, n1, KK]
    · rw [p] at hi
      rw [pd]
      rcases (show i = 0 ∨ i = 1 ∨ i = 2 by omega) with rfl | rfl | rfl
      · have := k2 0 (by omega)
        rw [this]
        unfold dig
        rw [if_pos (by omega)]
        rfl
      · rw [k3 (d + 1) (by omega), up2_e]
        show iI ((48 + n % 100 / 10 : Nat) : Int) = iI ((48 + n / 10 % 10 : Nat) : Int)
        congr 2
        omega
      · rw [k3 (d + 2) (by omega), up2_n _ _ _ _ _ _ (by omega), up2_e]
        show iI ((48 + n % 100 % 10 : Nat) : Int) = iI ((48 + n % 10 : Nat) : Int)
        congr 2
        omega
    · rw [k3 i (by omega), up2_n _ _ _ _ _ _ (by omega), up2_n _ _ _ _ _ _ (by omega)]

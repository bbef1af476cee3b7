/-! 30 L3, BASE: ints as whole numbers, heaps with other ints, words of the shallow functions -/
theorem gd_T {α : Type} {x : Option α} {i : Decidable True} : @gd α True i x = x := if_pos trivial
theorem gd_P {α : Type} {p : Prop} {x : Option α} {i : Decidable p} (hp : p) : @gd α p i x = x := if_pos hp
theorem bn_S {α β : Type} {h : AH} {a : α} {f : AH → α → Option β} : bn (some (h, a)) f = f h a := rfl
theorem bv_S {β : Type} {h : AH} {f : AH → Option β} : bv (some h) f = f h := rfl
theorem lq_E {α β : Type} {x : α} {f : α → β} : lq x f = f x := rfl
-- ===== whole numbers =====
def iI (x : Int) : Int32 := Int32.ofInt x
theorem nI_i (n : Nat) : nI n = iI (n : Int) := Int32.ofInt_eq_ofNat.symm
theorem nI_L (n : Nat) : nI (no_index (OfNat.ofNat n)) = iI (no_index (OfNat.ofNat n)) := Int32.ofInt_eq_ofNat.symm
theorem z_i : (0 : Int32) = iI 0 := rfl
theorem o_i : (1 : Int32) = iI 1 := rfl
theorem iI_add (a b : Int) : iI a + iI b = iI (a + b) := (Int32.ofInt_add a b).symm
theorem iI_sub (a b : Int) : iI a - iI b = iI (a - b) := (Int32.ofInt_sub a b).symm
theorem iI_mul (a b : Int) : iI a * iI b = iI (a * b) := (Int32.ofInt_mul a b).symm
theorem iI_neg (a : Int) : -iI a = iI (-a) := Int32.neg_ofInt
theorem iI_toInt {a : Int} (h1 : -2147483648 ≤ a) (h2 : a < 2147483648) : (iI a).toInt = a := Int32.toInt_ofInt_of_le h1 h2
theorem iI_lt {a b : Int} (h1 : -2147483648 ≤ a) (h2 : a < 2147483648) (h3 : -2147483648 ≤ b) (h4 : b < 2147483648) : (iI a < iI b) = (a < b) := by
  rw [Int32.lt_iff_toInt_lt, iI_toInt h1 h2, iI_toInt h3 h4]
theorem iI_le {a b : Int} (h1 : -2147483648 ≤ a) (h2 : a < 2147483648) (h3 : -2147483648 ≤ b) (h4 : b < 2147483648) : (iI a ≤ iI b) = (a ≤ b) := by
  rw [Int32.le_iff_toInt_le, iI_toInt h1 h2, iI_toInt h3 h4]
theorem iI_eq {a b : Int} (h1 : -2147483648 ≤ a) (h2 : a < 2147483648) (h3 : -2147483648 ≤ b) (h4 : b < 2147483648) : (iI a = iI b) = (a = b) := by
  refine propext ⟨fun h => ?_, fun h => by rw [h]⟩
  have := congrArg Int32.toInt h
  rw [iI_toInt h1 h2, iI_toInt h3 h4] at this
  exact this
theorem iI_ix {a : Int} (h1 : 0 ≤ a) (h2 : a < 2147483648) : (iI a).toNatClampNeg = a.toNat := Int32.toNatClampNeg_ofInt_of_le (by omega) h2
theorem iI_ixn {n : Nat} (h2 : n < 2147483648) : (iI (n : Int)).toNatClampNeg = n := by rw [iI_ix (by omega) (by omega)]; exact Int.toNat_natCast n
theorem iI_div {a b : Int} (h1 : 0 ≤ a) (h2 : a < 2147483648) (h3 : 0 < b) (h4 : b < 2147483648) : iI a / iI b = iI (a / b) := by
  apply Int32.toInt.inj
  have hb : b.natAbs = b.toNat := by omega
  have h5 : a / b ≤ a := Int.ediv_le_self b h1
  have h6 : 0 ≤ a / b := Int.ediv_nonneg h1 (by omega)
  rw [Int32.toInt_div_of_ne_left, iI_toInt (by omega) h2, iI_toInt (by omega) h4, iI_toInt (by omega) (by omega), Int.tdiv_eq_ediv_of_nonneg h1]
  intro h7
  have := congrArg Int32.toInt h7
  rw [iI_toInt (by omega) h2, Int32.toInt_minValue] at this
  omega
theorem iI_inj_nat {a b : Nat} (h1 : a < 2147483648) (h2 : b < 2147483648) : (iI (a : Int) = iI (b : Int)) = (a = b) := by
  rw [iI_eq (by omega) (by omega) (by omega) (by omega)]
  exact propext ⟨fun h => by omega, fun h => by omega⟩
-- ===== heaps =====
def sI (h : AH) (F : Nat → Nat → Int32) : AH := (hN h, hU h, hT h, hL h, F, hR h, hJ h)
theorem wI_s (h : AH) (a k : Nat) (v : Int32) : wI h a k v = sI h (up2 (hI h) a k v) := rfl
theorem sI_s (h : AH) (F G : Nat → Nat → Int32) : sI (sI h F) G = sI h G := rfl
theorem sI_id (h : AH) : sI h (hI h) = h := rfl
theorem hI_s (h : AH) (F : Nat → Nat → Int32) : hI (sI h F) = F := rfl
theorem hT_s (h : AH) (F : Nat → Nat → Int32) : hT (sI h F) = hT h := rfl
theorem hL_s (h : AH) (F : Nat → Nat → Int32) : hL (sI h F) = hL h := rfl
theorem hR_s (h : AH) (F : Nat → Nat → Int32) : hR (sI h F) = hR h := rfl
theorem hJ_s (h : AH) (F : Nat → Nat → Int32) : hJ (sI h F) = hJ h := rfl
theorem hN_s (h : AH) (F : Nat → Nat → Int32) : hN (sI h F) = hN h := rfl
theorem hU_s (h : AH) (F : Nat → Nat → Int32) : hU (sI h F) = hU h := rfl
theorem up2_a {α : Type} (f : Nat → Nat → α) (a k : Nat) (v : α) (b j : Nat) : up2 f a k v b j = if b = a ∧ j = k then v else f b j := rfl
theorem up2_e {α : Type} (f : Nat → Nat → α) (a k : Nat) (v : α) : up2 f a k v a k = v := if_pos ⟨rfl, rfl⟩
theorem up2_n {α : Type} (f : Nat → Nat → α) (a k : Nat) (v : α) (b j : Nat) (h : ¬ (b = a ∧ j = k)) : up2 f a k v b j = f b j := if_neg h
theorem min_E {h : AH} {a b : Int} (h1 : -2147483648 ≤ a) (h2 : a < 2147483648) (h3 : -2147483648 ≤ b) (h4 : b < 2147483648) : f_Math_min h (iI a) (iI b) = some (h, iI (min a b)) := by
  unfold f_Math_min
  simp only [iI_lt h3 h4 h1 h2]
  by_cases k : b < a
  · rw [if_pos k, Int.min_eq_right (by omega)]
  · rw [if_neg k, Int.min_eq_left (by omega)]
theorem max_E {h : AH} {a b : Int} (h1 : -2147483648 ≤ a) (h2 : a < 2147483648) (h3 : -2147483648 ≤ b) (h4 : b < 2147483648) : f_Math_max h (iI a) (iI b) = some (h, iI (max a b)) := by
  unfold f_Math_max
  simp only [iI_lt h1 h2 h3 h4]
  by_cases k : a < b
  · rw [if_pos k, Int.max_eq_right (by omega)]
  · rw [if_neg k, Int.max_eq_left (by omega)]
theorem iI_xor {a : Int} (h1 : 0 ≤ a) (h2 : a < 2147483648) (b : Int) (h3 : 0 ≤ b) (h4 : b < 2147483648) : 0 ≤ (iI a ^^^ iI b) := by
  have key : ∀ x : Int32, (0 ≤ x) = (x.toBitVec.msb = false) := by
    intro x
    rw [Int32.le_iff_toInt_le, Int32.toInt_zero, BitVec.msb_eq_toInt]
    refine propext ⟨fun h => ?_, fun h => ?_⟩
    · exact decide_eq_false (by show ¬ x.toInt < 0; omega)
    · have := of_decide_eq_false h
      have h5 : ¬ x.toInt < 0 := this
      omega
  have ka := key (iI a)
  have kb := key (iI b)
  rw [key]
  have a0 : (iI a).toBitVec.msb = false := by rw [← ka, Int32.le_iff_toInt_le, iI_toInt (by omega) h2, Int32.toInt_zero]; exact h1
  have b0 : (iI b).toBitVec.msb = false := by rw [← kb, Int32.le_iff_toInt_le, iI_toInt (by omega) h4, Int32.toInt_zero]; exact h3
  rw [Int32.toBitVec_xor, BitVec.msb_xor, a0, b0]
  rfl
theorem floorMod_E {h : AH} {a b : Int} (h1 : 0 ≤ a) (h2 : a < 2147483648) (h3 : 0 < b) (h4 : b < 2147483648) : f_Math_floorMod h (iI a) (iI b) = some (h, iI (a % b)) := by
  unfold f_Math_floorMod
  have e : ¬ iI b = 0 := by rw [z_i, iI_eq (by omega) (by omega) (by omega) (by omega)]; omega
  have h5 : a / b ≤ a := Int.ediv_le_self b h1
  have h6 : 0 ≤ a / b := Int.ediv_nonneg h1 (by omega)
  have e2 : iI a - iI a / iI b * iI b = iI (a % b) := by
    rw [iI_div h1 h2 h3 h4, iI_mul, iI_sub, Int.emod_def, Int.mul_comm]
  rw [gd_P e, lq_E, if_pos (iI_xor h1 h2 b (by omega) h4), e2]

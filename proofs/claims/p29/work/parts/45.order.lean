/-! 45 L3: an order's steps do what the order says -/
theorem IvQ.le {m p b : Nat} {n : Nat} {T C Pb : Int} {g : GM} (h : Iv n m p b T C Pb g) : ∀ k, k < 4 → g (43 + k) 0 ≤ Pb ∧ g (43 + k) 2 ≤ Pb := by
  obtain ⟨hS, hH, hG, hR, hP, hB, hQ, hE⟩ := h
  obtain ⟨-, -, -, -, -, -, -, -, -, -, -, -, s15, s16⟩ := hS
  obtain ⟨E1, E2, E3⟩ := hE
  obtain ⟨a1, -⟩ := sumF_nn (f := fun k => g (11 + 5 * k) 1) m (fun k hk => by have := hR k hk; unfold IvR1 at this; show 0 ≤ g (11 + 5 * k) 1; omega)
  obtain ⟨a2, a2'⟩ := sumF_nn (f := fun k => g (43 + k) 0) 4 (fun k hk => by have := hQ k hk; show 0 ≤ g (43 + k) 0; omega)
  obtain ⟨a3, -⟩ := sumF_nn (f := fun i => g (39 + i) 4) b (fun i hi => by have := hB i hi; show 0 ≤ g (39 + i) 4; omega)
  obtain ⟨-, a4'⟩ := sumF_nn (f := fun k => g (43 + k) 3) 4 (fun k hk => by have := hQ k hk; show 0 ≤ g (43 + k) 3; omega)
  intro k hk
  have b1 := a2' k hk
  have b2 := a4' k hk
  have b3 := hQ k hk
  omega
theorem Iv.ok {n m p b : Nat} {T C Pb : Int} {g : GM} (h : Iv n m p b T C Pb g) (hC : C ≤ 1000000) (hP : Pb ≤ 900000) : Ok n m p b g := by
  have q := IvQ.le h
  obtain ⟨hS, hH, hG, hR, hP', hB, hQ, hE⟩ := h
  unfold IvSc at hS
  refine ⟨by omega, by omega, by omega, by omega, by omega, by omega, fun i hi => ?_, fun i hi => ?_, fun k hk => ?_⟩
  · have := hP' i hi; omega
  · have := hB i hi; omega
  · have := hQ k hk; have := q k hk; omega
def Wk (n m p b : Nat) (w : Nat → Int) : Prop := (0 ≤ w 0 ∧ w 0 ≤ 2) ∧ (0 ≤ w 1 ∧ (w 0 = 1 → w 1 < b) ∧ (w 0 ≠ 1 → w 1 < p)) ∧ (0 ≤ w 2 ∧ w 2 < 4) ∧ (0 ≤ w 3 ∧ w 3 < 4) ∧ (0 ≤ w 4 ∧ w 4 < 400) ∧ (0 ≤ w 5 ∧ w 5 < 9) ∧ (0 ≤ w 6 ∧ w 6 < 60) ∧ (0 ≤ w 7 ∧ w 7 < 400)
def tSt (n m p b : Nat) (w : Nat → Int) (z : Nat → Int32) : List (Int32 × Int32) := match (w 5).toNat with
  | 0 => [(nI 27, z 0), (nI 56, iI (w 7 % 12)), (nI 54, z 1)]
  | 1 => [(nI 29, iI (((w 6).toNat % p : Nat) : Int)), (nI 56, iI (w 7 % 21)), (nI 50, z 0)]
  | 2 => [(nI 34, iI (((w 6).toNat % p : Nat) : Int))]
  | 3 => [(nI 33, iI (((w 6).toNat % b : Nat) : Int)), (nI 35, z 0)]
  | 4 => [(nI 28, z 0), (nI 56, iI 1), (nI 47, z 1), (nI 56, iI (w 7)), (nI 54, z 2)]
  | 5 => [(nI 30, iI (((w 6).toNat % m : Nat) : Int)), (nI 56, iI (w 7 % 30)), (nI 51, z 0), (nI 31, iI (((w 6).toNat % 4 : Nat) : Int)), (nI 56, iI (w 7 % 9)), (nI 50, z 1), (nI 37, z 2)]
  | 6 => [(nI 2, iI (((w 6).toNat % n : Nat) : Int)), (nI 56, iI (w 7 % 60)), (nI 50, z 0), (nI 35, z 1), (nI 17, iI (((w 6).toNat % 4 : Nat) : Int)), (nI 56, iI 1), (nI 54, z 2), (nI 36, z 3)]
  | 7 => [(nI 32, iI (((w 6).toNat % b : Nat) : Int)), (nI 56, iI (w 7 % 20)), (nI 53, z 0)]
  | _ => [(nI 56, iI 1), (nI 56, iI 1), (nI 52, z 0)]
def sSt (w : Nat → Int) (z : Nat → Int32) : List (Int32 × Int32) := match (w 3).toNat with
  | 0 => [(nI 56, iI (w 4 % 50))]
  | 1 => [(nI 31, iI (((w 2).toNat : Nat) : Int)), (nI 56, iI (w 4 % 7)), (nI 47, z 0)]
  | 2 => [(nI 31, iI (((w 2).toNat : Nat) : Int)), (nI 56, iI 2), (nI 49, z 0), (nI 56, iI (w 4 % 9)), (nI 39, z 1)]
  | _ => [(nI 17, iI (((w 2).toNat : Nat) : Int)), (nI 56, iI 2), (nI 48, z 0), (nI 56, iI (w 4 % 5)), (nI 46, z 1)]
theorem tSt_R {n m p b r : Nat} (hN : Nm n m p b) (hr : 206 ≤ r) {T C Pb : Int} {g : GM} (hv : Iv n m p b T C Pb g) (hT : T ≤ 1000000) (hC : C ≤ 1000000) (hPb : Pb ≤ 900000) {w : Nat → Int} (hw : Wk n m p b w) (z : Nat → Int32) {l : List Int} (hl : l.length < 380) :
    Rs n m p b r (tSt n m p b w z) l g ((if mHolds n m p b g w = true then 1 else 0) :: l) g := by
  have q := IvQ.le hv
  obtain ⟨hS, hH, hG, hR, hP', hB, hQ, hE⟩ := hv
  obtain ⟨s6, s7, s8, s9, s11, s11', s12, s12', -, s13, -, -, -, -⟩ := hS
  have n1 : (w 6).toNat % n < n := Nat.mod_lt _ (by unfold Nm at hN; omega)
  have m1 : (w 6).toNat % m < m := Nat.mod_lt _ (by unfold Nm at hN; omega)
  have p1 : (w 6).toNat % p < p := Nat.mod_lt _ (by unfold Nm at hN; omega)
  have b1 : (w 6).toNat % b < b := Nat.mod_lt _ (by unfold Nm at hN; omega)
  have k1 : (w 6).toNat % 4 < 4 := Nat.mod_lt _ (by omega)
  have n4 : n ≤ 4 := by unfold Nm at hN; omega
  have m4 : m ≤ 4 := by unfold Nm at hN; omega
  have p8 : p ≤ 8 := by unfold Nm at hN; omega
  have b4 : b ≤ 4 := by unfold Nm at hN; omega
  obtain ⟨-, -, -, -, -, w5, -, w7⟩ := hw
  have hc : (w 5).toNat = 0 ∨ (w 5).toNat = 1 ∨ (w 5).toNat = 2 ∨ (w 5).toNat = 3 ∨ (w 5).toNat = 4 ∨ (w 5).toNat = 5 ∨ (w 5).toNat = 6 ∨ (w 5).toNat = 7 ∨ (w 5).toNat = 8 := by omega
  rcases hc with c | c | c | c | c | c | c | c | c
  · rw [show tSt n m p b w z = [(nI 27, z 0), (nI 56, iI (w 7 % 12)), (nI 54, z 1)] from by unfold tSt; rw [c] <;> rfl, show mHolds n m p b g w = (decide (w 7 % 12 ≤ g 0 11 % 12)) from by unfold mHolds; rw [c] <;> rfl]
    simp only [decide_eq_true_eq]
    exact ⟨_, _, tk_told hN hr (by omega) (k := 27) (by omega) (fun h hS hP => told_hour hS hP _ s11 (by omega)), _, _, tk_num hN hr (by simp only [List.length_cons]; omega) _, _, _, tk_join hN hr (by omega) (k := 54) _ (by omega) (fun h => join_least h (by omega) (by omega) (by omega) (by omega)), rfl, rfl⟩
  · rw [show tSt n m p b w z = [(nI 29, iI (((w 6).toNat % p : Nat) : Int)), (nI 56, iI (w 7 % 21)), (nI 50, z 0)] from by unfold tSt; rw [c] <;> rfl, show mHolds n m p b g w = (decide (g (31 + (w 6).toNat % p) 3 < w 7 % 21)) from by unfold mHolds; rw [c] <;> rfl]
    simp only [decide_eq_true_eq]
    have := hP' _ p1
    exact ⟨_, _, tk_told hN hr (by omega) (k := 29) (by omega) (fun h hS hP => told_edge hS hP p8 s8 p1), _, _, tk_num hN hr (by simp only [List.length_cons]; omega) _, _, _, tk_join hN hr (by omega) (k := 50) _ (by omega) (fun h => join_less h (by omega) (by omega) (by omega) (by omega)), rfl, rfl⟩
  · rw [show tSt n m p b w z = [(nI 34, iI (((w 6).toNat % p : Nat) : Int))] from by unfold tSt; rw [c] <;> rfl, show mHolds n m p b g w = (decide (g (31 + (w 6).toNat % p) 3 = 0)) from by unfold mHolds; rw [c] <;> rfl]
    simp only [decide_eq_true_eq]
    have := hP' _ p1
    exact ⟨_, _, tk_told hN hr (by omega) (k := 34) (by omega) (fun h hS hP => told_blunt hS hP p8 s8 p1 (by omega) (by omega)), rfl, rfl⟩
  · rw [show tSt n m p b w z = [(nI 33, iI (((w 6).toNat % b : Nat) : Int)), (nI 35, z 0)] from by unfold tSt; rw [c] <;> rfl, show mHolds n m p b g w = (decide (g (39 + (w 6).toNat % b) 3 = 0)) from by unfold mHolds; rw [c] <;> rfl]
    simp only [decide_eq_true_eq]
    have := hB _ b1
    refine ⟨_, _, tk_told hN hr (by omega) (k := 33) (by omega) (fun h hS hP => told_afloat hS hP b4 s9 b1 (by omega) (by omega)), _, _, tk_not hN hr (by omega) _ (by split <;> omega), ?_, rfl⟩
    split <;> rfl
  · rw [show tSt n m p b w z = [(nI 28, z 0), (nI 56, iI 1), (nI 47, z 1), (nI 56, iI (w 7)), (nI 54, z 2)] from by unfold tSt; rw [c] <;> rfl, show mHolds n m p b g w = (decide (w 7 < g 0 12)) from by unfold mHolds; rw [c] <;> rfl]
    simp only [decide_eq_true_eq]
    refine ⟨_, _, tk_told hN hr (by omega) (k := 28) (by omega) (fun h hS hP => told_coins hS hP _), _, _, tk_num hN hr (by simp only [List.length_cons]; omega) _, _, _, tk_join hN hr (by omega) (k := 47) _ (by omega) (fun h => join_minus h (by omega) (by omega) (by omega) (by omega)), _, _, tk_num hN hr (by simp only [List.length_cons]; omega) _, _, _, tk_join hN hr (by omega) (k := 54) _ (by omega) (fun h => join_least h (by omega) (by omega) (by omega) (by omega)), ?_, rfl⟩
    congr 1
    by_cases e : w 7 < g 0 12
    · rw [if_pos e, if_pos (by omega)]
    · rw [if_neg e, if_neg (by omega)]
  · rw [show tSt n m p b w z = [(nI 30, iI (((w 6).toNat % m : Nat) : Int)), (nI 56, iI (w 7 % 30)), (nI 51, z 0), (nI 31, iI (((w 6).toNat % 4 : Nat) : Int)), (nI 56, iI (w 7 % 9)), (nI 50, z 1), (nI 37, z 2)] from by unfold tSt; rw [c] <;> rfl, show mHolds n m p b g w = (decide (w 7 % 30 < mRoom g ((w 6).toNat % m)) || decide (g (43 + (w 6).toNat % 4) 0 < w 7 % 9)) from by unfold mHolds; rw [c] <;> rfl]
    have h1 := hR _ m1
    unfold IvR1 at h1
    have h2 := hQ _ k1
    have h3 := q _ k1
    have h4 : 0 ≤ mRoom g ((w 6).toNat % m) ∧ mRoom g ((w 6).toNat % m) ≤ 60 := by unfold mRoom; omega
    refine ⟨_, _, tk_told hN hr (by omega) (k := 30) (by omega) (fun h hS hP => told_room hS hP m4 s7 m1), _, _, tk_num hN hr (by simp only [List.length_cons]; omega) _, _, _, tk_join hN hr (by omega) (k := 51) _ (by omega) (fun h => join_more h (by omega) (by omega) (by omega) (by omega)), _, _, tk_told hN hr (by simp only [List.length_cons]; omega) (k := 31) (by omega) (fun h hS hP => told_store hS hP k1 (by omega) (by omega) (by omega) (by omega)), _, _, tk_num hN hr (by simp only [List.length_cons]; omega) _, _, _, tk_join hN hr (by simp only [List.length_cons]; omega) (k := 50) _ (by omega) (fun h => join_less h (by omega) (by omega) (by omega) (by omega)), _, _, tk_join hN hr (by omega) (k := 37) _ (by omega) (fun h => join_or h (by split <;> omega) (by split <;> omega)), ?_, rfl⟩
    congr 1
    simp only [Bool.or_eq_true, decide_eq_true_eq]
    by_cases e1 : w 7 % 30 < mRoom g ((w 6).toNat % m) <;> by_cases e2 : g (43 + (w 6).toNat % 4) 0 < w 7 % 9 <;> simp only [e1, e2, if_true, if_false, or_true, true_or, or_self] <;> rfl
  · rw [show tSt n m p b w z = [(nI 2, iI (((w 6).toNat % n : Nat) : Int)), (nI 56, iI (w 7 % 60)), (nI 50, z 0), (nI 35, z 1), (nI 17, iI (((w 6).toNat % 4 : Nat) : Int)), (nI 56, iI 1), (nI 54, z 2), (nI 36, z 3)] from by unfold tSt; rw [c] <;> rfl, show mHolds n m p b g w = (decide (w 7 % 60 ≤ g (7 + (w 6).toNat % n) 0) && decide (1 ≤ mPrice g ((w 6).toNat % 4))) from by unfold mHolds; rw [c] <;> rfl]
    have h1 := hG _ n1
    have h2 := hQ _ k1
    have h3 := q _ k1
    have h4 := mPriceAt_b h2.2.1 h2.2.2.1 h2.2.2.2.1
    refine ⟨_, _, tk_told hN hr (by omega) (k := 2) (by omega) (fun h hS hP => told_sticks hS hP n4 s6 n1), _, _, tk_num hN hr (by simp only [List.length_cons]; omega) _, _, _, tk_join hN hr (by omega) (k := 50) _ (by omega) (fun h => join_less h (by omega) (by omega) (by omega) (by omega)), _, _, tk_not hN hr (by omega) _ (by split <;> omega), _, _, tk_told hN hr (by simp only [List.length_cons]; omega) (k := 17) (by omega) (fun h hS hP => told_price hS hP k1 (by omega) (by omega) (by omega) (by omega)), _, _, tk_num hN hr (by simp only [List.length_cons]; omega) _, _, _, tk_join hN hr (by simp only [List.length_cons]; omega) (k := 54) _ (by omega) (fun h => join_least h (by unfold mPrice; omega) (by unfold mPrice; omega) (by omega) (by omega)), _, _, tk_join hN hr (by omega) (k := 36) _ (by omega) (fun h => join_and h (by split <;> omega) (by split <;> omega)), ?_, rfl⟩
    congr 1
    simp only [Bool.and_eq_true, decide_eq_true_eq]
    by_cases e1 : w 7 % 60 ≤ g (7 + (w 6).toNat % n) 0
    · have e3 : ¬ g (7 + (w 6).toNat % n) 0 < w 7 % 60 := by omega
      by_cases e2 : 1 ≤ mPrice g ((w 6).toNat % 4) <;> simp only [e1, e2, e3, if_true, if_false, and_true, true_and, and_self] <;> rfl
    · have e3 : g (7 + (w 6).toNat % n) 0 < w 7 % 60 := by omega
      by_cases e2 : 1 ≤ mPrice g ((w 6).toNat % 4) <;> simp only [e1, e2, e3, if_true, if_false, and_true, true_and, and_self, false_and] <;> rfl
  · rw [show tSt n m p b w z = [(nI 32, iI (((w 6).toNat % b : Nat) : Int)), (nI 56, iI (w 7 % 20)), (nI 53, z 0)] from by unfold tSt; rw [c] <;> rfl, show mHolds n m p b g w = (decide (g (39 + (w 6).toNat % b) 2 ≤ w 7 % 20)) from by unfold mHolds; rw [c] <;> rfl]
    simp only [decide_eq_true_eq]
    have := hB _ b1
    exact ⟨_, _, tk_told hN hr (by omega) (k := 32) (by omega) (fun h hS hP => told_mile hS hP b4 s9 b1), _, _, tk_num hN hr (by simp only [List.length_cons]; omega) _, _, _, tk_join hN hr (by omega) (k := 53) _ (by omega) (fun h => join_most h (by omega) (by omega) (by omega) (by omega)), rfl, rfl⟩
  · rw [show tSt n m p b w z = [(nI 56, iI 1), (nI 56, iI 1), (nI 52, z 0)] from by unfold tSt; rw [c] <;> rfl, show mHolds n m p b g w = (true) from by unfold mHolds; rw [c] <;> rfl]
    exact ⟨_, _, tk_num hN hr (by omega) _, _, _, tk_num hN hr (by simp only [List.length_cons]; omega) _, _, _, tk_join hN hr (by omega) (k := 52) _ (by omega) (fun h => join_equal h (by omega) (by omega) (by omega) (by omega)), rfl, rfl⟩

/-! 46 L3: sums; whole orders; all orders -/
theorem sSt_R {n m p b r : Nat} (hN : Nm n m p b) (hr : 206 ≤ r) {T C Pb : Int} {g : GM} (hv : Iv n m p b T C Pb g) (hPb : Pb ≤ 900000) {w : Nat → Int} (hw : Wk n m p b w) (z : Nat → Int32) {l : List Int} (hl : l.length < 380) :
    Rs n m p b r (sSt w z) l g (mSum g w :: l) g ∧ -1000000 ≤ mSum g w ∧ mSum g w ≤ 1000000 := by
  have q := IvQ.le hv
  have hQ := hv.2.2.2.2.2.2.1
  obtain ⟨-, -, w2, w3, w4, -⟩ := hw
  have k1 : (w 2).toNat < 4 := by omega
  have h2 := hQ _ k1
  have h3 := q _ k1
  have h4 := mPriceAt_b h2.2.1 h2.2.2.1 h2.2.2.2.1
  have h4' : 0 ≤ mPrice g (w 2).toNat ∧ mPrice g (w 2).toNat ≤ 50 := h4
  have hc : (w 3).toNat = 0 ∨ (w 3).toNat = 1 ∨ (w 3).toNat = 2 ∨ (w 3).toNat = 3 := by omega
  rcases hc with c | c | c | c
  · rw [show sSt w z = [(nI 56, iI (w 4 % 50))] from by unfold sSt; rw [c] <;> rfl, show mSum g w = w 4 % 50 from by unfold mSum; rw [c] <;> rfl]
    exact ⟨⟨_, _, tk_num hN hr (by omega) _, rfl, rfl⟩, by omega, by omega⟩
  · rw [show sSt w z = [(nI 31, iI (((w 2).toNat : Nat) : Int)), (nI 56, iI (w 4 % 7)), (nI 47, z 0)] from by unfold sSt; rw [c] <;> rfl, show mSum g w = g (43 + (w 2).toNat) 0 - w 4 % 7 from by unfold mSum; rw [c] <;> rfl]
    exact ⟨⟨_, _, tk_told hN hr (by omega) (k := 31) (by omega) (fun h hS hP => told_store hS hP k1 (by omega) (by omega) (by omega) (by omega)), _, _, tk_num hN hr (by simp only [List.length_cons]; omega) _, _, _, tk_join hN hr (by omega) (k := 47) _ (by omega) (fun h => join_minus h (by omega) (by omega) (by omega) (by omega)), rfl, rfl⟩, by omega, by omega⟩
  · rw [show sSt w z = [(nI 31, iI (((w 2).toNat : Nat) : Int)), (nI 56, iI 2), (nI 49, z 0), (nI 56, iI (w 4 % 9)), (nI 39, z 1)] from by unfold sSt; rw [c] <;> rfl, show mSum g w = max (g (43 + (w 2).toNat) 0 / 2) (w 4 % 9) from by unfold mSum; rw [c] <;> rfl]
    exact ⟨⟨_, _, tk_told hN hr (by omega) (k := 31) (by omega) (fun h hS hP => told_store hS hP k1 (by omega) (by omega) (by omega) (by omega)), _, _, tk_num hN hr (by simp only [List.length_cons]; omega) _, _, _, tk_join hN hr (by omega) (k := 49) _ (by omega) (fun h => join_over h (by omega) (by omega) (by omega) (by omega) (by omega) (by omega)), _, _, tk_num hN hr (by simp only [List.length_cons]; omega) _, _, _, tk_join hN hr (by omega) (k := 39) _ (by omega) (fun h => join_max h (by omega) (by omega) (by omega) (by omega)), rfl, rfl⟩, by omega, by omega⟩
  · rw [show sSt w z = [(nI 17, iI (((w 2).toNat : Nat) : Int)), (nI 56, iI 2), (nI 48, z 0), (nI 56, iI (w 4 % 5)), (nI 46, z 1)] from by unfold sSt; rw [c] <;> rfl, show mSum g w = mPrice g (w 2).toNat * 2 + w 4 % 5 from by unfold mSum; rw [c] <;> rfl]
    exact ⟨⟨_, _, tk_told hN hr (by omega) (k := 17) (by omega) (fun h hS hP => told_price hS hP k1 (by omega) (by omega) (by omega) (by omega)), _, _, tk_num hN hr (by simp only [List.length_cons]; omega) _, _, _, tk_join hN hr (by omega) (k := 48) _ (by omega) (fun h => join_times h (by omega) (by omega) (by omega) (by omega)), _, _, tk_num hN hr (by simp only [List.length_cons]; omega) _, _, _, tk_join hN hr (by omega) (k := 46) _ (by omega) (fun h => join_plus h (by omega) (by omega) (by omega) (by omega)), rfl, rfl⟩, by omega, by omega⟩
-- an order's steps; z, y: numbers that nobody reads
def oSt (n m p b : Nat) (w : Nat → Int) (z y : Nat → Int32) : List (Int32 × Int32) :=
  if w 0 = 0 then tSt n m p b w z ++ [(nI 22, iI (w 1))]
  else if w 0 = 1 then sSt w z ++ ([(nI 56, iI (w 2))] ++ ((if w 5 < 8 then tSt n m p b w y else [(nI 60, y 0)]) ++ [(nI 23, iI (w 1))]))
  else tSt n m p b w z ++ [(nI 25, iI (w 1))]
theorem oSt_R {n m p b r : Nat} (hN : Nm n m p b) (hr : 206 ≤ r) {T C Pb : Int} {g : GM} (hv : Iv n m p b T C Pb g) (hT : T ≤ 1000000) (hC : C ≤ 1000000) (hPb : Pb ≤ 900000) {w : Nat → Int} (hw : Wk n m p b w) (z y : Nat → Int32) :
    Rs n m p b r (oSt n m p b w z y) [] g [] (mOrder n m p b w g) := by
  have hk := Iv.ok hv hC hPb
  have t1 := tSt_R hN hr hv hT hC hPb hw z (l := []) (by decide)
  have hw' := hw
  obtain ⟨⟨w00, w02⟩, ⟨w10, w11, w12⟩, ⟨w20, w24⟩, -, -, ⟨w50, w59⟩, -⟩ := hw
  have hb1 : (if mHolds n m p b g w = true then (1 : Int) else 0) = 0 ∨ (if mHolds n m p b g w = true then (1 : Int) else 0) = 1 := by split <;> omega
  have e1 : ((w 1).toNat : Int) = w 1 := Int.toNat_of_nonneg w10
  have e2 : ((w 2).toNat : Int) = w 2 := Int.toNat_of_nonneg w20
  unfold oSt mOrder
  by_cases c0 : w 0 = 0
  · rw [if_pos c0, if_pos c0]
    have k := tk_whet hN hr hk (l := []) (by decide) (i := (w 1).toNat) (by have := w12 (by omega); omega) hb1
    rw [e1] at k
    refine Rs.app _ _ t1 (Rs.one ?_)
    have ee : (if mHolds n m p b g w = true then (if g (31 + (w 1).toNat) 3 < 20 ∧ 2 ≤ g 0 12 then mDone (mWhet (w 1).toNat g) else g) else g) = (if (if mHolds n m p b g w = true then (1 : Int) else 0) = 1 ∧ g (31 + (w 1).toNat) 3 < 20 ∧ 2 ≤ g 0 12 then mDone (mWhet (w 1).toNat g) else g) := by
      by_cases q : mHolds n m p b g w = true
      · rw [if_pos q, if_pos q]
        by_cases q2 : g (31 + (w 1).toNat) 3 < 20 ∧ 2 ≤ g 0 12
        · rw [if_pos q2, if_pos ⟨rfl, q2⟩]
        · rw [if_neg q2, if_neg (fun x => q2 x.2)]
      · rw [if_neg q, if_neg q, if_neg (by omega)]
    rw [ee]
    exact k
  · rw [if_neg c0, if_neg c0]
    by_cases c1 : w 0 = 1
    · rw [if_pos c1, if_pos c1]
      obtain ⟨s1, s2, s3⟩ := sSt_R hN hr hv hPb hw' z (l := []) (by decide)
      have t2 : Rs n m p b r (if w 5 < 8 then tSt n m p b w y else [(nI 60, y 0)]) [w 2, mSum g w] g ((if mHolds n m p b g w = true then (1 : Int) else 0) :: [w 2, mSum g w]) g := by
        by_cases q : w 5 < 8
        · rw [if_pos q]
          exact tSt_R hN hr hv hT hC hPb hw' y (by simp)
        · rw [if_neg q]
          have q2 : (w 5).toNat = 8 := by omega
          rw [show mHolds n m p b g w = true from by unfold mHolds; rw [q2] <;> rfl, if_pos rfl]
          exact Rs.one (tk_always hN hr (by simp) _)
      have k := tk_load hN hr hk (l := []) (by decide) (i := (w 1).toNat) (k := (w 2).toNat) (by have := w11 c1; omega) (by omega) s2 s3 hb1
      rw [e1, e2] at k
      refine Rs.app _ _ s1 (Rs.app _ _ (Rs.one (tk_num hN hr (by simp) _)) (Rs.app _ _ t2 (Rs.one ?_)))
      have ee : (if mHolds n m p b g w = true then (if 1 ≤ mMany g (w 1).toNat (w 2).toNat (mSum g w) then mDone (mLoad (w 1).toNat (w 2).toNat (mMany g (w 1).toNat (w 2).toNat (mSum g w)) g) else g) else g) = (if (if mHolds n m p b g w = true then (1 : Int) else 0) = 1 ∧ 1 ≤ mMany g (w 1).toNat (w 2).toNat (mSum g w) then mDone (mLoad (w 1).toNat (w 2).toNat (mMany g (w 1).toNat (w 2).toNat (mSum g w)) g) else g) := by
        by_cases q : mHolds n m p b g w = true
        · rw [if_pos q, if_pos q]
          by_cases q2 : 1 ≤ mMany g (w 1).toNat (w 2).toNat (mSum g w)
          · rw [if_pos q2, if_pos ⟨rfl, q2⟩]
          · rw [if_neg q2, if_neg (fun x => q2 x.2)]
        · rw [if_neg q, if_neg q, if_neg (by omega)]
      rw [ee]
      exact k
    · rw [if_neg c1, if_neg c1]
      have k := tk_rest hN hr hk (l := []) (by decide) (i := (w 1).toNat) (by have := w12 (by omega); omega) hb1
      rw [e1] at k
      refine Rs.app _ _ t1 (Rs.one ?_)
      have ee : (if mHolds n m p b g w = true then mDone (up2 g (31 + (w 1).toNat) 6 1) else g) = (if (if mHolds n m p b g w = true then (1 : Int) else 0) = 1 then mDone (up2 g (31 + (w 1).toNat) 6 1) else g) := by
        by_cases q : mHolds n m p b g w = true
        · rw [if_pos q, if_pos q, if_pos rfl]
        · rw [if_neg q, if_neg q, if_neg (by omega)]
      rw [ee]
      exact k
theorem mOrder_Iv {n m p b : Nat} (hN : Nm n m p b) {T C Pb : Int} {g : GM} (hv : Iv n m p b T C Pb g) {w : Nat → Int} (hw : Wk n m p b w) : Iv n m p b T C Pb (mOrder n m p b w g) := by
  obtain ⟨⟨w00, w02⟩, ⟨w10, w11, w12⟩, ⟨w20, w24⟩, -⟩ := hw
  unfold mOrder
  by_cases q : mHolds n m p b g w = true
  · rw [if_pos q]
    by_cases c0 : w 0 = 0
    · rw [if_pos c0]
      by_cases c : g (31 + (w 1).toNat) 3 < 20 ∧ 2 ≤ g 0 12
      · rw [if_pos c]
        exact (hv.whet hN (by have := w12 (by omega); omega) c.2).done hN
      · rw [if_neg c]; exact hv
    · rw [if_neg c0]
      by_cases c1 : w 0 = 1
      · rw [if_pos c1]
        by_cases c : 1 ≤ mMany g (w 1).toNat (w 2).toNat (mSum g w)
        · rw [if_pos c]
          have hw : g (39 + (w 1).toNat) 3 = 0 := by unfold mMany at c; split at c <;> omega
          have hq : mMany g (w 1).toNat (w 2).toNat (mSum g w) = min (min (mSum g w) (g (39 + (w 1).toNat) 0)) (g (43 + (w 2).toNat) 0) := by unfold mMany; rw [if_pos hw]
          exact (hv.load hN (by have := w11 c1; omega) (by omega) hw c (by rw [hq]; omega) (by rw [hq]; omega)).done hN
        · rw [if_neg c]; exact hv
      · rw [if_neg c1]
        exact (hv.rest hN (by have := w12 c1; omega) (Or.inr rfl)).done hN
  · rw [if_neg q]; exact hv
-- the steps of k orders from i on
def aSt (n m p b : Nat) (O : Nat → Nat → Int) (z y : Nat → Nat → Int32) : Nat → Nat → List (Int32 × Int32)
  | 0, _ => []
  | k + 1, i => oSt n m p b (O i) (z i) (y i) ++ aSt n m p b O z y k (i + 1)
theorem aSt_R {n m p b r : Nat} (hN : Nm n m p b) (hr : 206 ≤ r) {T C Pb : Int} (hT : T ≤ 1000000) (hC : C ≤ 1000000) (hPb : Pb ≤ 900000) {O : Nat → Nat → Int} {no : Nat} (hO : ∀ i, i < no → Wk n m p b (O i)) (z y : Nat → Nat → Int32) : ∀ (k i : Nat) (g : GM), i + k = no → Iv n m p b T C Pb g → Rs n m p b r (aSt n m p b O z y k i) [] g [] (mIt (fun i => mOrder n m p b (O i)) k i g) ∧ Iv n m p b T C Pb (mIt (fun i => mOrder n m p b (O i)) k i g) := by
  intro k
  induction k with
  | zero => intro i g _ hv; exact ⟨⟨rfl, rfl⟩, hv⟩
  | succ k ih =>
    intro i g hi hv
    have h1 := oSt_R hN hr hv hT hC hPb (hO i (by omega)) (z i) (y i)
    have h2 := mOrder_Iv hN hv (hO i (by omega))
    obtain ⟨h3, h4⟩ := ih (i + 1) _ (by omega) h2
    exact ⟨Rs.app _ _ h1 h3, h4⟩

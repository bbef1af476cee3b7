/-! 47 L3: what peeling, boats and the end of an hour keep -/
theorem sumF_head (f : Nat → Int) : ∀ n, sumF f (n + 1) = f 0 + sumF (fun x => f (x + 1)) n := by
  intro n
  induction n with
  | zero => show 0 + f 0 = f 0 + 0; omega
  | succ n ih =>
    rw [show sumF f (n + 1 + 1) = sumF f (n + 1) + f (n + 1) from rfl, ih, show sumF (fun x => f (x + 1)) (n + 1) = sumF (fun x => f (x + 1)) n + f (n + 1) from rfl]
    omega
theorem sumF_ge {f : Nat → Int} : ∀ n, (∀ k, k < n → 1 ≤ f k) → (n : Int) ≤ sumF f n := by
  intro n
  induction n with
  | zero => intro _; exact Int.le_refl _
  | succ n ih =>
    intro h
    have h1 := ih (fun k hk => h k (by omega))
    have h2 := h n (by omega)
    rw [show sumF f (n + 1) = sumF f n + f n from rfl]
    omega
def mPeelQ (i G K x : Nat) (q : Int) (g : GM) : GM := up2 (up2 (up2 (up2 (up2 (up2 (up2 (up2 (up2 (up2 g (7 + G) 0 (g (7 + G) 0 - q)) (12 + 5 * K) x q) (13 + 5 * K) x (g (7 + G) 2)) (14 + 5 * K) x 0) (15 + 5 * K) x 0) (11 + 5 * K) 2 (g (11 + 5 * K) 2 + 1)) (11 + 5 * K) 1 (g (11 + 5 * K) 1 + q)) (31 + i) 3 (g (31 + i) 3 - 1)) (31 + i) 4 (g (31 + i) 4 + q)) 0 15 (g 0 15 + q)
theorem mPeel1_Q {n m p b : Nat} {T C Pb : Int} {g : GM} (hN : Nm n m p b) (h : Iv n m p b T C Pb g) {i : Nat} (hi : i < p) (hc : g (31 + i) 6 = 0 ∧ 1 ≤ mPeels g i) :
    ∃ G K x : Nat, G < n ∧ K < m ∧ g (31 + i) 0 = (G : Int) ∧ g (31 + i) 1 = (K : Int) ∧ mct g K = (x : Int) ∧ mPeel1 i g = mPeelQ i G K x (mPeels g i) g ∧ mPeels g i ≤ g (7 + G) 0 ∧ mPeels g i ≤ g (11 + 5 * K) 0 - g (11 + 5 * K) 1 ∧ mPeels g i ≤ 9 ∧ 1 ≤ g (31 + i) 3 := by
  unfold Nm at hN
  obtain ⟨hS, hH, hG, hR, hP, hB, hQ, hE⟩ := h
  have h1 := hP i hi
  have hKm : (g (31 + i) 1).toNat < m := by omega
  have hGm : (g (31 + i) 0).toNat < n := by omega
  have h2 := hR _ hKm
  unfold IvR1 at h2
  refine ⟨(g (31 + i) 0).toNat, (g (31 + i) 1).toNat, (mct g (g (31 + i) 1).toNat).toNat, hGm, hKm, by omega, by omega, by omega, ?_, ?_⟩
  · unfold mPeel1
    rw [if_pos hc]
    unfold mLay mPeelQ
    generalize (g (31 + i) 0).toNat = G at *
    generalize (g (31 + i) 1).toNat = K at *
    unfold mct
    simp (disch := omega) only [up2_n]
  · have hc2 := hc.2
    unfold mPeels mRoom at hc2 ⊢
    have : mMost g i ≤ 9 ∧ (1 ≤ mMost g i → 1 ≤ g (31 + i) 3) := by unfold mMost; split <;> (try split) <;> omega
    omega
theorem Iv.peel {n m p b : Nat} {T C Pb : Int} {g : GM} (hN : Nm n m p b) (h : Iv n m p b T C Pb g) (hT : 0 ≤ T) {i : Nat} (hi : i < p) : Iv n m p b T C (Pb + 9) (mPeel1 i g) := by
  by_cases hc : g (31 + i) 6 = 0 ∧ 1 ≤ mPeels g i
  · obtain ⟨G, K, x, hG1, hK1, e0, e1, ex, eQ, q1, q2, q3, q4⟩ := mPeel1_Q hN h hi hc
    rw [eQ]
    have q0 := hc.2
    generalize mPeels g i = q at *
    clear eQ hc
    unfold Nm at hN
    obtain ⟨hS, hH, hG, hR, hP, hB, hQ, hE⟩ := h
    have hRK := hR K hK1
    have hGG := hG G hG1
    have ex' : g (11 + 5 * K) 2 = (x : Int) := ex
    have f1 : mPeelQ i G K x q g (11 + 5 * K) 1 = g (11 + 5 * K) 1 + q := by unfold mPeelQ; simp (disch := omega) only [up2_n, up2_e]
    have f2 : mct (mPeelQ i G K x q g) K = ((x + 1 : Nat) : Int) := by unfold mPeelQ mct; simp (disch := omega) only [up2_n, up2_e]; omega
    have f15 : mPeelQ i G K x q g 0 15 = g 0 15 + q := by unfold mPeelQ; simp (disch := omega) only [up2_n, up2_e]
    have f16 : mPeelQ i G K x q g 0 16 = g 0 16 := by unfold mPeelQ; simp (disch := omega) only [up2_n]
    have f4 : mPeelQ i G K x q g (31 + i) 4 = g (31 + i) 4 + q := by unfold mPeelQ; simp (disch := omega) only [up2_n, up2_e]
    refine ⟨?_, hH.congr fun s hs => by unfold mPeelQ; simp (disch := omega) only [up2_n], ?_, ?_, ?_, hB.congr (by unfold mPeelQ; simp (disch := omega) only [up2_n]) (fun i hi s hs => by unfold mPeelQ; simp (disch := omega) only [up2_n]), hQ.congr (fun k hk s hs => by unfold mPeelQ; simp (disch := omega) only [up2_n]), ?_⟩
    · unfold IvSc at hS ⊢
      unfold mPeelQ
      simp (disch := omega) only [up2_n, up2_e]
      omega
    · intro j hj
      have h1 := hG j hj
      unfold mPeelQ
      by_cases e : j = G
      · subst e
        simp (disch := omega) only [up2_n, up2_e]
        omega
      · simp (disch := omega) only [up2_n]
        exact h1
    · intro k hk
      by_cases e : k = K
      · subst e
        obtain ⟨r1, r2, r3, r4, r5, r6, r7⟩ := hRK
        unfold IvR1
        rw [f2, f1]
        refine ⟨by unfold mPeelQ; simp (disch := omega) only [up2_n]; omega, by unfold mPeelQ; simp (disch := omega) only [up2_n]; omega, by omega, by omega, by unfold mPeelQ; simp (disch := omega) only [up2_n]; omega, ?_, fun j hj => ?_⟩
        · rw [Int.toNat_natCast, show sumF (fun j => mPeelQ i G k x q g (12 + 5 * k) j) (x + 1) = sumF (fun j => mPeelQ i G k x q g (12 + 5 * k) j) x + mPeelQ i G k x q g (12 + 5 * k) x from rfl, sumF_congr (f := fun j => g (12 + 5 * k) j) x (fun j hj => by unfold mPeelQ; simp (disch := omega) only [up2_n])]
          rw [ex, Int.toNat_natCast] at r6
          rw [← r6]
          unfold mPeelQ
          simp (disch := omega) only [up2_n, up2_e]
        · by_cases e : j = x
          · subst e
            unfold mPeelQ
            simp (disch := omega) only [up2_n, up2_e]
            omega
          · have := r7 j (by omega)
            unfold mPeelQ
            simp (disch := omega) only [up2_n]
            exact this
      · exact (hR k hk).congr (fun s hs => by unfold mPeelQ; simp (disch := omega) only [up2_n]) (fun w h1 h2 j hj => by unfold mPeelQ; simp (disch := omega) only [up2_n])
    · intro j hj
      have h1 := hP j hj
      unfold mPeelQ
      by_cases e : j = i
      · subst e
        simp (disch := omega) only [up2_n, up2_e]
        omega
      · simp (disch := omega) only [up2_n]
        exact h1
    · unfold IvE at hE ⊢
      have a3 := sumF_ch (f := fun k => g (11 + 5 * k) 1) (f' := fun k' => mPeelQ i G K x q g (11 + 5 * k') 1) m hK1 (fun j hj hne => by unfold mPeelQ; simp (disch := omega) only [up2_n])
      have a4 := sumF_ch (f := fun i => g (31 + i) 4) (f' := fun i' => mPeelQ i G K x q g (31 + i') 4) p hi (fun j hj hne => by unfold mPeelQ; simp (disch := omega) only [up2_n])
      have a1 := sumF_congr (f := fun k => g (43 + k) 0) (f' := fun k' => mPeelQ i G K x q g (43 + k') 0) 4 (fun j hj => by unfold mPeelQ; simp (disch := omega) only [up2_n])
      have a2 := sumF_congr (f := fun i => g (39 + i) 4) (f' := fun i' => mPeelQ i G K x q g (39 + i') 4) b (fun j hj => by unfold mPeelQ; simp (disch := omega) only [up2_n])
      have a5 := sumF_congr (f := fun k => g (43 + k) 3) (f' := fun k' => mPeelQ i G K x q g (43 + k') 3) 4 (fun j hj => by unfold mPeelQ; simp (disch := omega) only [up2_n])
      rw [a1, a2, a3, a4, a5, f1, f15, f16, f4]
      omega
  · unfold mPeel1
    rw [if_neg hc]
    obtain ⟨hS, h⟩ := h
    refine ⟨?_, h⟩
    unfold IvSc at hS ⊢
    omega
theorem mWorth_b {t : Int} (h1 : 0 ≤ t) (h2 : t ≤ 50) : ∀ (k : Nat) (q : Int), 0 ≤ q → 0 ≤ mWorth t k q ∧ mWorth t k q ≤ 50 * k := by
  intro k
  induction k with
  | zero => intro q _; exact ⟨Int.le_refl _, Int.le_refl _⟩
  | succ k ih =>
    intro q hq
    have := mPriceAt_b h1 h2 hq
    have := ih (q + 1) (by omega)
    rw [show mWorth t (k + 1) q = mPriceAt t q + mWorth t k (q + 1) from rfl]
    omega
theorem Iv.coins {n m p b : Nat} {T C C' Pb : Int} {g : GM} (h : Iv n m p b T C Pb g) (hC : C ≤ C') : Iv n m p b T C' Pb g := by
  obtain ⟨hS, h⟩ := h
  refine ⟨?_, h⟩
  unfold IvSc at hS ⊢
  omega
def mSellQ (i k : Nat) (w q : Int) (g : GM) : GM := up2 (up2 (up2 (up2 (up2 (up2 (up2 (up2 (up2 g (39 + i) 2 (g 0 13)) (39 + i) 3 2) (43 + k) 2 (g (43 + k) 2 + q)) (43 + k) 3 (g (43 + k) 3 + q)) 0 16 (g 0 16 + q)) 0 12 (g 0 12 + w)) (39 + i) 6 (g (39 + i) 6 + w)) (39 + i) 4 0) (39 + i) 5 (-1)
theorem Iv.boat {n m p b : Nat} {T C Pb : Int} {g : GM} (hN : Nm n m p b) (h : Iv n m p b T C Pb g) {i : Nat} (hi : i < b) : Iv n m p b T (C + 2000) Pb (mBoat1 i g) := by
  have h0 := h
  obtain ⟨hS, hH, hG, hR, hP, hB, hQ, hE⟩ := h
  have hBi := hB i hi
  have hS' := hS
  unfold IvSc at hS'
  unfold Nm at hN
  unfold mBoat1
  by_cases c0 : g (39 + i) 3 = 0
  · rw [if_pos c0]
    exact h0.coins (by omega)
  · rw [if_neg c0]
    by_cases c2 : g (39 + i) 3 = 2
    · rw [if_pos c2]
      generalize hx : max 0 (g (39 + i) 2 - g (39 + i) 1 - g 0 14) = x
      refine (show Iv n m p b T C Pb _ from ⟨hS.congr fun s hs => (by simp (disch := omega) only [up2_n]), hH.congr fun s hs => (by simp (disch := omega) only [up2_n]), hG.congr fun i hi s hs => (by simp (disch := omega) only [up2_n]), fun k hk => (hR k hk).congr (fun s hs => (by simp (disch := omega) only [up2_n])) (fun w h1 h2 j hj => (by simp (disch := omega) only [up2_n])), hP.congr fun i hi s hs => (by simp (disch := omega) only [up2_n]), ?_, hQ.congr fun k hk s hs => (by simp (disch := omega) only [up2_n]), hE.congr (by simp (disch := omega) only [up2_n]) (by simp (disch := omega) only [up2_n]) (fun k hk => (by simp (disch := omega) only [up2_n])) (fun k hk => ⟨(by simp (disch := omega) only [up2_n]), (by simp (disch := omega) only [up2_n])⟩) (fun i hi => (by simp (disch := omega) only [up2_n])) (fun i hi => (by simp (disch := omega) only [up2_n]))⟩).coins (by omega)
      intro j hj
      have h1 := hB j hj
      by_cases e : j = i
      · subst e
        simp (disch := omega) only [up2_n, up2_e]
        split <;> omega
      · simp (disch := omega) only [up2_n]
        exact h1
    · rw [if_neg c2]
      have c1 : g (39 + i) 3 = 1 := by omega
      by_cases c3 : min (g 0 13) (g (39 + i) 2 + max 1 (g (39 + i) 1 - g 0 14)) = g 0 13
      · rw [if_pos c3]
        obtain ⟨k, hk⟩ : ∃ k : Nat, g (39 + i) 5 = (k : Int) := ⟨(g (39 + i) 5).toNat, by omega⟩
        have hk4 : k < 4 := by omega
        have hQk := hQ k hk4
        generalize hq : g (39 + i) 4 = q at *
        have hw := mWorth_b hQk.2.1 hQk.2.2.1 q.toNat (g (43 + k) 2) hQk.2.2.2.1
        generalize hw2 : mWorth (g (43 + k) 1) q.toNat (g (43 + k) 2) = w at *
        have eQ : mSell i (up2 (up2 g (39 + i) 2 (g 0 13)) (39 + i) 3 2) = mSellQ i k w q g := by
          unfold mSell mSellQ
          simp (disch := omega) only [up2_n, hk, hq, Int.toNat_natCast, hw2]
        rw [eQ]
        have f0 : mSellQ i k w q g (39 + i) 4 = 0 := by unfold mSellQ; simp (disch := omega) only [up2_n, up2_e]
        have f1 : mSellQ i k w q g (43 + k) 3 = g (43 + k) 3 + q := by unfold mSellQ; simp (disch := omega) only [up2_n, up2_e]
        have f2 : mSellQ i k w q g 0 16 = g 0 16 + q := by unfold mSellQ; simp (disch := omega) only [up2_n, up2_e]
        have f3 : mSellQ i k w q g 0 15 = g 0 15 := by unfold mSellQ; simp (disch := omega) only [up2_n]
        refine ⟨?_, hH.congr fun s hs => by unfold mSellQ; simp (disch := omega) only [up2_n], hG.congr fun i hi s hs => by unfold mSellQ; simp (disch := omega) only [up2_n], fun k hk => (hR k hk).congr (fun s hs => by unfold mSellQ; simp (disch := omega) only [up2_n]) (fun w h1 h2 j hj => by unfold mSellQ; simp (disch := omega) only [up2_n]), hP.congr fun i hi s hs => by unfold mSellQ; simp (disch := omega) only [up2_n], ?_, ?_, ?_⟩
        · unfold IvSc mSellQ
          simp (disch := omega) only [up2_n, up2_e]
          omega
        · intro j hj
          have h1 := hB j hj
          unfold mSellQ
          by_cases e : j = i
          · subst e
            simp (disch := omega) only [up2_n, up2_e]
            refine ⟨by omega, by omega, by omega, by omega, by omega, by omega, Or.inr (Or.inr ⟨trivial, trivial, trivial⟩)⟩
          · simp (disch := omega) only [up2_n]
            exact h1
        · intro j hj
          have h1 := hQ j hj
          unfold mSellQ
          by_cases e : j = k
          · subst e
            simp (disch := omega) only [up2_n, up2_e]
            omega
          · simp (disch := omega) only [up2_n]
            exact h1
        · unfold IvE at hE ⊢
          have a1 := sumF_congr (f := fun k => g (11 + 5 * k) 1) (f' := fun k' => mSellQ i k w q g (11 + 5 * k') 1) m (fun j hj => by unfold mSellQ; simp (disch := omega) only [up2_n])
          have a2 := sumF_congr (f := fun k => g (43 + k) 0) (f' := fun k' => mSellQ i k w q g (43 + k') 0) 4 (fun j hj => by unfold mSellQ; simp (disch := omega) only [up2_n])
          have a3 := sumF_ch (f := fun i => g (39 + i) 4) (f' := fun i' => mSellQ i k w q g (39 + i') 4) b hi (fun j hj hne => by unfold mSellQ; simp (disch := omega) only [up2_n])
          have a4 := sumF_congr (f := fun i => g (31 + i) 4) (f' := fun i' => mSellQ i k w q g (31 + i') 4) p (fun j hj => by unfold mSellQ; simp (disch := omega) only [up2_n])
          have a5 := sumF_ch (f := fun k => g (43 + k) 3) (f' := fun k' => mSellQ i k w q g (43 + k') 3) 4 hk4 (fun j hj hne => by unfold mSellQ; simp (disch := omega) only [up2_n])
          rw [a1, a2, a3, a4, a5, f0, f1, f2, f3, hq]
          omega
      · rw [if_neg c3]
        generalize hx : min (g 0 13) (g (39 + i) 2 + max 1 (g (39 + i) 1 - g 0 14)) = x at *
        refine (show Iv n m p b T C Pb _ from ⟨hS.congr fun s hs => (by simp (disch := omega) only [up2_n]), hH.congr fun s hs => (by simp (disch := omega) only [up2_n]), hG.congr fun i hi s hs => (by simp (disch := omega) only [up2_n]), fun k hk => (hR k hk).congr (fun s hs => (by simp (disch := omega) only [up2_n])) (fun w h1 h2 j hj => (by simp (disch := omega) only [up2_n])), hP.congr fun i hi s hs => (by simp (disch := omega) only [up2_n]), ?_, hQ.congr fun k hk s hs => (by simp (disch := omega) only [up2_n]), hE.congr (by simp (disch := omega) only [up2_n]) (by simp (disch := omega) only [up2_n]) (fun k hk => (by simp (disch := omega) only [up2_n])) (fun k hk => ⟨(by simp (disch := omega) only [up2_n]), (by simp (disch := omega) only [up2_n])⟩) (fun i hi => (by simp (disch := omega) only [up2_n])) (fun i hi => (by simp (disch := omega) only [up2_n]))⟩).coins (by omega)
        intro j hj
        have h1 := hB j hj
        by_cases e : j = i
        · subst e
          simp (disch := omega) only [up2_n, up2_e]
          refine ⟨by omega, by omega, by omega, by omega, by omega, by omega, Or.inr (Or.inl ⟨trivial, by omega, by omega, by omega, by omega⟩)⟩
        · simp (disch := omega) only [up2_n]
          exact h1
theorem Iv.endh {n m p b : Nat} {T C Pb : Int} {g : GM} (hN : Nm n m p b) (h : Iv n m p b T C Pb g) (hh : g 0 11 + 1 ≤ T) : Iv n m p b T 99999 Pb (mEnd g) := by
  unfold Nm at hN
  unfold mEnd
  obtain ⟨hS, hH, hG, hR, hP, hB, hQ, hE⟩ := h
  refine ⟨?_, hH.congr fun s hs => (by simp (disch := omega) only [up2_n]), hG.congr fun i hi s hs => (by simp (disch := omega) only [up2_n]), fun k hk => (hR k hk).congr (fun s hs => (by simp (disch := omega) only [up2_n])) (fun w h1 h2 j hj => (by simp (disch := omega) only [up2_n])), hP.congr fun i hi s hs => (by simp (disch := omega) only [up2_n]), hB.congr (by simp (disch := omega) only [up2_n]) (fun i hi s hs => (by simp (disch := omega) only [up2_n])), hQ.congr (fun k hk s hs => (by simp (disch := omega) only [up2_n])), hE.congr (by simp (disch := omega) only [up2_n]) (by simp (disch := omega) only [up2_n]) (fun k hk => (by simp (disch := omega) only [up2_n])) (fun k hk => ⟨(by simp (disch := omega) only [up2_n]), (by simp (disch := omega) only [up2_n])⟩) (fun i hi => (by simp (disch := omega) only [up2_n])) (fun i hi => (by simp (disch := omega) only [up2_n]))⟩
  unfold IvSc at hS ⊢
  simp (disch := omega) only [up2_n, up2_e]
  omega

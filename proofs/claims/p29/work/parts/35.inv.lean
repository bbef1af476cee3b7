/-! 35 L3: what always holds of a river (whole numbers) -/
def IvSc (n m p b : Nat) (T C Pb : Int) (g : GM) : Prop := g 0 6 = n ∧ g 0 7 = m ∧ g 0 8 = p ∧ g 0 9 = b ∧ 0 ≤ g 0 11 ∧ g 0 11 ≤ T ∧ 0 ≤ g 0 12 ∧ g 0 12 ≤ C ∧ 1 ≤ g 0 13 ∧ g 0 13 ≤ 60 ∧ 0 ≤ g 0 14 ∧ g 0 14 ≤ 5 ∧ g 0 15 ≤ Pb ∧ 0 ≤ g 0 16
def IvH (g : GM) : Prop := ∀ s, s < 12 → 0 ≤ g 6 s ∧ g 6 s ≤ 3
def IvG (n : Nat) (g : GM) : Prop := ∀ i, i < n → 0 ≤ g (7 + i) 0 ∧ g (7 + i) 0 ≤ 99 ∧ 0 ≤ g (7 + i) 1 ∧ g (7 + i) 1 ≤ 20 ∧ 1 ≤ g (7 + i) 2 ∧ g (7 + i) 2 ≤ 9
def IvR1 (k : Nat) (T : Int) (g : GM) : Prop := 1 ≤ g (11 + 5 * k) 0 ∧ g (11 + 5 * k) 0 ≤ 60 ∧ 0 ≤ mct g k ∧ mct g k ≤ g (11 + 5 * k) 1 ∧ g (11 + 5 * k) 1 ≤ g (11 + 5 * k) 0 ∧ g (11 + 5 * k) 1 = sumF (fun j => g (12 + 5 * k) j) (mct g k).toNat ∧
  ∀ j : Nat, (j : Int) < mct g k → 1 ≤ g (12 + 5 * k) j ∧ 1 ≤ g (13 + 5 * k) j ∧ g (13 + 5 * k) j ≤ 9 ∧ 0 ≤ g (14 + 5 * k) j ∧ g (14 + 5 * k) j < 3 * g (13 + 5 * k) j ∧ 0 ≤ g (15 + 5 * k) j ∧ g (15 + 5 * k) j ≤ T
def IvR (m : Nat) (T : Int) (g : GM) : Prop := ∀ k, k < m → IvR1 k T g
def IvP (n m p : Nat) (g : GM) : Prop := ∀ i, i < p → 0 ≤ g (31 + i) 0 ∧ g (31 + i) 0 < n ∧ 0 ≤ g (31 + i) 1 ∧ g (31 + i) 1 < m ∧ 1 ≤ g (31 + i) 2 ∧ g (31 + i) 2 ≤ 9 ∧ 0 ≤ g (31 + i) 3 ∧ g (31 + i) 3 ≤ 20 ∧ (g (31 + i) 6 = 0 ∨ g (31 + i) 6 = 1) ∧ 0 ≤ g (31 + i) 4
def IvB (b : Nat) (g : GM) : Prop := ∀ i, i < b → 1 ≤ g (39 + i) 0 ∧ g (39 + i) 0 ≤ 40 ∧ 1 ≤ g (39 + i) 1 ∧ g (39 + i) 1 ≤ 9 ∧ 0 ≤ g (39 + i) 2 ∧ g (39 + i) 2 ≤ g 0 13 ∧
  ((g (39 + i) 3 = 0 ∧ g (39 + i) 2 = 0 ∧ g (39 + i) 4 = 0 ∧ g (39 + i) 5 = -1) ∨ (g (39 + i) 3 = 1 ∧ 1 ≤ g (39 + i) 4 ∧ g (39 + i) 4 ≤ g (39 + i) 0 ∧ 0 ≤ g (39 + i) 5 ∧ g (39 + i) 5 < 4) ∨ (g (39 + i) 3 = 2 ∧ g (39 + i) 4 = 0 ∧ g (39 + i) 5 = -1))
def IvQ (g : GM) : Prop := ∀ k, k < 4 → 0 ≤ g (43 + k) 0 ∧ 0 ≤ g (43 + k) 1 ∧ g (43 + k) 1 ≤ 50 ∧ 0 ≤ g (43 + k) 2 ∧ g (43 + k) 2 ≤ g (43 + k) 3
def IvE (m p b : Nat) (g : GM) : Prop := g 0 15 = sumF (fun k => g (11 + 5 * k) 1) m + sumF (fun k => g (43 + k) 0) 4 + sumF (fun i => g (39 + i) 4) b + g 0 16 ∧ sumF (fun i => g (31 + i) 4) p = g 0 15 ∧ sumF (fun k => g (43 + k) 3) 4 = g 0 16
def Iv (n m p b : Nat) (T C Pb : Int) (g : GM) : Prop := IvSc n m p b T C Pb g ∧ IvH g ∧ IvG n g ∧ IvR m T g ∧ IvP n m p g ∧ IvB b g ∧ IvQ g ∧ IvE m p b g
-- the numbers of things
def Nm (n m p b : Nat) : Prop := (1 ≤ n ∧ n ≤ 3) ∧ (1 ≤ m ∧ m ≤ 3) ∧ (1 ≤ p ∧ p ≤ 4) ∧ (1 ≤ b ∧ b ≤ 3)
theorem IvSc.congr {n m p b : Nat} {T C Pb : Int} {g g' : GM} (h : IvSc n m p b T C Pb g) (e : ∀ s, s < 18 → g' 0 s = g 0 s) : IvSc n m p b T C Pb g' := by
  unfold IvSc at h ⊢
  rw [e 6 (by decide), e 7 (by decide), e 8 (by decide), e 9 (by decide), e 11 (by decide), e 12 (by decide), e 13 (by decide), e 14 (by decide), e 15 (by decide), e 16 (by decide)]
  exact h
theorem IvH.congr {g g' : GM} (h : IvH g) (e : ∀ s, s < 12 → g' 6 s = g 6 s) : IvH g' := fun s hs => by rw [e s hs]; exact h s hs
theorem IvG.congr {n : Nat} {g g' : GM} (h : IvG n g) (e : ∀ i, i < n → ∀ s, s < 3 → g' (7 + i) s = g (7 + i) s) : IvG n g' := fun i hi => by
  rw [e i hi 0 (by decide), e i hi 1 (by decide), e i hi 2 (by decide)]; exact h i hi
theorem IvR1.congr {k : Nat} {T : Int} {g g' : GM} (h : IvR1 k T g) (e : ∀ s, s < 3 → g' (11 + 5 * k) s = g (11 + 5 * k) s) (e2 : ∀ w, 12 ≤ w → w ≤ 15 → ∀ j : Nat, (j : Int) < mct g k → g' (w + 5 * k) j = g (w + 5 * k) j) : IvR1 k T g' := by
  have ec : mct g' k = mct g k := e 2 (by decide)
  obtain ⟨h1, h2, h3, h4, h5, h6, h7⟩ := h
  unfold IvR1
  rw [ec, e 0 (by decide), e 1 (by decide)]
  refine ⟨h1, h2, h3, h4, h5, ?_, fun j hj => ?_⟩
  · rw [h6]
    exact (sumF_congr _ fun j hj => e2 12 (by decide) (by decide) j (by omega)).symm
  · rw [e2 12 (by decide) (by decide) j hj, e2 13 (by decide) (by decide) j hj, e2 14 (by decide) (by decide) j hj, e2 15 (by decide) (by decide) j hj]
    exact h7 j hj
theorem IvP.congr {n m p : Nat} {g g' : GM} (h : IvP n m p g) (e : ∀ i, i < p → ∀ s, s < 7 → g' (31 + i) s = g (31 + i) s) : IvP n m p g' := fun i hi => by
  rw [e i hi 0 (by decide), e i hi 1 (by decide), e i hi 2 (by decide), e i hi 3 (by decide), e i hi 4 (by decide), e i hi 6 (by decide)]; exact h i hi
theorem IvB.congr {b : Nat} {g g' : GM} (h : IvB b g) (e0 : g' 0 13 = g 0 13) (e : ∀ i, i < b → ∀ s, s < 7 → g' (39 + i) s = g (39 + i) s) : IvB b g' := fun i hi => by
  rw [e0, e i hi 0 (by decide), e i hi 1 (by decide), e i hi 2 (by decide), e i hi 3 (by decide), e i hi 4 (by decide), e i hi 5 (by decide)]; exact h i hi
theorem IvQ.congr {g g' : GM} (h : IvQ g) (e : ∀ k, k < 4 → ∀ s, s < 4 → g' (43 + k) s = g (43 + k) s) : IvQ g' := fun k hk => by
  rw [e k hk 0 (by decide), e k hk 1 (by decide), e k hk 2 (by decide), e k hk 3 (by decide)]; exact h k hk
theorem IvE.congr {m p b : Nat} {g g' : GM} (h : IvE m p b g) (e15 : g' 0 15 = g 0 15) (e16 : g' 0 16 = g 0 16) (e1 : ∀ k, k < m → g' (11 + 5 * k) 1 = g (11 + 5 * k) 1) (e2 : ∀ k, k < 4 → g' (43 + k) 0 = g (43 + k) 0 ∧ g' (43 + k) 3 = g (43 + k) 3) (e3 : ∀ i, i < b → g' (39 + i) 4 = g (39 + i) 4) (e4 : ∀ i, i < p → g' (31 + i) 4 = g (31 + i) 4) : IvE m p b g' := by
  unfold IvE at h ⊢
  rw [e15, e16, sumF_congr m e1, sumF_congr 4 (fun k hk => (e2 k hk).1), sumF_congr 4 (f := fun k => g (43 + k) 3) (fun k hk => (e2 k hk).2), sumF_congr b e3, sumF_congr p e4]
  exact h

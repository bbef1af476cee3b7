/-! 60 L3: the picture of the sim (written by l3/gen60.py) -/
def SkM (n m p b no : Nat) (h : AH) : Prop := hT h 320 = 13 ∧ hR h 320 7 = 321 ∧ hR h 320 8 = 322 ∧ hR h 320 9 = 323 ∧ hR h 320 10 = 324 ∧ hR h 320 11 = 325 ∧ hR h 320 12 = 332 ∧ hR h 320 13 = 333 + n ∧ hR h 320 14 = 334 + n ∧ hR h 320 15 = 335 + n + m ∧ hR h 320 16 = 336 + n + m + p ∧ hR h 320 17 = 337 + n + m + p + b ∧
  hT h 321 = 101 ∧ hL h 321 = 12 ∧ hT h 322 = 101 ∧ hL h 322 = 4 ∧ hT h 323 = 101 ∧ hL h 323 = 4 ∧ hT h 324 = 101 ∧ hL h 324 = 4 ∧ hT h 325 = 101 ∧ hL h 325 = 4 ∧
  hT h 332 = 109 ∧ hL h 332 = n ∧ hT h (333 + n) = 101 ∧ hL h (333 + n) = m ∧ hT h (334 + n) = 110 ∧ hL h (334 + n) = m ∧ hT h (335 + n + m) = 109 ∧ hL h (335 + n + m) = p ∧ hT h (336 + n + m + p) = 109 ∧ hL h (336 + n + m + p) = b ∧ hT h (337 + n + m + p + b) = 109 ∧ hL h (337 + n + m + p + b) = no ∧
  (∀ i, i < n → hR h 332 i = 333 + i ∧ hT h (333 + i) = 101 ∧ hL h (333 + i) = 3) ∧
  (∀ i, i < p → hR h (335 + n + m) i = 336 + n + m + i ∧ hT h (336 + n + m + i) = 101 ∧ hL h (336 + n + m + i) = 7) ∧
  (∀ i, i < b → hR h (336 + n + m + p) i = 337 + n + m + p + i ∧ hT h (337 + n + m + p + i) = 101 ∧ hL h (337 + n + m + p + i) = 7) ∧
  (∀ i, i < no → hR h (337 + n + m + p + b) i = 338 + n + m + p + b + i ∧ hT h (338 + n + m + p + b + i) = 101 ∧ hL h (338 + n + m + p + b + i) = 8)
section
variable {xA n m p b no : Nat} {h : AH}
theorem SkM.t (k : SkM n m p b no h) : hT h 320 = 13 := k.1
theorem SkM.r7 (k : SkM n m p b no h) : hR h 320 7 = 321 := k.2.1
theorem SkM.r8 (k : SkM n m p b no h) : hR h 320 8 = 322 := k.2.2.1
theorem SkM.r9 (k : SkM n m p b no h) : hR h 320 9 = 323 := k.2.2.2.1
theorem SkM.r10 (k : SkM n m p b no h) : hR h 320 10 = 324 := k.2.2.2.2.1
theorem SkM.r11 (k : SkM n m p b no h) : hR h 320 11 = 325 := k.2.2.2.2.2.1
theorem SkM.r12 (k : SkM n m p b no h) : hR h 320 12 = 332 := k.2.2.2.2.2.2.1
theorem SkM.r13 (k : SkM n m p b no h) : hR h 320 13 = 333 + n := k.2.2.2.2.2.2.2.1
theorem SkM.r14 (k : SkM n m p b no h) : hR h 320 14 = 334 + n := k.2.2.2.2.2.2.2.2.1
theorem SkM.r15 (k : SkM n m p b no h) : hR h 320 15 = 335 + n + m := k.2.2.2.2.2.2.2.2.2.1
theorem SkM.r16 (k : SkM n m p b no h) : hR h 320 16 = 336 + n + m + p := k.2.2.2.2.2.2.2.2.2.2.1
theorem SkM.r17 (k : SkM n m p b no h) : hR h 320 17 = 337 + n + m + p + b := k.2.2.2.2.2.2.2.2.2.2.2.1
theorem SkM.tsh (k : SkM n m p b no h) : hT h 321 = 101 := k.2.2.2.2.2.2.2.2.2.2.2.2.1
theorem SkM.lsh (k : SkM n m p b no h) : hL h 321 = 12 := k.2.2.2.2.2.2.2.2.2.2.2.2.2.1
theorem SkM.tpr (k : SkM n m p b no h) : hT h 322 = 101 := k.2.2.2.2.2.2.2.2.2.2.2.2.2.2.1
theorem SkM.lpr (k : SkM n m p b no h) : hL h 322 = 4 := k.2.2.2.2.2.2.2.2.2.2.2.2.2.2.2.1
theorem SkM.tst (k : SkM n m p b no h) : hT h 323 = 101 := k.2.2.2.2.2.2.2.2.2.2.2.2.2.2.2.2.1
theorem SkM.lst (k : SkM n m p b no h) : hL h 323 = 4 := k.2.2.2.2.2.2.2.2.2.2.2.2.2.2.2.2.2.1
theorem SkM.tgl (k : SkM n m p b no h) : hT h 324 = 101 := k.2.2.2.2.2.2.2.2.2.2.2.2.2.2.2.2.2.2.1
theorem SkM.lgl (k : SkM n m p b no h) : hL h 324 = 4 := k.2.2.2.2.2.2.2.2.2.2.2.2.2.2.2.2.2.2.2.1
theorem SkM.tgo (k : SkM n m p b no h) : hT h 325 = 101 := k.2.2.2.2.2.2.2.2.2.2.2.2.2.2.2.2.2.2.2.2.1
theorem SkM.lgo (k : SkM n m p b no h) : hL h 325 = 4 := k.2.2.2.2.2.2.2.2.2.2.2.2.2.2.2.2.2.2.2.2.2.1
theorem SkM.tga (k : SkM n m p b no h) : hT h 332 = 109 := k.2.2.2.2.2.2.2.2.2.2.2.2.2.2.2.2.2.2.2.2.2.2.1
theorem SkM.lga (k : SkM n m p b no h) : hL h 332 = n := k.2.2.2.2.2.2.2.2.2.2.2.2.2.2.2.2.2.2.2.2.2.2.2.1
theorem SkM.tho (k : SkM n m p b no h) : hT h (333 + n) = 101 := k.2.2.2.2.2.2.2.2.2.2.2.2.2.2.2.2.2.2.2.2.2.2.2.2.1
theorem SkM.lho (k : SkM n m p b no h) : hL h (333 + n) = m := k.2.2.2.2.2.2.2.2.2.2.2.2.2.2.2.2.2.2.2.2.2.2.2.2.2.1
theorem SkM.tra (k : SkM n m p b no h) : hT h (334 + n) = 110 := k.2.2.2.2.2.2.2.2.2.2.2.2.2.2.2.2.2.2.2.2.2.2.2.2.2.2.1
theorem SkM.lra (k : SkM n m p b no h) : hL h (334 + n) = m := k.2.2.2.2.2.2.2.2.2.2.2.2.2.2.2.2.2.2.2.2.2.2.2.2.2.2.2.1
theorem SkM.tpe (k : SkM n m p b no h) : hT h (335 + n + m) = 109 := k.2.2.2.2.2.2.2.2.2.2.2.2.2.2.2.2.2.2.2.2.2.2.2.2.2.2.2.2.1
theorem SkM.lpe (k : SkM n m p b no h) : hL h (335 + n + m) = p := k.2.2.2.2.2.2.2.2.2.2.2.2.2.2.2.2.2.2.2.2.2.2.2.2.2.2.2.2.2.1
theorem SkM.tbo (k : SkM n m p b no h) : hT h (336 + n + m + p) = 109 := k.2.2.2.2.2.2.2.2.2.2.2.2.2.2.2.2.2.2.2.2.2.2.2.2.2.2.2.2.2.2.1
theorem SkM.lbo (k : SkM n m p b no h) : hL h (336 + n + m + p) = b := k.2.2.2.2.2.2.2.2.2.2.2.2.2.2.2.2.2.2.2.2.2.2.2.2.2.2.2.2.2.2.2.1
theorem SkM.tor (k : SkM n m p b no h) : hT h (337 + n + m + p + b) = 109 := k.2.2.2.2.2.2.2.2.2.2.2.2.2.2.2.2.2.2.2.2.2.2.2.2.2.2.2.2.2.2.2.2.1
theorem SkM.lor (k : SkM n m p b no h) : hL h (337 + n + m + p + b) = no := k.2.2.2.2.2.2.2.2.2.2.2.2.2.2.2.2.2.2.2.2.2.2.2.2.2.2.2.2.2.2.2.2.2.1
theorem SkM.gR (k : SkM n m p b no h) {i : Nat} (hi : i < n) : hR h 332 i = 333 + i := (k.2.2.2.2.2.2.2.2.2.2.2.2.2.2.2.2.2.2.2.2.2.2.2.2.2.2.2.2.2.2.2.2.2.2.1 i hi).1
theorem SkM.gT (k : SkM n m p b no h) {i : Nat} (hi : i < n) : hT h (333 + i) = 101 := (k.2.2.2.2.2.2.2.2.2.2.2.2.2.2.2.2.2.2.2.2.2.2.2.2.2.2.2.2.2.2.2.2.2.2.1 i hi).2.1
theorem SkM.gL (k : SkM n m p b no h) {i : Nat} (hi : i < n) : hL h (333 + i) = 3 := (k.2.2.2.2.2.2.2.2.2.2.2.2.2.2.2.2.2.2.2.2.2.2.2.2.2.2.2.2.2.2.2.2.2.2.1 i hi).2.2
theorem SkM.pR (k : SkM n m p b no h) {i : Nat} (hi : i < p) : hR h (335 + n + m) i = 336 + n + m + i := (k.2.2.2.2.2.2.2.2.2.2.2.2.2.2.2.2.2.2.2.2.2.2.2.2.2.2.2.2.2.2.2.2.2.2.2.1 i hi).1
theorem SkM.pT (k : SkM n m p b no h) {i : Nat} (hi : i < p) : hT h (336 + n + m + i) = 101 := (k.2.2.2.2.2.2.2.2.2.2.2.2.2.2.2.2.2.2.2.2.2.2.2.2.2.2.2.2.2.2.2.2.2.2.2.1 i hi).2.1
theorem SkM.pL (k : SkM n m p b no h) {i : Nat} (hi : i < p) : hL h (336 + n + m + i) = 7 := (k.2.2.2.2.2.2.2.2.2.2.2.2.2.2.2.2.2.2.2.2.2.2.2.2.2.2.2.2.2.2.2.2.2.2.2.1 i hi).2.2
theorem SkM.bR (k : SkM n m p b no h) {i : Nat} (hi : i < b) : hR h (336 + n + m + p) i = 337 + n + m + p + i := (k.2.2.2.2.2.2.2.2.2.2.2.2.2.2.2.2.2.2.2.2.2.2.2.2.2.2.2.2.2.2.2.2.2.2.2.2.1 i hi).1
theorem SkM.bT (k : SkM n m p b no h) {i : Nat} (hi : i < b) : hT h (337 + n + m + p + i) = 101 := (k.2.2.2.2.2.2.2.2.2.2.2.2.2.2.2.2.2.2.2.2.2.2.2.2.2.2.2.2.2.2.2.2.2.2.2.2.1 i hi).2.1
theorem SkM.bL (k : SkM n m p b no h) {i : Nat} (hi : i < b) : hL h (337 + n + m + p + i) = 7 := (k.2.2.2.2.2.2.2.2.2.2.2.2.2.2.2.2.2.2.2.2.2.2.2.2.2.2.2.2.2.2.2.2.2.2.2.2.1 i hi).2.2
theorem SkM.oR (k : SkM n m p b no h) {i : Nat} (hi : i < no) : hR h (337 + n + m + p + b) i = 338 + n + m + p + b + i := (k.2.2.2.2.2.2.2.2.2.2.2.2.2.2.2.2.2.2.2.2.2.2.2.2.2.2.2.2.2.2.2.2.2.2.2.2.2 i hi).1
theorem SkM.oT (k : SkM n m p b no h) {i : Nat} (hi : i < no) : hT h (338 + n + m + p + b + i) = 101 := (k.2.2.2.2.2.2.2.2.2.2.2.2.2.2.2.2.2.2.2.2.2.2.2.2.2.2.2.2.2.2.2.2.2.2.2.2.2 i hi).2.1
theorem SkM.oL (k : SkM n m p b no h) {i : Nat} (hi : i < no) : hL h (338 + n + m + p + b + i) = 8 := (k.2.2.2.2.2.2.2.2.2.2.2.2.2.2.2.2.2.2.2.2.2.2.2.2.2.2.2.2.2.2.2.2.2.2.2.2.2 i hi).2.2
end
-- what of the static cells is as the model has it: all but the grade of an empty boat
def PL (g : GM) (c s : Nat) : Prop := ¬ (39 ≤ c ∧ c < 43 ∧ s = 5 ∧ g c 4 = 0)
section
variable {n m p b : Nat} {F : Nat → Nat → Int32} {g : GM} {P : Nat → Nat → Prop}
theorem AgS.hour (h : AgS n m p b P F g) (q : P 0 11) : F 320 0 = iI (g 0 11) := h 0 11 (Or.inl ⟨rfl, by decide, by decide⟩) q
theorem AgS.coins (h : AgS n m p b P F g) (q : P 0 12) : F 320 1 = iI (g 0 12) := h 0 12 (Or.inl ⟨rfl, by decide, by decide⟩) q
theorem AgS.peeled (h : AgS n m p b P F g) (q : P 0 15) : F 320 2 = iI (g 0 15) := h 0 15 (Or.inl ⟨rfl, by decide, by decide⟩) q
theorem AgS.sold (h : AgS n m p b P F g) (q : P 0 16) : F 320 3 = iI (g 0 16) := h 0 16 (Or.inl ⟨rfl, by decide, by decide⟩) q
theorem AgS.done (h : AgS n m p b P F g) (q : P 0 17) : F 320 4 = iI (g 0 17) := h 0 17 (Or.inl ⟨rfl, by decide, by decide⟩) q
theorem AgS.miles (h : AgS n m p b P F g) (q : P 0 13) : F 320 5 = iI (g 0 13) := h 0 13 (Or.inl ⟨rfl, by decide, by decide⟩) q
theorem AgS.current (h : AgS n m p b P F g) (q : P 0 14) : F 320 6 = iI (g 0 14) := h 0 14 (Or.inl ⟨rfl, by decide, by decide⟩) q
theorem AgS.sh (h : AgS n m p b P F g) {s : Nat} (hs : s < 12) (q : P 6 s) : F 321 s = iI (g 6 s) := h 6 s (Or.inr (Or.inl ⟨rfl, hs⟩)) q
theorem AgS.ga (h : AgS n m p b P F g) {i s : Nat} (h4 : i < 4) (hi : i < n) (hs : s < 3) (q : P (7 + i) s) : F (333 + i) s = iI (g (7 + i) s) := by
  have k := h (7 + i) s (Or.inr (Or.inr (Or.inl ⟨by omega, by omega, hs⟩))) q
  rw [sA_g h4, sS_g h4] at k
  exact k
theorem AgS.ho (h : AgS n m p b P F g) {i : Nat} (h4 : i < 4) (hi : i < m) (q : P (11 + 5 * i) 0) : F (333 + n) i = iI (g (11 + 5 * i) 0) := by
  have k := h (11 + 5 * i) 0 (Or.inr (Or.inr (Or.inr (Or.inl ⟨by omega, by omega, by omega, rfl⟩)))) q
  rw [sA_h h4, sS_h h4] at k
  exact k
theorem AgS.pe (h : AgS n m p b P F g) {i s : Nat} (h8 : i < 8) (hi : i < p) (hs : s < 7) (q : P (31 + i) s) : F (336 + n + m + i) s = iI (g (31 + i) s) := by
  have k := h (31 + i) s (Or.inr (Or.inr (Or.inr (Or.inr (Or.inl ⟨by omega, by omega, hs⟩))))) q
  rw [sA_p h8, sS_p h8] at k
  exact k
theorem AgS.bo (h : AgS n m p b P F g) {i s : Nat} (h4 : i < 4) (hi : i < b) (hs : s < 7) (q : P (39 + i) s) : F (337 + n + m + p + i) s = iI (g (39 + i) s) := by
  have k := h (39 + i) s (Or.inr (Or.inr (Or.inr (Or.inr (Or.inr (Or.inl ⟨by omega, by omega, hs⟩)))))) q
  rw [sA_b h4, sS_b h4] at k
  exact k
theorem AgS.st (h : AgS n m p b P F g) {k : Nat} (hk : k < 4) (q : P (43 + k) 0) : F 323 k = iI (g (43 + k) 0) := by
  have e := h (43 + k) 0 (Or.inr (Or.inr (Or.inr (Or.inr (Or.inr (Or.inr ⟨by omega, by omega, by decide⟩)))))) q
  rw [sA_q, sS_q] at e
  exact e
theorem AgS.pr (h : AgS n m p b P F g) {k : Nat} (hk : k < 4) (q : P (43 + k) 1) : F 322 k = iI (g (43 + k) 1) := by
  have e := h (43 + k) 1 (Or.inr (Or.inr (Or.inr (Or.inr (Or.inr (Or.inr ⟨by omega, by omega, by decide⟩)))))) q
  rw [sA_q, sS_q] at e
  exact e
theorem AgS.gl (h : AgS n m p b P F g) {k : Nat} (hk : k < 4) (q : P (43 + k) 2) : F 324 k = iI (g (43 + k) 2) := by
  have e := h (43 + k) 2 (Or.inr (Or.inr (Or.inr (Or.inr (Or.inr (Or.inr ⟨by omega, by omega, by decide⟩)))))) q
  rw [sA_q, sS_q] at e
  exact e
theorem AgS.go (h : AgS n m p b P F g) {k : Nat} (hk : k < 4) (q : P (43 + k) 3) : F 325 k = iI (g (43 + k) 3) := by
  have e := h (43 + k) 3 (Or.inr (Or.inr (Or.inr (Or.inr (Or.inr (Or.inr ⟨by omega, by omega, by decide⟩)))))) q
  rw [sA_q, sS_q] at e
  exact e
end
-- one rack's bundles: rows of 4 ints
def tp (n m p b no : Nat) : Nat := 338 + n + m + p + b + no
def SB1 (n m p b no k : Nat) (h : AH) (g : GM) : Prop := hT h (hR h (334 + n) k) = 109 ∧ hL h (hR h (334 + n) k) = (mct g k).toNat ∧ hR h (334 + n) k < hN h ∧ 335 + n ≤ hR h (334 + n) k ∧
  ∀ j : Nat, (j : Int) < mct g k → hT h (hR h (hR h (334 + n) k) j) = 101 ∧ hL h (hR h (hR h (334 + n) k) j) = 4 ∧ tp n m p b no ≤ hR h (hR h (334 + n) k) j ∧ hR h (hR h (334 + n) k) j < hN h ∧ hI h (hR h (hR h (334 + n) k) j) 0 = iI (g (12 + 5 * k) j) ∧ hI h (hR h (hR h (334 + n) k) j) 1 = iI (g (13 + 5 * k) j) ∧ hI h (hR h (hR h (334 + n) k) j) 2 = iI (g (14 + 5 * k) j) ∧ hI h (hR h (hR h (334 + n) k) j) 3 = iI (g (15 + 5 * k) j)
def SBd (n m : Nat) (h : AH) (g : GM) : Prop := ∀ k k' j j' : Nat, k < m → k' < m → (j : Int) < mct g k → (j' : Int) < mct g k' → hR h (hR h (334 + n) k) j = hR h (hR h (334 + n) k') j' → k = k' ∧ j = j'
def SOr (n m p b no : Nat) (O : Nat → Nat → Int) (F : Nat → Nat → Int32) : Prop := ∀ i, i < no → ∀ s, s < 8 → F (338 + n + m + p + b + i) s = iI (O i s)
-- a place beside it, that the sim lets be (or none: below 320)
def Sx (xA n m p b no : Nat) (h : AH) (g : GM) : Prop := (xA < 320 ∨ (tp n m p b no ≤ xA ∧ xA < hN h)) ∧ ∀ k, k < m → ∀ j : Nat, (j : Int) < mct g k → hR h (hR h (334 + n) k) j ≠ xA
def Sm (xA n m p b no : Nat) (O : Nat → Nat → Int) (h : AH) (g : GM) : Prop := SkM n m p b no h ∧ AgS n m p b (PL g) (hI h) g ∧ (∀ k, k < m → SB1 n m p b no k h g) ∧ SBd n m h g ∧ SOr n m p b no O (hI h) ∧ tp n m p b no ≤ hN h ∧ Sx xA n m p b no h g
theorem Sm.ax {xA n m p b no : Nat} {O : Nat → Nat → Int} {h : AH} {g : GM} (hs : Sm xA n m p b no O h g) : xA < 320 ∨ 338 + n + m + p + b + no ≤ xA := by
  rcases hs.2.2.2.2.2.2.1 with k | k
  · exact Or.inl k
  · exact Or.inr k.1

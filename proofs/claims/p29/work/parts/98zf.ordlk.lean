/-! 98zf L3: orders looked at (written by l3/gen98zf.py) -/
section
variable {ts : List Tok} {L0 : Nat} {M : GM} {P : Nat} {n m p b : Nat}
def Nb (n m p b : Nat) (M : GM) : Prop := (M 0 6 = (n : Int) ∧ M 0 7 = (m : Int) ∧ M 0 8 = (p : Int) ∧ M 0 9 = (b : Int)) ∧ (n < 10 ∧ m < 10 ∧ p < 10 ∧ b < 10) ∧ 1 ≤ n ∧ 1 ≤ m ∧ 1 ≤ p ∧ 1 ≤ b
theorem nlW0 {w6 w7 : Nat} (c : Nb n m p b M) (s : Seg ts P (tkW n m p b 0 w6 w7)) : NL ts L0 M P 4 M := by
  have hg : w6 % 4 < 4 := Nat.mod_lt _ (by decide)
  have a0 := NL.one (L0 := L0) (M := M) (s 0 _ rfl) (show (26 : Nat) < 57 by decide) (laSkip (s 0 _ rfl) (show (26 : Nat) < 100 ∧ ¬ (18 ≤ 26 ∧ 26 ≤ 23) ∧ 26 ≠ 25 ∧ 26 ≠ 55 ∧ 26 ≠ 56 by decide))
  have a1 := NL.one (L0 := L0) (M := M) (s 1 _ rfl) (show (27 : Nat) < 57 by decide) (laSkip (s 1 _ rfl) (show (27 : Nat) < 100 ∧ ¬ (18 ≤ 27 ∧ 27 ≤ 23) ∧ 27 ≠ 25 ∧ 27 ≠ 55 ∧ 27 ≠ 56 by decide))
  have a2 := NL.one (L0 := L0) (M := M) (s 2 _ rfl) (show (54 : Nat) < 57 by decide) (laSkip (s 2 _ rfl) (show (54 : Nat) < 100 ∧ ¬ (18 ≤ 54 ∧ 54 ≤ 23) ∧ 54 ≠ 25 ∧ 54 ≠ 55 ∧ 54 ≠ 56 by decide))
  have a3 := NL.one (L0 := L0) (M := M) (s 3 _ rfl) (show (56 : Nat) < 57 by decide) (laNo (s 3 _ rfl) rfl (s 2 _ rfl) rfl (show 22 ≤ 54 by decide) (show 54 < 100 by decide))
  exact (((a0.trans a1).trans a2).trans a3)
theorem nlW1 {w6 w7 : Nat} (c : Nb n m p b M) (s : Seg ts P (tkW n m p b 1 w6 w7)) : NL ts L0 M P 5 M := by
  have hg : w6 % 4 < 4 := Nat.mod_lt _ (by decide)
  have a0 := NL.one (L0 := L0) (M := M) (s 0 _ rfl) (show (26 : Nat) < 57 by decide) (laSkip (s 0 _ rfl) (show (26 : Nat) < 100 ∧ ¬ (18 ≤ 26 ∧ 26 ≤ 23) ∧ 26 ≠ 25 ∧ 26 ≠ 55 ∧ 26 ≠ 56 by decide))
  have a1 := NL.one (L0 := L0) (M := M) (s 1 _ rfl) (show (29 : Nat) < 57 by decide) (laSkip (s 1 _ rfl) (show (29 : Nat) < 100 ∧ ¬ (18 ≤ 29 ∧ 29 ≤ 23) ∧ 29 ≠ 25 ∧ 29 ≠ 55 ∧ 29 ≠ 56 by decide))
  have a2 := NL.one (L0 := L0) (M := M) (s 2 _ rfl) (show (55 : Nat) < 57 by decide) (laF29 (x := p) (v := w6 % p) (s 2 _ rfl) rfl (s 1 _ rfl) rfl rfl rfl c.1.2.2.1 (Nat.mod_lt _ (by have := c.2; omega)) (by have := Nat.mod_lt w6 (show p > 0 by have := c.2; omega); have := c.2; omega))
  have a3 := NL.one (L0 := L0) (M := M) (s 3 _ rfl) (show (50 : Nat) < 57 by decide) (laSkip (s 3 _ rfl) (show (50 : Nat) < 100 ∧ ¬ (18 ≤ 50 ∧ 50 ≤ 23) ∧ 50 ≠ 25 ∧ 50 ≠ 55 ∧ 50 ≠ 56 by decide))
  have a4 := NL.one (L0 := L0) (M := M) (s 4 _ rfl) (show (56 : Nat) < 57 by decide) (laNo (s 4 _ rfl) rfl (s 3 _ rfl) rfl (show 22 ≤ 50 by decide) (show 50 < 100 by decide))
  exact ((((a0.trans a1).trans a2).trans a3).trans a4)
theorem nlW2 {w6 w7 : Nat} (c : Nb n m p b M) (s : Seg ts P (tkW n m p b 2 w6 w7)) : NL ts L0 M P 3 M := by
  have hg : w6 % 4 < 4 := Nat.mod_lt _ (by decide)
  have a0 := NL.one (L0 := L0) (M := M) (s 0 _ rfl) (show (26 : Nat) < 57 by decide) (laSkip (s 0 _ rfl) (show (26 : Nat) < 100 ∧ ¬ (18 ≤ 26 ∧ 26 ≤ 23) ∧ 26 ≠ 25 ∧ 26 ≠ 55 ∧ 26 ≠ 56 by decide))
  have a1 := NL.one (L0 := L0) (M := M) (s 1 _ rfl) (show (34 : Nat) < 57 by decide) (laSkip (s 1 _ rfl) (show (34 : Nat) < 100 ∧ ¬ (18 ≤ 34 ∧ 34 ≤ 23) ∧ 34 ≠ 25 ∧ 34 ≠ 55 ∧ 34 ≠ 56 by decide))
  have a2 := NL.one (L0 := L0) (M := M) (s 2 _ rfl) (show (55 : Nat) < 57 by decide) (laF34 (x := p) (v := w6 % p) (s 2 _ rfl) rfl (s 1 _ rfl) rfl rfl rfl c.1.2.2.1 (Nat.mod_lt _ (by have := c.2; omega)) (by have := Nat.mod_lt w6 (show p > 0 by have := c.2; omega); have := c.2; omega))
  exact ((a0.trans a1).trans a2)
theorem nlW3 {w6 w7 : Nat} (c : Nb n m p b M) (s : Seg ts P (tkW n m p b 3 w6 w7)) : NL ts L0 M P 4 M := by
  have hg : w6 % 4 < 4 := Nat.mod_lt _ (by decide)
  have a0 := NL.one (L0 := L0) (M := M) (s 0 _ rfl) (show (26 : Nat) < 57 by decide) (laSkip (s 0 _ rfl) (show (26 : Nat) < 100 ∧ ¬ (18 ≤ 26 ∧ 26 ≤ 23) ∧ 26 ≠ 25 ∧ 26 ≠ 55 ∧ 26 ≠ 56 by decide))
  have a1 := NL.one (L0 := L0) (M := M) (s 1 _ rfl) (show (35 : Nat) < 57 by decide) (laSkip (s 1 _ rfl) (show (35 : Nat) < 100 ∧ ¬ (18 ≤ 35 ∧ 35 ≤ 23) ∧ 35 ≠ 25 ∧ 35 ≠ 55 ∧ 35 ≠ 56 by decide))
  have a2 := NL.one (L0 := L0) (M := M) (s 2 _ rfl) (show (33 : Nat) < 57 by decide) (laSkip (s 2 _ rfl) (show (33 : Nat) < 100 ∧ ¬ (18 ≤ 33 ∧ 33 ≤ 23) ∧ 33 ≠ 25 ∧ 33 ≠ 55 ∧ 33 ≠ 56 by decide))
  have a3 := NL.one (L0 := L0) (M := M) (s 3 _ rfl) (show (55 : Nat) < 57 by decide) (laF33 (x := b) (v := w6 % b) (s 3 _ rfl) rfl (s 2 _ rfl) rfl rfl rfl c.1.2.2.2 (Nat.mod_lt _ (by have := c.2; omega)) (by have := Nat.mod_lt w6 (show b > 0 by have := c.2; omega); have := c.2; omega))
  exact (((a0.trans a1).trans a2).trans a3)
theorem nlW4 {w6 w7 : Nat} (c : Nb n m p b M) (s : Seg ts P (tkW n m p b 4 w6 w7)) : NL ts L0 M P 6 M := by
  have hg : w6 % 4 < 4 := Nat.mod_lt _ (by decide)
  have a0 := NL.one (L0 := L0) (M := M) (s 0 _ rfl) (show (26 : Nat) < 57 by decide) (laSkip (s 0 _ rfl) (show (26 : Nat) < 100 ∧ ¬ (18 ≤ 26 ∧ 26 ≤ 23) ∧ 26 ≠ 25 ∧ 26 ≠ 55 ∧ 26 ≠ 56 by decide))
  have a1 := NL.one (L0 := L0) (M := M) (s 1 _ rfl) (show (28 : Nat) < 57 by decide) (laSkip (s 1 _ rfl) (show (28 : Nat) < 100 ∧ ¬ (18 ≤ 28 ∧ 28 ≤ 23) ∧ 28 ≠ 25 ∧ 28 ≠ 55 ∧ 28 ≠ 56 by decide))
  have a2 := NL.one (L0 := L0) (M := M) (s 2 _ rfl) (show (47 : Nat) < 57 by decide) (laSkip (s 2 _ rfl) (show (47 : Nat) < 100 ∧ ¬ (18 ≤ 47 ∧ 47 ≤ 23) ∧ 47 ≠ 25 ∧ 47 ≠ 55 ∧ 47 ≠ 56 by decide))
  have a3 := NL.one (L0 := L0) (M := M) (s 3 _ rfl) (show (56 : Nat) < 57 by decide) (laNo (s 3 _ rfl) rfl (s 2 _ rfl) rfl (show 22 ≤ 47 by decide) (show 47 < 100 by decide))
  have a4 := NL.one (L0 := L0) (M := M) (s 4 _ rfl) (show (54 : Nat) < 57 by decide) (laSkip (s 4 _ rfl) (show (54 : Nat) < 100 ∧ ¬ (18 ≤ 54 ∧ 54 ≤ 23) ∧ 54 ≠ 25 ∧ 54 ≠ 55 ∧ 54 ≠ 56 by decide))
  have a5 := NL.one (L0 := L0) (M := M) (s 5 _ rfl) (show (56 : Nat) < 57 by decide) (laNo (s 5 _ rfl) rfl (s 4 _ rfl) rfl (show 22 ≤ 54 by decide) (show 54 < 100 by decide))
  exact (((((a0.trans a1).trans a2).trans a3).trans a4).trans a5)
theorem nlW5 {w6 w7 : Nat} (c : Nb n m p b M) (s : Seg ts P (tkW n m p b 5 w6 w7)) : NL ts L0 M P 10 M := by
  have hg : w6 % 4 < 4 := Nat.mod_lt _ (by decide)
  have a0 := NL.one (L0 := L0) (M := M) (s 0 _ rfl) (show (26 : Nat) < 57 by decide) (laSkip (s 0 _ rfl) (show (26 : Nat) < 100 ∧ ¬ (18 ≤ 26 ∧ 26 ≤ 23) ∧ 26 ≠ 25 ∧ 26 ≠ 55 ∧ 26 ≠ 56 by decide))
  have a1 := NL.one (L0 := L0) (M := M) (s 1 _ rfl) (show (30 : Nat) < 57 by decide) (laSkip (s 1 _ rfl) (show (30 : Nat) < 100 ∧ ¬ (18 ≤ 30 ∧ 30 ≤ 23) ∧ 30 ≠ 25 ∧ 30 ≠ 55 ∧ 30 ≠ 56 by decide))
  have a2 := NL.one (L0 := L0) (M := M) (s 2 _ rfl) (show (55 : Nat) < 57 by decide) (laF30 (x := m) (v := w6 % m) (s 2 _ rfl) rfl (s 1 _ rfl) rfl rfl rfl c.1.2.1 (Nat.mod_lt _ (by have := c.2; omega)) (by have := Nat.mod_lt w6 (show m > 0 by have := c.2; omega); have := c.2; omega))
  have a3 := NL.one (L0 := L0) (M := M) (s 3 _ rfl) (show (51 : Nat) < 57 by decide) (laSkip (s 3 _ rfl) (show (51 : Nat) < 100 ∧ ¬ (18 ≤ 51 ∧ 51 ≤ 23) ∧ 51 ≠ 25 ∧ 51 ≠ 55 ∧ 51 ≠ 56 by decide))
  have a4 := NL.one (L0 := L0) (M := M) (s 4 _ rfl) (show (56 : Nat) < 57 by decide) (laNo (s 4 _ rfl) rfl (s 3 _ rfl) rfl (show 22 ≤ 51 by decide) (show 51 < 100 by decide))
  have a5 := NL.one (L0 := L0) (M := M) (s 5 _ rfl) (show (37 : Nat) < 57 by decide) (laSkip (s 5 _ rfl) (show (37 : Nat) < 100 ∧ ¬ (18 ≤ 37 ∧ 37 ≤ 23) ∧ 37 ≠ 25 ∧ 37 ≠ 55 ∧ 37 ≠ 56 by decide))
  have a6 := NL.one (L0 := L0) (M := M) (s 6 _ rfl) (show (31 : Nat) < 57 by decide) (laSkip (s 6 _ rfl) (show (31 : Nat) < 100 ∧ ¬ (18 ≤ 31 ∧ 31 ≤ 23) ∧ 31 ≠ 25 ∧ 31 ≠ 55 ∧ 31 ≠ 56 by decide))
  have a7 := NL.one (L0 := L0) (M := M) (s 7 _ rfl) (show 18 + (w6 % 4) < 57 by omega) (laGrade (s 7 _ rfl) (gr4 hg))
  have a8 := NL.one (L0 := L0) (M := M) (s 8 _ rfl) (show (50 : Nat) < 57 by decide) (laSkip (s 8 _ rfl) (show (50 : Nat) < 100 ∧ ¬ (18 ≤ 50 ∧ 50 ≤ 23) ∧ 50 ≠ 25 ∧ 50 ≠ 55 ∧ 50 ≠ 56 by decide))
  have a9 := NL.one (L0 := L0) (M := M) (s 9 _ rfl) (show (56 : Nat) < 57 by decide) (laNo (s 9 _ rfl) rfl (s 8 _ rfl) rfl (show 22 ≤ 50 by decide) (show 50 < 100 by decide))
  exact (((((((((a0.trans a1).trans a2).trans a3).trans a4).trans a5).trans a6).trans a7).trans a8).trans a9)
theorem nlW6 {w6 w7 : Nat} (c : Nb n m p b M) (s : Seg ts P (tkW n m p b 6 w6 w7)) : NL ts L0 M P 13 M := by
  have hg : w6 % 4 < 4 := Nat.mod_lt _ (by decide)
  have a0 := NL.one (L0 := L0) (M := M) (s 0 _ rfl) (show (26 : Nat) < 57 by decide) (laSkip (s 0 _ rfl) (show (26 : Nat) < 100 ∧ ¬ (18 ≤ 26 ∧ 26 ≤ 23) ∧ 26 ≠ 25 ∧ 26 ≠ 55 ∧ 26 ≠ 56 by decide))
  have a1 := NL.one (L0 := L0) (M := M) (s 1 _ rfl) (show (42 : Nat) < 57 by decide) (laSkip (s 1 _ rfl) (show (42 : Nat) < 100 ∧ ¬ (18 ≤ 42 ∧ 42 ≤ 23) ∧ 42 ≠ 25 ∧ 42 ≠ 55 ∧ 42 ≠ 56 by decide))
  have a2 := NL.one (L0 := L0) (M := M) (s 2 _ rfl) (show (35 : Nat) < 57 by decide) (laSkip (s 2 _ rfl) (show (35 : Nat) < 100 ∧ ¬ (18 ≤ 35 ∧ 35 ≤ 23) ∧ 35 ≠ 25 ∧ 35 ≠ 55 ∧ 35 ≠ 56 by decide))
  have a3 := NL.one (L0 := L0) (M := M) (s 3 _ rfl) (show (2 : Nat) < 57 by decide) (laSkip (s 3 _ rfl) (show (2 : Nat) < 100 ∧ ¬ (18 ≤ 2 ∧ 2 ≤ 23) ∧ 2 ≠ 25 ∧ 2 ≠ 55 ∧ 2 ≠ 56 by decide))
  have a4 := NL.one (L0 := L0) (M := M) (s 4 _ rfl) (show (55 : Nat) < 57 by decide) (laF2 (x := n) (v := w6 % n) (s 4 _ rfl) rfl (s 3 _ rfl) rfl rfl rfl c.1.1 (Nat.mod_lt _ (by have := c.2; omega)) (by have := Nat.mod_lt w6 (show n > 0 by have := c.2; omega); have := c.2; omega))
  have a5 := NL.one (L0 := L0) (M := M) (s 5 _ rfl) (show (50 : Nat) < 57 by decide) (laSkip (s 5 _ rfl) (show (50 : Nat) < 100 ∧ ¬ (18 ≤ 50 ∧ 50 ≤ 23) ∧ 50 ≠ 25 ∧ 50 ≠ 55 ∧ 50 ≠ 56 by decide))
  have a6 := NL.one (L0 := L0) (M := M) (s 6 _ rfl) (show (56 : Nat) < 57 by decide) (laNo (s 6 _ rfl) rfl (s 5 _ rfl) rfl (show 22 ≤ 50 by decide) (show 50 < 100 by decide))
  have a7 := NL.one (L0 := L0) (M := M) (s 7 _ rfl) (show (43 : Nat) < 57 by decide) (laSkip (s 7 _ rfl) (show (43 : Nat) < 100 ∧ ¬ (18 ≤ 43 ∧ 43 ≤ 23) ∧ 43 ≠ 25 ∧ 43 ≠ 55 ∧ 43 ≠ 56 by decide))
  have a8 := NL.one (L0 := L0) (M := M) (s 8 _ rfl) (show (36 : Nat) < 57 by decide) (laSkip (s 8 _ rfl) (show (36 : Nat) < 100 ∧ ¬ (18 ≤ 36 ∧ 36 ≤ 23) ∧ 36 ≠ 25 ∧ 36 ≠ 55 ∧ 36 ≠ 56 by decide))
  have a9 := NL.one (L0 := L0) (M := M) (s 9 _ rfl) (show (17 : Nat) < 57 by decide) (laSkip (s 9 _ rfl) (show (17 : Nat) < 100 ∧ ¬ (18 ≤ 17 ∧ 17 ≤ 23) ∧ 17 ≠ 25 ∧ 17 ≠ 55 ∧ 17 ≠ 56 by decide))
  have a10 := NL.one (L0 := L0) (M := M) (s 10 _ rfl) (show 18 + (w6 % 4) < 57 by omega) (laGrade (s 10 _ rfl) (gr4 hg))
  have a11 := NL.one (L0 := L0) (M := M) (s 11 _ rfl) (show (54 : Nat) < 57 by decide) (laSkip (s 11 _ rfl) (show (54 : Nat) < 100 ∧ ¬ (18 ≤ 54 ∧ 54 ≤ 23) ∧ 54 ≠ 25 ∧ 54 ≠ 55 ∧ 54 ≠ 56 by decide))
  have a12 := NL.one (L0 := L0) (M := M) (s 12 _ rfl) (show (56 : Nat) < 57 by decide) (laNo (s 12 _ rfl) rfl (s 11 _ rfl) rfl (show 22 ≤ 54 by decide) (show 54 < 100 by decide))
  exact ((((((((((((a0.trans a1).trans a2).trans a3).trans a4).trans a5).trans a6).trans a7).trans a8).trans a9).trans a10).trans a11).trans a12)
theorem nlW7 {w6 w7 : Nat} (c : Nb n m p b M) (s : Seg ts P (tkW n m p b 7 w6 w7)) : NL ts L0 M P 5 M := by
  have hg : w6 % 4 < 4 := Nat.mod_lt _ (by decide)
  have a0 := NL.one (L0 := L0) (M := M) (s 0 _ rfl) (show (26 : Nat) < 57 by decide) (laSkip (s 0 _ rfl) (show (26 : Nat) < 100 ∧ ¬ (18 ≤ 26 ∧ 26 ≤ 23) ∧ 26 ≠ 25 ∧ 26 ≠ 55 ∧ 26 ≠ 56 by decide))
  have a1 := NL.one (L0 := L0) (M := M) (s 1 _ rfl) (show (32 : Nat) < 57 by decide) (laSkip (s 1 _ rfl) (show (32 : Nat) < 100 ∧ ¬ (18 ≤ 32 ∧ 32 ≤ 23) ∧ 32 ≠ 25 ∧ 32 ≠ 55 ∧ 32 ≠ 56 by decide))
  have a2 := NL.one (L0 := L0) (M := M) (s 2 _ rfl) (show (55 : Nat) < 57 by decide) (laF32 (x := b) (v := w6 % b) (s 2 _ rfl) rfl (s 1 _ rfl) rfl rfl rfl c.1.2.2.2 (Nat.mod_lt _ (by have := c.2; omega)) (by have := Nat.mod_lt w6 (show b > 0 by have := c.2; omega); have := c.2; omega))
  have a3 := NL.one (L0 := L0) (M := M) (s 3 _ rfl) (show (53 : Nat) < 57 by decide) (laSkip (s 3 _ rfl) (show (53 : Nat) < 100 ∧ ¬ (18 ≤ 53 ∧ 53 ≤ 23) ∧ 53 ≠ 25 ∧ 53 ≠ 55 ∧ 53 ≠ 56 by decide))
  have a4 := NL.one (L0 := L0) (M := M) (s 4 _ rfl) (show (56 : Nat) < 57 by decide) (laNo (s 4 _ rfl) rfl (s 3 _ rfl) rfl (show 22 ≤ 53 by decide) (show 53 < 100 by decide))
  exact ((((a0.trans a1).trans a2).trans a3).trans a4)
theorem nlW8 {w6 w7 : Nat} (c : Nb n m p b M) (s : Seg ts P (tkW n m p b 8 w6 w7)) : NL ts L0 M P 4 M := by
  have hg : w6 % 4 < 4 := Nat.mod_lt _ (by decide)
  have a0 := NL.one (L0 := L0) (M := M) (s 0 _ rfl) (show (26 : Nat) < 57 by decide) (laSkip (s 0 _ rfl) (show (26 : Nat) < 100 ∧ ¬ (18 ≤ 26 ∧ 26 ≤ 23) ∧ 26 ≠ 25 ∧ 26 ≠ 55 ∧ 26 ≠ 56 by decide))
  have a1 := NL.one (L0 := L0) (M := M) (s 1 _ rfl) (show (56 : Nat) < 57 by decide) (laNo (s 1 _ rfl) rfl (s 0 _ rfl) rfl (show 22 ≤ 26 by decide) (show 26 < 100 by decide))
  have a2 := NL.one (L0 := L0) (M := M) (s 2 _ rfl) (show (52 : Nat) < 57 by decide) (laSkip (s 2 _ rfl) (show (52 : Nat) < 100 ∧ ¬ (18 ≤ 52 ∧ 52 ≤ 23) ∧ 52 ≠ 25 ∧ 52 ≠ 55 ∧ 52 ≠ 56 by decide))
  have a3 := NL.one (L0 := L0) (M := M) (s 3 _ rfl) (show (56 : Nat) < 57 by decide) (laNo (s 3 _ rfl) rfl (s 2 _ rfl) rfl (show 22 ≤ 52 by decide) (show 52 < 100 by decide))
  exact (((a0.trans a1).trans a2).trans a3)
theorem nlW {w5 w6 w7 : Nat} (h5 : w5 < 9) (c : Nb n m p b M) (s : Seg ts P (tkW n m p b w5 w6 w7)) : NL ts L0 M P (tkW n m p b w5 w6 w7).length M := by
  rcases (show w5 = 0 ∨ w5 = 1 ∨ w5 = 2 ∨ w5 = 3 ∨ w5 = 4 ∨ w5 = 5 ∨ w5 = 6 ∨ w5 = 7 ∨ w5 = 8 by omega) with rfl | rfl | rfl | rfl | rfl | rfl | rfl | rfl | rfl
  · exact nlW0 c s
  · exact nlW1 c s
  · exact nlW2 c s
  · exact nlW3 c s
  · exact nlW4 c s
  · exact nlW5 c s
  · exact nlW6 c s
  · exact nlW7 c s
  · exact nlW8 c s
theorem nlS0 {w2 w4 : Nat} {e : List Nat} (hg : w2 < 4) (s : Seg ts P ((24, 0, [32]) :: tkS w2 0 w4 e)) : NL ts L0 M P 2 M := by
  have a0 := NL.one (L0 := L0) (M := M) (s 0 _ rfl) (show (24 : Nat) < 57 by decide) (laSkip (s 0 _ rfl) (show (24 : Nat) < 100 ∧ ¬ (18 ≤ 24 ∧ 24 ≤ 23) ∧ 24 ≠ 25 ∧ 24 ≠ 55 ∧ 24 ≠ 56 by decide))
  have a1 := NL.one (L0 := L0) (M := M) (s 1 _ rfl) (show (56 : Nat) < 57 by decide) (laNo (s 1 _ rfl) rfl (s 0 _ rfl) rfl (show 22 ≤ 24 by decide) (show 24 < 100 by decide))
  exact (a0.trans a1)
theorem nlS1 {w2 w4 : Nat} {e : List Nat} (hg : w2 < 4) (s : Seg ts P ((24, 0, [32]) :: tkS w2 1 w4 e)) : NL ts L0 M P 5 M := by
  have a0 := NL.one (L0 := L0) (M := M) (s 0 _ rfl) (show (24 : Nat) < 57 by decide) (laSkip (s 0 _ rfl) (show (24 : Nat) < 100 ∧ ¬ (18 ≤ 24 ∧ 24 ≤ 23) ∧ 24 ≠ 25 ∧ 24 ≠ 55 ∧ 24 ≠ 56 by decide))
  have a1 := NL.one (L0 := L0) (M := M) (s 1 _ rfl) (show (31 : Nat) < 57 by decide) (laSkip (s 1 _ rfl) (show (31 : Nat) < 100 ∧ ¬ (18 ≤ 31 ∧ 31 ≤ 23) ∧ 31 ≠ 25 ∧ 31 ≠ 55 ∧ 31 ≠ 56 by decide))
  have a2 := NL.one (L0 := L0) (M := M) (s 2 _ rfl) (show 18 + w2 < 57 by omega) (laGrade (s 2 _ rfl) (gr4 hg))
  have a3 := NL.one (L0 := L0) (M := M) (s 3 _ rfl) (show (47 : Nat) < 57 by decide) (laSkip (s 3 _ rfl) (show (47 : Nat) < 100 ∧ ¬ (18 ≤ 47 ∧ 47 ≤ 23) ∧ 47 ≠ 25 ∧ 47 ≠ 55 ∧ 47 ≠ 56 by decide))
  have a4 := NL.one (L0 := L0) (M := M) (s 4 _ rfl) (show (56 : Nat) < 57 by decide) (laNo (s 4 _ rfl) rfl (s 3 _ rfl) rfl (show 22 ≤ 47 by decide) (show 47 < 100 by decide))
  exact ((((a0.trans a1).trans a2).trans a3).trans a4)
theorem nlS2 {w2 w4 : Nat} {e : List Nat} (hg : w2 < 4) (s : Seg ts P ((24, 0, [32]) :: tkS w2 2 w4 e)) : NL ts L0 M P 10 M := by
  have a0 := NL.one (L0 := L0) (M := M) (s 0 _ rfl) (show (24 : Nat) < 57 by decide) (laSkip (s 0 _ rfl) (show (24 : Nat) < 100 ∧ ¬ (18 ≤ 24 ∧ 24 ≤ 23) ∧ 24 ≠ 25 ∧ 24 ≠ 55 ∧ 24 ≠ 56 by decide))
  have a1 := NL.one (L0 := L0) (M := M) (s 1 _ rfl) (show (39 : Nat) < 57 by decide) (laSkip (s 1 _ rfl) (show (39 : Nat) < 100 ∧ ¬ (18 ≤ 39 ∧ 39 ≤ 23) ∧ 39 ≠ 25 ∧ 39 ≠ 55 ∧ 39 ≠ 56 by decide))
  have a2 := NL.one (L0 := L0) (M := M) (s 2 _ rfl) (show (40 : Nat) < 57 by decide) (laSkip (s 2 _ rfl) (show (40 : Nat) < 100 ∧ ¬ (18 ≤ 40 ∧ 40 ≤ 23) ∧ 40 ≠ 25 ∧ 40 ≠ 55 ∧ 40 ≠ 56 by decide))
  have a3 := NL.one (L0 := L0) (M := M) (s 3 _ rfl) (show (31 : Nat) < 57 by decide) (laSkip (s 3 _ rfl) (show (31 : Nat) < 100 ∧ ¬ (18 ≤ 31 ∧ 31 ≤ 23) ∧ 31 ≠ 25 ∧ 31 ≠ 55 ∧ 31 ≠ 56 by decide))
  have a4 := NL.one (L0 := L0) (M := M) (s 4 _ rfl) (show 18 + w2 < 57 by omega) (laGrade (s 4 _ rfl) (gr4 hg))
  have a5 := NL.one (L0 := L0) (M := M) (s 5 _ rfl) (show (49 : Nat) < 57 by decide) (laSkip (s 5 _ rfl) (show (49 : Nat) < 100 ∧ ¬ (18 ≤ 49 ∧ 49 ≤ 23) ∧ 49 ≠ 25 ∧ 49 ≠ 55 ∧ 49 ≠ 56 by decide))
  have a6 := NL.one (L0 := L0) (M := M) (s 6 _ rfl) (show (56 : Nat) < 57 by decide) (laNo (s 6 _ rfl) rfl (s 5 _ rfl) rfl (show 22 ≤ 49 by decide) (show 49 < 100 by decide))
  have a7 := NL.one (L0 := L0) (M := M) (s 7 _ rfl) (show (45 : Nat) < 57 by decide) (laSkip (s 7 _ rfl) (show (45 : Nat) < 100 ∧ ¬ (18 ≤ 45 ∧ 45 ≤ 23) ∧ 45 ≠ 25 ∧ 45 ≠ 55 ∧ 45 ≠ 56 by decide))
  have a8 := NL.one (L0 := L0) (M := M) (s 8 _ rfl) (show (56 : Nat) < 57 by decide) (laNo (s 8 _ rfl) rfl (s 7 _ rfl) rfl (show 22 ≤ 45 by decide) (show 45 < 100 by decide))
  have a9 := NL.one (L0 := L0) (M := M) (s 9 _ rfl) (show (41 : Nat) < 57 by decide) (laSkip (s 9 _ rfl) (show (41 : Nat) < 100 ∧ ¬ (18 ≤ 41 ∧ 41 ≤ 23) ∧ 41 ≠ 25 ∧ 41 ≠ 55 ∧ 41 ≠ 56 by decide))
  exact (((((((((a0.trans a1).trans a2).trans a3).trans a4).trans a5).trans a6).trans a7).trans a8).trans a9)
theorem nlS3 {w2 w4 : Nat} {e : List Nat} (hg : w2 < 4) (s : Seg ts P ((24, 0, [32]) :: tkS w2 3 w4 e)) : NL ts L0 M P 7 M := by
  have a0 := NL.one (L0 := L0) (M := M) (s 0 _ rfl) (show (24 : Nat) < 57 by decide) (laSkip (s 0 _ rfl) (show (24 : Nat) < 100 ∧ ¬ (18 ≤ 24 ∧ 24 ≤ 23) ∧ 24 ≠ 25 ∧ 24 ≠ 55 ∧ 24 ≠ 56 by decide))
  have a1 := NL.one (L0 := L0) (M := M) (s 1 _ rfl) (show (17 : Nat) < 57 by decide) (laSkip (s 1 _ rfl) (show (17 : Nat) < 100 ∧ ¬ (18 ≤ 17 ∧ 17 ≤ 23) ∧ 17 ≠ 25 ∧ 17 ≠ 55 ∧ 17 ≠ 56 by decide))
  have a2 := NL.one (L0 := L0) (M := M) (s 2 _ rfl) (show 18 + w2 < 57 by omega) (laGrade (s 2 _ rfl) (gr4 hg))
  have a3 := NL.one (L0 := L0) (M := M) (s 3 _ rfl) (show (48 : Nat) < 57 by decide) (laSkip (s 3 _ rfl) (show (48 : Nat) < 100 ∧ ¬ (18 ≤ 48 ∧ 48 ≤ 23) ∧ 48 ≠ 25 ∧ 48 ≠ 55 ∧ 48 ≠ 56 by decide))
  have a4 := NL.one (L0 := L0) (M := M) (s 4 _ rfl) (show (56 : Nat) < 57 by decide) (laNo (s 4 _ rfl) rfl (s 3 _ rfl) rfl (show 22 ≤ 48 by decide) (show 48 < 100 by decide))
  have a5 := NL.one (L0 := L0) (M := M) (s 5 _ rfl) (show (46 : Nat) < 57 by decide) (laSkip (s 5 _ rfl) (show (46 : Nat) < 100 ∧ ¬ (18 ≤ 46 ∧ 46 ≤ 23) ∧ 46 ≠ 25 ∧ 46 ≠ 55 ∧ 46 ≠ 56 by decide))
  have a6 := NL.one (L0 := L0) (M := M) (s 6 _ rfl) (show (56 : Nat) < 57 by decide) (laNo (s 6 _ rfl) rfl (s 5 _ rfl) rfl (show 22 ≤ 46 by decide) (show 46 < 100 by decide))
  exact ((((((a0.trans a1).trans a2).trans a3).trans a4).trans a5).trans a6)
theorem nlS {w2 w3 w4 : Nat} {e : List Nat} (h3 : w3 < 4) (hg : w2 < 4) (s : Seg ts P ((24, 0, [32]) :: tkS w2 w3 w4 e)) : NL ts L0 M P ((24, 0, [32]) :: tkS w2 w3 w4 e).length M := by
  rcases (show w3 = 0 ∨ w3 = 1 ∨ w3 = 2 ∨ w3 = 3 by omega) with rfl | rfl | rfl | rfl
  · exact nlS0 hg s
  · exact nlS1 hg s
  · exact nlS2 hg s
  · exact nlS3 hg s
theorem nl44 {t : Tok} (s : Seg ts P [t]) (k : t.1 = 44) : NL ts L0 M P 1 M := NL.one (s 0 _ rfl) (by omega) (laSkip (s 0 _ rfl) (by rw [k]; exact ⟨by decide, by decide, by decide, by decide, by decide⟩))
theorem Nb.o (c : Nb n m p b M) (v : Int) : Nb n m p b (up2 M 0 10 v) := by
  obtain ⟨⟨c1, c2, c3, c4⟩, c5⟩ := c
  exact ⟨⟨by rw [up2_n _ _ _ _ _ _ (by omega)]; exact c1, by rw [up2_n _ _ _ _ _ _ (by omega)]; exact c2, by rw [up2_n _ _ _ _ _ _ (by omega)]; exact c3, by rw [up2_n _ _ _ _ _ _ (by omega)]; exact c4⟩, c5⟩
theorem nlO {w : Nat → Int} {x : Nat} (hW : Wk n m p b w) (c : Nb n m p b M) (hx : M 0 10 = (x : Int)) (hx2 : x < 20) (s : Seg ts P (tkO n m p b w)) : NL ts L0 M P (tkO n m p b w).length (up2 M 0 10 ((x + 1 : Nat) : Int)) := by
  unfold Wk at hW
  have h5 : (w 5).toNat < 9 := by omega
  have h3 : (w 3).toNat < 4 := by omega
  have h2 : (w 2).toNat < 4 := by omega
  have c' := c.o ((x + 1 : Nat) : Int)
  have cb := c.2
  unfold tkO at s ⊢
  by_cases c1 : w 0 = 1
  · rw [if_pos c1] at s ⊢
    have w1 := hW.2.1.2.1 c1
    have s0 : Seg ts P ([(23, 0, [32]), (55, 98 * 16 + (w 1).toNat, [32])] ++ (((24, 0, [32]) :: tkS (w 2).toNat (w 3).toNat (w 4).toNat [32]) ++ ([(8, 0, [32]), (18 + (w 2).toNat, 0, if w 5 < 8 then [32] else [])] ++ ((if w 5 < 8 then tkW n m p b (w 5).toNat (w 6).toNat (w 7).toNat else []) ++ [(44, 0, [32])])))) := s
    have a0 := NL.one (L0 := L0) (M := M) (s 0 _ rfl) (by decide) (laOrder (x := x) (s 0 _ rfl) (Or.inr (Or.inl rfl)) hx hx2)
    have a1 := NL.one (L0 := L0) (M := up2 M 0 10 ((x + 1 : Nat) : Int)) (s 1 _ rfl) (show (55 : Nat) < 57 by decide) (laF23 (x := b) (v := (w 1).toNat) (s 1 _ rfl) rfl (s 0 _ rfl) rfl rfl rfl c'.1.2.2.2 (by omega) (by omega))
    have a2 := nlS (L0 := L0) (M := up2 M 0 10 ((x + 1 : Nat) : Int)) h3 h2 s0.right.left
    have s3 := s0.right.right.left
    have s4 := s0.right.right.right.left
    have s5 := s0.right.right.right.right
    have a3 := NL.one (L0 := L0) (M := up2 M 0 10 ((x + 1 : Nat) : Int)) (s3 0 _ rfl) (by decide) (laSkip (s3 0 _ rfl) ⟨by decide, by decide, by decide, by decide, by decide⟩)
    have a4 := NL.one (L0 := L0) (M := up2 M 0 10 ((x + 1 : Nat) : Int)) (s3 1 _ rfl) (show 18 + (w 2).toNat < 57 by omega) (laGrade (s3 1 _ rfl) (gr4 h2))
    have a5 : NL ts L0 (up2 M 0 10 ((x + 1 : Nat) : Int)) (P + 2 + ((24, 0, [32]) :: tkS (w 2).toNat (w 3).toNat (w 4).toNat [32]).length + 2) (if w 5 < 8 then tkW n m p b (w 5).toNat (w 6).toNat (w 7).toNat else []).length (up2 M 0 10 ((x + 1 : Nat) : Int)) := by
      by_cases c5 : w 5 < 8
      · rw [if_pos c5, if_pos c5] at s4
        rw [if_pos c5]
        exact nlW h5 c' s4
      · rw [if_neg c5]
        exact NL.nil
    have a6 := nl44 (L0 := L0) (M := up2 M 0 10 ((x + 1 : Nat) : Int)) s5 rfl
    have q := (a0.trans a1).trans (a2.trans ((a3.trans a4).trans (a5.trans a6)))
    have el : ((23, 0, [32]) :: (55, 98 * 16 + (w 1).toNat, [32]) :: (24, 0, [32]) :: (tkS (w 2).toNat (w 3).toNat (w 4).toNat [32] ++ (8, 0, [32]) :: (18 + (w 2).toNat, 0, if w 5 < 8 then [32] else []) :: ((if w 5 < 8 then tkW n m p b (w 5).toNat (w 6).toNat (w 7).toNat else []) ++ [(44, 0, [32])])) : List Tok).length = 1 + 1 + (((24, 0, [32]) :: tkS (w 2).toNat (w 3).toNat (w 4).toNat [32] : List Tok).length + (1 + 1 + ((if w 5 < 8 then tkW n m p b (w 5).toNat (w 6).toNat (w 7).toNat else []).length + 1))) := by
      simp only [List.length_cons, List.length_append, List.length_nil]
      omega
    rw [el]
    exact q
  · rw [if_neg c1] at s ⊢
    have w1 := hW.2.1.2.2 c1
    have s0 : Seg ts P ([(if w 0 = 0 then 22 else 25, 0, [32]), (55, 112 * 16 + (w 1).toNat, [32])] ++ (tkW n m p b (w 5).toNat (w 6).toNat (w 7).toNat ++ [(44, 0, [32])])) := s
    have a2 := nlW (L0 := L0) (M := up2 M 0 10 ((x + 1 : Nat) : Int)) h5 c' s0.right.left
    have a3 := nl44 (L0 := L0) (M := up2 M 0 10 ((x + 1 : Nat) : Int)) s0.right.right rfl
    have el : ((if w 0 = 0 then 22 else 25, 0, [32]) :: (55, 112 * 16 + (w 1).toNat, [32]) :: (tkW n m p b (w 5).toNat (w 6).toNat (w 7).toNat ++ [(44, 0, [32])]) : List Tok).length = 1 + 1 + ((tkW n m p b (w 5).toNat (w 6).toNat (w 7).toNat).length + 1) := by
      simp only [List.length_cons, List.length_append, List.length_nil]
      omega
    rw [el]
    by_cases c0 : w 0 = 0
    · rw [if_pos c0] at s
      have a0 := NL.one (L0 := L0) (M := M) (s 0 _ rfl) (by decide) (laOrder (x := x) (s 0 _ rfl) (Or.inl rfl) hx hx2)
      have a1 := NL.one (L0 := L0) (M := up2 M 0 10 ((x + 1 : Nat) : Int)) (s 1 _ rfl) (show (55 : Nat) < 57 by decide) (laF22 (x := p) (v := (w 1).toNat) (s 1 _ rfl) rfl (s 0 _ rfl) rfl rfl rfl c'.1.2.2.1 (by omega) (by omega))
      exact (a0.trans a1).trans (a2.trans a3)
    · rw [if_neg c0] at s
      have a0 := NL.one (L0 := L0) (M := M) (s 0 _ rfl) (by decide) (laOrder (x := x) (s 0 _ rfl) (Or.inr (Or.inr rfl)) hx hx2)
      have a1 := NL.one (L0 := L0) (M := up2 M 0 10 ((x + 1 : Nat) : Int)) (s 1 _ rfl) (show (55 : Nat) < 57 by decide) (laF25 (x := p) (v := (w 1).toNat) (s 1 _ rfl) rfl (s 0 _ rfl) rfl rfl rfl c'.1.2.2.1 (by omega) (by omega))
      exact (a0.trans a1).trans (a2.trans a3)
end

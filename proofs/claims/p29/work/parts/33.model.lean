/-! 33 L3: THE MODEL: a river as whole numbers, g (cell) (slot); rows of orders w (slot) -/
abbrev GM : Type := Nat → Nat → Int
def mIt (f : Nat → GM → GM) : Nat → Nat → GM → GM
  | 0, _, g => g
  | k + 1, i, g => mIt f k (i + 1) (f i g)
theorem mIt_s (f : Nat → GM → GM) : ∀ (k i : Nat) (g : GM), mIt f (k + 1) i g = f (i + k) (mIt f k i g) := by
  intro k
  induction k with
  | zero => intro i g; rfl
  | succ k ih =>
    intro i g
    rw [show mIt f (k + 1 + 1) i g = mIt f (k + 1) (i + 1) (f i g) from rfl, ih, show mIt f (k + 1) i g = mIt f k (i + 1) (f i g) from rfl]
    congr 1
    omega
def sumF (f : Nat → Int) : Nat → Int
  | 0 => 0
  | n + 1 => sumF f n + f n
theorem sumF_congr {f f' : Nat → Int} : ∀ n, (∀ k, k < n → f' k = f k) → sumF f' n = sumF f n := by
  intro n
  induction n with
  | zero => intro _; rfl
  | succ n ih => intro h; unfold sumF; rw [ih (fun k hk => h k (by omega)), h n (by omega)]
theorem sumF_ch {f f' : Nat → Int} {i : Nat} : ∀ n, i < n → (∀ k, k < n → k ≠ i → f' k = f k) → sumF f' n = sumF f n + (f' i - f i) := by
  intro n
  induction n with
  | zero => intro h _; omega
  | succ n ih =>
    intro h1 h2
    unfold sumF
    by_cases e : i = n
    · subst e
      rw [sumF_congr i (fun k hk => h2 k (by omega) (by omega))]
      omega
    · rw [ih (by omega) (fun k hk hne => h2 k (by omega) hne), h2 n (by omega) (by omega)]
      omega
theorem sumF_nn {f : Nat → Int} : ∀ n, (∀ k, k < n → 0 ≤ f k) → 0 ≤ sumF f n ∧ ∀ i, i < n → f i ≤ sumF f n := by
  intro n
  induction n with
  | zero => intro _; exact ⟨Int.le_refl _, fun i hi => by omega⟩
  | succ n ih =>
    intro h
    obtain ⟨h1, h2⟩ := ih (fun k hk => h k (by omega))
    have h3 := h n (by omega)
    unfold sumF
    refine ⟨by omega, fun i hi => ?_⟩
    by_cases e : i = n
    · subst e; omega
    · have := h2 i (by omega); omega
def mGradeOf (t s : Int) : Int := min 3 (max 0 ((t - 1) / 3 + s / 3))
def mPriceAt (told glut : Int) : Int := max 0 (told - glut / 4)
def mPrice (g : GM) (k : Nat) : Int := mPriceAt (g (43 + k) 1) (g (43 + k) 2)
def mRoom (g : GM) (k : Nat) : Int := g (11 + 5 * k) 0 - g (11 + 5 * k) 1
def mHolds (n m p b : Nat) (g : GM) (w : Nat → Int) : Bool := match (w 5).toNat with
  | 0 => decide (w 7 % 12 ≤ g 0 11 % 12)
  | 1 => decide (g (31 + (w 6).toNat % p) 3 < w 7 % 21)
  | 2 => decide (g (31 + (w 6).toNat % p) 3 = 0)
  | 3 => decide (g (39 + (w 6).toNat % b) 3 = 0)
  | 4 => decide (w 7 < g 0 12)
  | 5 => decide (w 7 % 30 < mRoom g ((w 6).toNat % m)) || decide (g (43 + (w 6).toNat % 4) 0 < w 7 % 9)
  | 6 => decide (w 7 % 60 ≤ g (7 + (w 6).toNat % n) 0) && decide (1 ≤ mPrice g ((w 6).toNat % 4))
  | 7 => decide (g (39 + (w 6).toNat % b) 2 ≤ w 7 % 20)
  | _ => true
def mSum (g : GM) (w : Nat → Int) : Int := match (w 3).toNat with
  | 0 => w 4 % 50
  | 1 => g (43 + (w 2).toNat) 0 - w 4 % 7
  | 2 => max (g (43 + (w 2).toNat) 0 / 2) (w 4 % 9)
  | _ => mPrice g (w 2).toNat * 2 + w 4 % 5
def mWhet (i : Nat) (g : GM) : GM := up2 (up2 (up2 g 0 12 (g 0 12 - 2)) (31 + i) 3 20) (31 + i) 5 (g (31 + i) 5 + 1)
def mMany (g : GM) (i k : Nat) (most : Int) : Int := if g (39 + i) 3 = 0 then min (min most (g (39 + i) 0)) (g (43 + k) 0) else 0
def mLoad (i k : Nat) (many : Int) (g : GM) : GM := up2 (up2 (up2 (up2 g (43 + k) 0 (g (43 + k) 0 - many)) (39 + i) 4 many) (39 + i) 5 (k : Int)) (39 + i) 3 1
def mDone (g : GM) : GM := up2 g 0 17 (g 0 17 + 1)
def mOrder (n m p b : Nat) (w : Nat → Int) (g : GM) : GM :=
  if mHolds n m p b g w = true then
    if w 0 = 0 then (if g (31 + (w 1).toNat) 3 < 20 ∧ 2 ≤ g 0 12 then mDone (mWhet (w 1).toNat g) else g)
    else if w 0 = 1 then (if 1 ≤ mMany g (w 1).toNat (w 2).toNat (mSum g w) then mDone (mLoad (w 1).toNat (w 2).toNat (mMany g (w 1).toNat (w 2).toNat (mSum g w)) g) else g)
    else mDone (up2 g (31 + (w 1).toNat) 6 1)
  else g
def mOrders (n m p b : Nat) (O : Nat → Nat → Int) (no : Nat) (g : GM) : GM := mIt (fun i => mOrder n m p b (O i)) no 0 g
def mRest1 (i : Nat) (g : GM) : GM := up2 g (31 + i) 6 0
def mGrow1 (i : Nat) (g : GM) : GM := up2 g (7 + i) 0 (min 99 (g (7 + i) 0 + g (7 + i) 1))
def mMost (g : GM) (i : Nat) : Int := if g (31 + i) 3 < 1 then 0 else if g (31 + i) 3 < 10 then g (31 + i) 2 / 2 else g (31 + i) 2
def mPeels (g : GM) (i : Nat) : Int := min (mMost g i) (min (g (7 + (g (31 + i) 0).toNat) 0) (mRoom g (g (31 + i) 1).toNat))
def mLay (k : Nat) (many thick : Int) (g : GM) : GM :=
  up2 (up2 (up2 (up2 (up2 (up2 g (12 + 5 * k) (mct g k).toNat many) (13 + 5 * k) (mct g k).toNat thick) (14 + 5 * k) (mct g k).toNat 0) (15 + 5 * k) (mct g k).toNat 0) (11 + 5 * k) 2 (g (11 + 5 * k) 2 + 1)) (11 + 5 * k) 1 (g (11 + 5 * k) 1 + many)
def mPeel1 (i : Nat) (g : GM) : GM :=
  if g (31 + i) 6 = 0 ∧ 1 ≤ mPeels g i then
    up2 (up2 (up2 (mLay (g (31 + i) 1).toNat (mPeels g i) (g (7 + (g (31 + i) 0).toNat) 2) (up2 g (7 + (g (31 + i) 0).toNat) 0 (g (7 + (g (31 + i) 0).toNat) 0 - mPeels g i))) (31 + i) 3 (g (31 + i) 3 - 1)) (31 + i) 4 (g (31 + i) 4 + mPeels g i)) 0 15 (g 0 15 + mPeels g i)
  else g
def mAge (k : Nat) (sh : Int) (j : Nat) (g : GM) : GM := if sh = 0 then up2 g (15 + 5 * k) j (g (15 + 5 * k) j + 1) else up2 g (14 + 5 * k) j (g (14 + 5 * k) j + sh)
def mStore (k j : Nat) (g : GM) : GM :=
  up2 (up2 g (43 + (mGradeOf (g (13 + 5 * k) j) (g (15 + 5 * k) j)).toNat) 0 (g (43 + (mGradeOf (g (13 + 5 * k) j) (g (15 + 5 * k) j)).toNat) 0 + g (12 + 5 * k) j)) (11 + 5 * k) 1 (g (11 + 5 * k) 1 - g (12 + 5 * k) j)
def mMove (k t j : Nat) (g : GM) : GM := up2 (up2 (up2 (up2 g (12 + 5 * k) t (g (12 + 5 * k) j)) (13 + 5 * k) t (g (13 + 5 * k) j)) (14 + 5 * k) t (g (14 + 5 * k) j)) (15 + 5 * k) t (g (15 + 5 * k) j)
def mDry2 (k : Nat) : Nat → Nat → Nat → Int → GM → GM
  | 0, _, t, _, g => up2 g (11 + 5 * k) 2 (t : Int)
  | e + 1, j, t, sh, g => if 3 * mAge k sh j g (13 + 5 * k) j ≤ mAge k sh j g (14 + 5 * k) j then mDry2 k e (j + 1) t sh (mStore k j (mAge k sh j g)) else mDry2 k e (j + 1) (t + 1) sh (mMove k t j (mAge k sh j g))
def mDry1 (sh : Int) (k : Nat) (g : GM) : GM := mDry2 k (mct g k).toNat 0 0 sh g
def mWorth (told : Int) : Nat → Int → Int
  | 0, _ => 0
  | k + 1, glut => mPriceAt told glut + mWorth told k (glut + 1)
def mSell (i : Nat) (g : GM) : GM :=
  let k := (g (39 + i) 5).toNat
  let q := g (39 + i) 4
  let w := mWorth (g (43 + k) 1) q.toNat (g (43 + k) 2)
  up2 (up2 (up2 (up2 (up2 (up2 (up2 g (43 + k) 2 (g (43 + k) 2 + q)) (43 + k) 3 (g (43 + k) 3 + q)) 0 16 (g 0 16 + q)) 0 12 (g 0 12 + w)) (39 + i) 6 (g (39 + i) 6 + w)) (39 + i) 4 0) (39 + i) 5 (-1)
def mBoat1 (i : Nat) (g : GM) : GM :=
  if g (39 + i) 3 = 0 then g
  else if g (39 + i) 3 = 2 then
    up2 (up2 g (39 + i) 2 (max 0 (g (39 + i) 2 - g (39 + i) 1 - g 0 14))) (39 + i) 3 (if max 0 (g (39 + i) 2 - g (39 + i) 1 - g 0 14) = 0 then 0 else 2)
  else if min (g 0 13) (g (39 + i) 2 + max 1 (g (39 + i) 1 - g 0 14)) = g 0 13 then
    mSell i (up2 (up2 g (39 + i) 2 (g 0 13)) (39 + i) 3 2)
  else up2 (up2 g (39 + i) 2 (min (g 0 13) (g (39 + i) 2 + max 1 (g (39 + i) 1 - g 0 14)))) (39 + i) 3 1
def mGlut1 (k : Nat) (g : GM) : GM := up2 g (43 + k) 2 (max 0 (g (43 + k) 2 - 1))
def mEnd (g : GM) : GM := up2 (up2 g 0 11 (g 0 11 + 1)) 0 12 (min 99999 (g 0 12))
def mHour (n m p b : Nat) (O : Nat → Nat → Int) (no : Nat) (g : GM) : GM :=
  let g1 := mOrders n m p b O no (mIt mRest1 p 0 g)
  let g2 := if g1 0 11 % 12 = 0 then mIt mGrow1 n 0 g1 else g1
  let g3 := mIt mPeel1 p 0 g2
  let g4 := mIt (mDry1 (g3 6 (g3 0 11 % 12).toNat)) m 0 g3
  mEnd (mIt mGlut1 4 0 (mIt mBoat1 b 0 g4))

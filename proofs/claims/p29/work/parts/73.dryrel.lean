/-! 73 L3: drying in place, and drying by moving, compared (whole numbers) -/
def cK (K : Nat) (a : GM) : Nat → Nat
  | 0 => 0
  | j + 1 => if 3 * a (13 + 5 * K) j ≤ a (14 + 5 * K) j then cK K a j else cK K a j + 1
def mSt (K j : Nat) (g : GM) : GM := up2 g (43 + (mGradeOf (g (13 + 5 * K) j) (g (15 + 5 * K) j)).toNat) 0 (g (43 + (mGradeOf (g (13 + 5 * K) j) (g (15 + 5 * K) j)).toNat) 0 + g (12 + 5 * K) j)
def mAgS (K : Nat) (sh : Int) (j : Nat) (g : GM) : GM := if 3 * mAge K sh j g (13 + 5 * K) j ≤ mAge K sh j g (14 + 5 * K) j then mSt K j (mAge K sh j g) else mAge K sh j g
theorem cK_le {K : Nat} {a : GM} : ∀ j, cK K a j ≤ j := by
  intro j
  induction j with
  | zero => exact Nat.le_refl _
  | succ j ih => unfold cK; split <;> omega
theorem cK_mono {K : Nat} {a : GM} : ∀ j x, x ≤ j → cK K a x ≤ cK K a j := by
  intro j
  induction j with
  | zero => intro x hx; rw [show x = 0 by omega]; exact Nat.le_refl _
  | succ j ih =>
    intro x hx
    by_cases e : x = j + 1
    · rw [e]; exact Nat.le_refl _
    · have := ih x (by omega)
      rw [show cK K a (j + 1) = if 3 * a (13 + 5 * K) j ≤ a (14 + 5 * K) j then cK K a j else cK K a j + 1 from rfl]
      split <;> omega
theorem cK_lt {K : Nat} {a : GM} {j x : Nat} (hx : x < j) (hd : ¬ 3 * a (13 + 5 * K) x ≤ a (14 + 5 * K) x) : cK K a x < cK K a j := by
  have h1 := cK_mono (K := K) (a := a) j (x + 1) hx
  rw [show cK K a (x + 1) = if 3 * a (13 + 5 * K) x ≤ a (14 + 5 * K) x then cK K a x else cK K a x + 1 from rfl, if_neg hd] at h1
  omega
theorem cK_congr {K : Nat} {a a' : GM} : ∀ j, (∀ x, x < j → a' (13 + 5 * K) x = a (13 + 5 * K) x ∧ a' (14 + 5 * K) x = a (14 + 5 * K) x) → cK K a' j = cK K a j := by
  intro j
  induction j with
  | zero => intro _; rfl
  | succ j ih =>
    intro h
    have h1 := h j (by omega)
    unfold cK
    rw [h1.1, h1.2, ih (fun x hx => h x (by omega))]
theorem cK_inv {K : Nat} {a : GM} : ∀ j y, y < cK K a j → ∃ x, x < j ∧ ¬ 3 * a (13 + 5 * K) x ≤ a (14 + 5 * K) x ∧ cK K a x = y := by
  intro j
  induction j with
  | zero => intro y hy; exact absurd hy (Nat.not_lt_zero _)
  | succ j ih =>
    intro y hy
    rw [show cK K a (j + 1) = if 3 * a (13 + 5 * K) j ≤ a (14 + 5 * K) j then cK K a j else cK K a j + 1 from rfl] at hy
    by_cases c : 3 * a (13 + 5 * K) j ≤ a (14 + 5 * K) j
    · rw [if_pos c] at hy
      obtain ⟨x, h1, h2⟩ := ih y hy
      exact ⟨x, by omega, h2⟩
    · rw [if_neg c] at hy
      by_cases q : y = cK K a j
      · exact ⟨j, by omega, c, q.symm⟩
      · obtain ⟨x, h1, h2⟩ := ih y (by omega)
        exact ⟨x, by omega, h2⟩
theorem mAge_n {K : Nat} {sh : Int} {j : Nat} {g : GM} (c s : Nat) (hc : ¬ ((c = 14 + 5 * K ∨ c = 15 + 5 * K) ∧ s = j)) : mAge K sh j g c s = g c s := by
  unfold mAge
  split <;> exact up2_n _ _ _ _ _ _ (by omega)
theorem mSt_n {K j : Nat} {g : GM} (c s : Nat) (hc : ¬ (43 ≤ c ∧ c < 47 ∧ s = 0)) : mSt K j g c s = g c s := by
  unfold mSt
  have := mGradeOf_b (g (13 + 5 * K) j) (g (15 + 5 * K) j)
  exact up2_n _ _ _ _ _ _ (by omega)
theorem mAgS_n {K : Nat} {sh : Int} {j : Nat} {g : GM} (c s : Nat) (hc : ¬ ((c = 14 + 5 * K ∨ c = 15 + 5 * K) ∧ s = j)) (hc2 : ¬ (43 ≤ c ∧ c < 47 ∧ s = 0)) : mAgS K sh j g c s = g c s := by
  unfold mAgS
  split
  · rw [mSt_n _ _ hc2, mAge_n _ _ hc]
  · exact mAge_n _ _ hc
theorem mAgI_n {K : Nat} {sh : Int} (c s : Nat) (hc2 : ¬ (43 ≤ c ∧ c < 47 ∧ s = 0)) : ∀ (e j : Nat) (g : GM), ¬ ((c = 14 + 5 * K ∨ c = 15 + 5 * K) ∧ j ≤ s) → mIt (mAgS K sh) e j g c s = g c s := by
  intro e
  induction e with
  | zero => intro j g _; rfl
  | succ e ih =>
    intro j g hc
    rw [show mIt (mAgS K sh) (e + 1) j g = mIt (mAgS K sh) e (j + 1) (mAgS K sh j g) from rfl, ih (j + 1) _ (by omega), mAgS_n _ _ (by omega) hc2]
def DRel (K j t : Nat) (g a : GM) : Prop := t = cK K a j ∧ (∀ c s, ¬ (12 + 5 * K ≤ c ∧ c ≤ 15 + 5 * K) → ¬ (c = 11 + 5 * K ∧ s = 1) → g c s = a c s) ∧ (∀ w, w < 4 → ∀ x, j ≤ x → g (12 + w + 5 * K) x = a (12 + w + 5 * K) x) ∧ (∀ x, x < j → ¬ 3 * a (13 + 5 * K) x ≤ a (14 + 5 * K) x → ∀ w, w < 4 → g (12 + w + 5 * K) (cK K a x) = a (12 + w + 5 * K) x)
theorem DRel.age {K j t : Nat} {g a : GM} {sh : Int} (h : DRel K j t g a) : DRel K j t (mAge K sh j g) (mAge K sh j a) := by
  obtain ⟨h1, h2, h3, h4⟩ := h
  have ca : ∀ x, x ≤ j → cK K (mAge K sh j a) x = cK K a x := fun x hx => cK_congr x fun y hy => ⟨mAge_n _ _ (by omega), mAge_n _ _ (by omega)⟩
  refine ⟨by rw [ca j (Nat.le_refl _)]; exact h1, fun c s k1 k2 => ?_, fun w hw x hx => ?_, fun x hx hd w hw => ?_⟩
  · rw [mAge_n _ _ (by omega), mAge_n _ _ (by omega)]
    exact h2 c s k1 k2
  · have e := h3 w hw x hx
    unfold mAge
    have e14 := h3 2 (by omega) j (Nat.le_refl _)
    have e15 := h3 3 (by omega) j (Nat.le_refl _)
    split
    · by_cases q : w = 3 ∧ x = j
      · obtain ⟨rfl, rfl⟩ := q
        rw [show 12 + 3 + 5 * K = 15 + 5 * K by omega] at e ⊢
        rw [up2_e, up2_e, e]
      · rw [up2_n _ _ _ _ _ _ (by omega), up2_n _ _ _ _ _ _ (by omega)]
        exact e
    · by_cases q : w = 2 ∧ x = j
      · obtain ⟨rfl, rfl⟩ := q
        rw [show 12 + 2 + 5 * K = 14 + 5 * K by omega] at e ⊢
        rw [up2_e, up2_e, e]
      · rw [up2_n _ _ _ _ _ _ (by omega), up2_n _ _ _ _ _ _ (by omega)]
        exact e
  · rw [mAge_n (13 + 5 * K) x (by omega), mAge_n (14 + 5 * K) x (by omega)] at hd
    have l1 := cK_lt hx hd
    have l2 := cK_le (K := K) (a := a) j
    rw [ca x (by omega), mAge_n _ _ (by omega), mAge_n _ _ (by omega)]
    exact h4 x hx hd w hw
theorem DRel.step {K j t : Nat} {g a : GM} {sh : Int} (hK : K < 4) (h : DRel K j t g a) :
    DRel K (j + 1) (if 3 * mAge K sh j g (13 + 5 * K) j ≤ mAge K sh j g (14 + 5 * K) j then t else t + 1) (if 3 * mAge K sh j g (13 + 5 * K) j ≤ mAge K sh j g (14 + 5 * K) j then mStore K j (mAge K sh j g) else mMove K t j (mAge K sh j g)) (mAgS K sh j a) := by
  have hA := h.age (sh := sh)
  unfold mAgS
  generalize mAge K sh j g = g1 at *
  generalize mAge K sh j a = a1 at *
  obtain ⟨h1, h2, h3, h4⟩ := hA
  have e12 := h3 0 (by omega) j (Nat.le_refl _)
  have e13 := h3 1 (by omega) j (Nat.le_refl _)
  have e14 := h3 2 (by omega) j (Nat.le_refl _)
  have e15 := h3 3 (by omega) j (Nat.le_refl _)
  rw [show 12 + 0 + 5 * K = 12 + 5 * K by omega] at e12
  rw [show 12 + 1 + 5 * K = 13 + 5 * K by omega] at e13
  rw [show 12 + 2 + 5 * K = 14 + 5 * K by omega] at e14
  rw [show 12 + 3 + 5 * K = 15 + 5 * K by omega] at e15
  rw [e13, e14]
  by_cases d : 3 * a1 (13 + 5 * K) j ≤ a1 (14 + 5 * K) j
  · rw [if_pos d, if_pos d, if_pos d]
    have ns : ∀ c s, ¬ (43 ≤ c ∧ c < 47 ∧ s = 0) → mSt K j a1 c s = a1 c s := fun c s hc => mSt_n _ _ hc
    have ca : ∀ x, cK K (mSt K j a1) x = cK K a1 x := fun x => cK_congr x fun y hy => ⟨ns _ _ (by omega), ns _ _ (by omega)⟩
    refine ⟨?_, fun c s k1 k2 => ?_, fun w hw x hx => ?_, fun x hx hd w hw => ?_⟩
    · rw [ca]
      unfold cK
      rw [if_pos d]
      exact h1
    · unfold mStore mSt
      rw [e12, e13, e15, up2_n _ _ _ _ _ _ k2]
      have gb := mGradeOf_b (a1 (13 + 5 * K) j) (a1 (15 + 5 * K) j)
      generalize hgr : (mGradeOf (a1 (13 + 5 * K) j) (a1 (15 + 5 * K) j)).toNat = gr at *
      rw [h2 (43 + gr) 0 (by omega) (by omega)]
      by_cases q : c = 43 + gr ∧ s = 0
      · obtain ⟨rfl, rfl⟩ := q
        rw [up2_e, up2_e]
      · rw [up2_n _ _ _ _ _ _ q, up2_n _ _ _ _ _ _ q]
        exact h2 c s k1 k2
    · rw [ns _ _ (by omega), ← h3 w hw x (by omega)]
      unfold mStore
      have gb := mGradeOf_b (g1 (13 + 5 * K) j) (g1 (15 + 5 * K) j)
      rw [up2_n _ _ _ _ _ _ (by omega), up2_n _ _ _ _ _ _ (by omega)]
    · rw [ns _ _ (by omega), ns _ _ (by omega)] at hd
      have xj : x < j := by
        by_cases q : x = j
        · subst q; exact absurd d hd
        · omega
      rw [ca, ns _ _ (by omega), ← h4 x xj hd w hw]
      unfold mStore
      have gb := mGradeOf_b (g1 (13 + 5 * K) j) (g1 (15 + 5 * K) j)
      rw [up2_n _ _ _ _ _ _ (by omega), up2_n _ _ _ _ _ _ (by omega)]
  · rw [if_neg d, if_neg d, if_neg d]
    have tj : t ≤ j := by rw [h1]; exact cK_le j
    refine ⟨?_, fun c s k1 k2 => ?_, fun w hw x hx => ?_, fun x hx hd w hw => ?_⟩
    · unfold cK
      rw [if_neg d, ← h1]
    · unfold mMove
      rw [up2_n _ _ _ _ _ _ (by omega), up2_n _ _ _ _ _ _ (by omega), up2_n _ _ _ _ _ _ (by omega), up2_n _ _ _ _ _ _ (by omega)]
      exact h2 c s k1 k2
    · unfold mMove
      rw [up2_n _ _ _ _ _ _ (by omega), up2_n _ _ _ _ _ _ (by omega), up2_n _ _ _ _ _ _ (by omega), up2_n _ _ _ _ _ _ (by omega)]
      exact h3 w hw x (by omega)
    · by_cases q : x = j
      · subst q
        rw [← h1]
        unfold mMove
        rcases (show w = 0 ∨ w = 1 ∨ w = 2 ∨ w = 3 by omega) with rfl | rfl | rfl | rfl
        · rw [show 12 + 0 + 5 * K = 12 + 5 * K by omega, up2_n _ _ _ _ _ _ (by omega), up2_n _ _ _ _ _ _ (by omega), up2_n _ _ _ _ _ _ (by omega), up2_e, e12]
        · rw [show 12 + 1 + 5 * K = 13 + 5 * K by omega, up2_n _ _ _ _ _ _ (by omega), up2_n _ _ _ _ _ _ (by omega), up2_e, e13]
        · rw [show 12 + 2 + 5 * K = 14 + 5 * K by omega, up2_n _ _ _ _ _ _ (by omega), up2_e, e14]
        · rw [show 12 + 3 + 5 * K = 15 + 5 * K by omega, up2_e, e15]
      · have l1 := cK_lt (j := j) (by omega) hd
        unfold mMove
        rw [up2_n _ _ _ _ _ _ (by omega), up2_n _ _ _ _ _ _ (by omega), up2_n _ _ _ _ _ _ (by omega), up2_n _ _ _ _ _ _ (by omega)]
        exact h4 x (by omega) hd w hw
theorem dry_rel {K : Nat} {sh : Int} (hK : K < 4) : ∀ (e j t : Nat) (g a : GM), DRel K j t g a → mDry2 K e j t sh g (11 + 5 * K) 2 = ((cK K (mIt (mAgS K sh) e j a) (j + e) : Nat) : Int) ∧
    (∀ c s, ¬ (12 + 5 * K ≤ c ∧ c ≤ 15 + 5 * K) → ¬ (c = 11 + 5 * K ∧ (s = 1 ∨ s = 2)) → mDry2 K e j t sh g c s = mIt (mAgS K sh) e j a c s) ∧
    (∀ x, x < j + e → ¬ 3 * mIt (mAgS K sh) e j a (13 + 5 * K) x ≤ mIt (mAgS K sh) e j a (14 + 5 * K) x → ∀ w, w < 4 → mDry2 K e j t sh g (12 + w + 5 * K) (cK K (mIt (mAgS K sh) e j a) x) = mIt (mAgS K sh) e j a (12 + w + 5 * K) x) := by
  intro e
  induction e with
  | zero =>
    intro j t g a h
    obtain ⟨h1, h2, h3, h4⟩ := h
    rw [show mDry2 K 0 j t sh g = up2 g (11 + 5 * K) 2 (t : Int) from rfl, show mIt (mAgS K sh) 0 j a = a from rfl]
    refine ⟨by rw [up2_e, h1]; rfl, fun c s k1 k2 => ?_, fun x hx hd w hw => ?_⟩
    · rw [up2_n _ _ _ _ _ _ (by omega)]
      exact h2 c s k1 (by omega)
    · rw [up2_n _ _ _ _ _ _ (by omega)]
      exact h4 x hx hd w hw
  | succ e ih =>
    intro j t g a h
    have k := ih (j + 1) _ _ _ (h.step (sh := sh) hK)
    rw [show mIt (mAgS K sh) (e + 1) j a = mIt (mAgS K sh) e (j + 1) (mAgS K sh j a) from rfl, show mDry2 K (e + 1) j t sh g = if 3 * mAge K sh j g (13 + 5 * K) j ≤ mAge K sh j g (14 + 5 * K) j then mDry2 K e (j + 1) t sh (mStore K j (mAge K sh j g)) else mDry2 K e (j + 1) (t + 1) sh (mMove K t j (mAge K sh j g)) from rfl, show j + (e + 1) = j + 1 + e by omega]
    by_cases d : 3 * mAge K sh j g (13 + 5 * K) j ≤ mAge K sh j g (14 + 5 * K) j
    · rw [if_pos d]
      rw [if_pos d, if_pos d] at k
      exact k
    · rw [if_neg d]
      rw [if_neg d, if_neg d] at k
      exact k

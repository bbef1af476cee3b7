/-! 48 L3: what drying keeps -/
-- all but the rack K; sun of the other racks: Ts
def IvX (n m p b K : Nat) (Ts : Nat → Int) (T C Pb : Int) (g : GM) : Prop := IvSc n m p b T C Pb g ∧ IvH g ∧ IvG n g ∧ (∀ k, k < m → k ≠ K → IvR1 k (Ts k) g) ∧ IvP n m p g ∧ IvB b g ∧ IvQ g ∧ IvE m p b g
-- rack K in the midst of drying: j bundles looked at, t of them kept, e left
def Dq (K : Nat) (T : Int) (e j t : Nat) (g : GM) : Prop := 1 ≤ g (11 + 5 * K) 0 ∧ g (11 + 5 * K) 0 ≤ 60 ∧ g (11 + 5 * K) 1 ≤ g (11 + 5 * K) 0 ∧ t ≤ j ∧ mct g K = ((e + j : Nat) : Int) ∧ g (11 + 5 * K) 1 = sumF (fun x => g (12 + 5 * K) x) t + sumF (fun x => g (12 + 5 * K) (j + x)) e ∧
  (∀ x, x < t → 1 ≤ g (12 + 5 * K) x ∧ 1 ≤ g (13 + 5 * K) x ∧ g (13 + 5 * K) x ≤ 9 ∧ 0 ≤ g (14 + 5 * K) x ∧ g (14 + 5 * K) x < 3 * g (13 + 5 * K) x ∧ 0 ≤ g (15 + 5 * K) x ∧ g (15 + 5 * K) x ≤ T + 1) ∧
  (∀ x, j ≤ x → x < e + j → 1 ≤ g (12 + 5 * K) x ∧ 1 ≤ g (13 + 5 * K) x ∧ g (13 + 5 * K) x ≤ 9 ∧ 0 ≤ g (14 + 5 * K) x ∧ g (14 + 5 * K) x < 3 * g (13 + 5 * K) x ∧ 0 ≤ g (15 + 5 * K) x ∧ g (15 + 5 * K) x ≤ T)
theorem IvX.congr {n m p b K : Nat} (hN : Nm n m p b) (hK : K < m) {Ts : Nat → Int} {T C Pb : Int} {g g' : GM} (h : IvX n m p b K Ts T C Pb g) (e : ∀ c s, c < 47 → ¬ (11 + 5 * K ≤ c ∧ c ≤ 15 + 5 * K) → g' c s = g c s) (e1 : g' (11 + 5 * K) 1 = g (11 + 5 * K) 1) : IvX n m p b K Ts T C Pb g' := by
  unfold Nm at hN
  obtain ⟨hS, hH, hG, hR, hP, hB, hQ, hE⟩ := h
  refine ⟨hS.congr fun s hs => e _ _ (by omega) (by omega), hH.congr fun s hs => e _ _ (by omega) (by omega), hG.congr fun i hi s hs => e _ _ (by omega) (by omega), fun k hk hne => (hR k hk hne).congr (fun s hs => e _ _ (by omega) (by omega)) (fun w h1 h2 j hj => e _ _ (by omega) (by omega)), hP.congr fun i hi s hs => e _ _ (by omega) (by omega), hB.congr (e _ _ (by omega) (by omega)) (fun i hi s hs => e _ _ (by omega) (by omega)), hQ.congr (fun k hk s hs => e _ _ (by omega) (by omega)), hE.congr (e _ _ (by omega) (by omega)) (e _ _ (by omega) (by omega)) (fun k hk => ?_) (fun k hk => ⟨e _ _ (by omega) (by omega), e _ _ (by omega) (by omega)⟩) (fun i hi => e _ _ (by omega) (by omega)) (fun i hi => e _ _ (by omega) (by omega))⟩
  by_cases q : k = K
  · subst q; exact e1
  · exact e _ _ (by omega) (by omega)
theorem dry_keep {n m p b K : Nat} (hN : Nm n m p b) (hK : K < m) {Ts : Nat → Int} {T C Pb sh : Int} (hs0 : 0 ≤ sh) (hs3 : sh ≤ 3) : ∀ (e j t : Nat) (g : GM), IvX n m p b K Ts T C Pb g → Dq K T e j t g → IvX n m p b K Ts T C Pb (mDry2 K e j t sh g) ∧ IvR1 K (T + 1) (mDry2 K e j t sh g) := by
  have hN' := hN
  unfold Nm at hN'
  intro e
  induction e with
  | zero =>
    intro j t g hX hD
    obtain ⟨d1, d2, d3, d4, d5, d6, d7, d8⟩ := hD
    rw [show mDry2 K 0 j t sh g = up2 g (11 + 5 * K) 2 (t : Int) from rfl]
    refine ⟨hX.congr hN hK (fun c s h1 h2 => up2_n _ _ _ _ _ _ (by omega)) (up2_n _ _ _ _ _ _ (by omega)), ?_⟩
    have hc : mct (up2 g (11 + 5 * K) 2 (t : Int)) K = (t : Int) := up2_e _ _ _ _
    have h6 : g (11 + 5 * K) 1 = sumF (fun x => g (12 + 5 * K) x) t := by rw [d6]; show _ + 0 = _; omega
    have h9 := sumF_ge (f := fun x => g (12 + 5 * K) x) t (fun k hk => (d7 k hk).1)
    unfold IvR1
    rw [hc]
    refine ⟨by rw [up2_n _ _ _ _ _ _ (by omega)]; exact d1, by rw [up2_n _ _ _ _ _ _ (by omega)]; exact d2, by omega, by rw [up2_n _ _ _ _ _ _ (by omega)]; omega, by rw [up2_n _ _ _ _ _ _ (by omega), up2_n _ _ _ _ _ _ (by omega)]; exact d3, ?_, fun x hx => ?_⟩
    · rw [up2_n _ _ _ _ _ _ (by omega), h6, Int.toNat_natCast]
      exact (sumF_congr t (fun x hx => up2_n _ _ _ _ _ _ (by omega))).symm
    · have := d7 x (by omega)
      simp (disch := omega) only [up2_n]
      exact this
  | succ e ih =>
    intro j t g hX hD
    obtain ⟨d1, d2, d3, d4, d5, d6, d7, d8⟩ := hD
    have d9 := d8 j (Nat.le_refl _) (by omega)
    rw [show mDry2 K (e + 1) j t sh g = if 3 * mAge K sh j g (13 + 5 * K) j ≤ mAge K sh j g (14 + 5 * K) j then mDry2 K e (j + 1) t sh (mStore K j (mAge K sh j g)) else mDry2 K e (j + 1) (t + 1) sh (mMove K t j (mAge K sh j g)) from rfl]
    -- ageing
    have a0 : ∀ c s, ¬ ((c = 14 + 5 * K ∨ c = 15 + 5 * K) ∧ s = j) → mAge K sh j g c s = g c s := by
      intro c s hc
      unfold mAge
      split <;> exact up2_n _ _ _ _ _ _ (by omega)
    have a1 : 0 ≤ mAge K sh j g (14 + 5 * K) j ∧ 0 ≤ mAge K sh j g (15 + 5 * K) j ∧ mAge K sh j g (15 + 5 * K) j ≤ T + 1 := by
      unfold mAge
      split <;> simp (disch := omega) only [up2_n, up2_e] <;> omega
    have X1 : IvX n m p b K Ts T C Pb (mAge K sh j g) := hX.congr hN hK (fun c s h1 h2 => a0 _ _ (by omega)) (a0 _ _ (by omega))
    have b1 : mAge K sh j g (11 + 5 * K) 0 = g (11 + 5 * K) 0 := a0 _ _ (by omega)
    have b2 : mAge K sh j g (11 + 5 * K) 1 = g (11 + 5 * K) 1 := a0 _ _ (by omega)
    have b3 : mct (mAge K sh j g) K = mct g K := a0 _ _ (by omega)
    have b4 : ∀ x, mAge K sh j g (12 + 5 * K) x = g (12 + 5 * K) x := fun x => a0 _ _ (by omega)
    have b5 : ∀ x, mAge K sh j g (13 + 5 * K) x = g (13 + 5 * K) x := fun x => a0 _ _ (by omega)
    have b6 : ∀ x, x ≠ j → mAge K sh j g (14 + 5 * K) x = g (14 + 5 * K) x := fun x hx => a0 _ _ (by omega)
    have b7 : ∀ x, x ≠ j → mAge K sh j g (15 + 5 * K) x = g (15 + 5 * K) x := fun x hx => a0 _ _ (by omega)
    have s1 : sumF (fun x => g (12 + 5 * K) (j + x)) (e + 1) = g (12 + 5 * K) j + sumF (fun x => g (12 + 5 * K) (j + 1 + x)) e := by
      rw [sumF_head]
      congr 1
      exact sumF_congr e (fun x hx => by rw [show j + 1 + x = j + (x + 1) by omega])
    rw [s1] at d6
    generalize mAge K sh j g = g1 at *
    by_cases c : 3 * g1 (13 + 5 * K) j ≤ g1 (14 + 5 * K) j
    · rw [if_pos c]
      obtain ⟨w1, w2⟩ := mGradeOf_b (g1 (13 + 5 * K) j) (g1 (15 + 5 * K) j)
      have hk : (mGradeOf (g1 (13 + 5 * K) j) (g1 (15 + 5 * K) j)).toNat < 4 := by omega
      have eS : mStore K j g1 = up2 (up2 g1 (43 + (mGradeOf (g1 (13 + 5 * K) j) (g1 (15 + 5 * K) j)).toNat) 0 (g1 (43 + (mGradeOf (g1 (13 + 5 * K) j) (g1 (15 + 5 * K) j)).toNat) 0 + g1 (12 + 5 * K) j)) (11 + 5 * K) 1 (g1 (11 + 5 * K) 1 - g1 (12 + 5 * K) j) := rfl
      rw [eS]
      generalize (mGradeOf (g1 (13 + 5 * K) j) (g1 (15 + 5 * K) j)).toNat = k at *
      clear w1 w2 eS
      refine ih (j + 1) t _ ?_ ?_
      · obtain ⟨hS, hH, hG, hR, hP, hB, hQ, hE⟩ := X1
        refine ⟨hS.congr fun s hs => (by simp (disch := omega) only [up2_n]), hH.congr fun s hs => (by simp (disch := omega) only [up2_n]), hG.congr fun i hi s hs => (by simp (disch := omega) only [up2_n]), fun k hk hne => (hR k hk hne).congr (fun s hs => (by simp (disch := omega) only [up2_n])) (fun w h1 h2 j hj => (by simp (disch := omega) only [up2_n])), hP.congr fun i hi s hs => (by simp (disch := omega) only [up2_n]), hB.congr (by simp (disch := omega) only [up2_n]) (fun i hi s hs => (by simp (disch := omega) only [up2_n])), ?_, ?_⟩
        · intro x hx
          have h1 := hQ x hx
          by_cases q : x = k
          · subst q
            simp (disch := omega) only [up2_n, up2_e]
            rw [b4]
            omega
          · simp (disch := omega) only [up2_n]
            exact h1
        · unfold IvE at hE ⊢
          have v1 : up2 (up2 g1 (43 + k) 0 (g1 (43 + k) 0 + g1 (12 + 5 * K) j)) (11 + 5 * K) 1 (g1 (11 + 5 * K) 1 - g1 (12 + 5 * K) j) (11 + 5 * K) 1 = g1 (11 + 5 * K) 1 - g1 (12 + 5 * K) j := up2_e _ _ _ _
          have v2 : up2 (up2 g1 (43 + k) 0 (g1 (43 + k) 0 + g1 (12 + 5 * K) j)) (11 + 5 * K) 1 (g1 (11 + 5 * K) 1 - g1 (12 + 5 * K) j) (43 + k) 0 = g1 (43 + k) 0 + g1 (12 + 5 * K) j := by simp (disch := omega) only [up2_n, up2_e]
          have v3 : up2 (up2 g1 (43 + k) 0 (g1 (43 + k) 0 + g1 (12 + 5 * K) j)) (11 + 5 * K) 1 (g1 (11 + 5 * K) 1 - g1 (12 + 5 * K) j) 0 15 = g1 0 15 := (by simp (disch := omega) only [up2_n])
          have v4 : up2 (up2 g1 (43 + k) 0 (g1 (43 + k) 0 + g1 (12 + 5 * K) j)) (11 + 5 * K) 1 (g1 (11 + 5 * K) 1 - g1 (12 + 5 * K) j) 0 16 = g1 0 16 := (by simp (disch := omega) only [up2_n])
          generalize hg2 : up2 (up2 g1 (43 + k) 0 (g1 (43 + k) 0 + g1 (12 + 5 * K) j)) (11 + 5 * K) 1 (g1 (11 + 5 * K) 1 - g1 (12 + 5 * K) j) = g2 at *
          have a1 := sumF_ch (f := fun k => g1 (11 + 5 * k) 1) (f' := fun k' => g2 (11 + 5 * k') 1) m hK (fun j hj hne => by subst hg2; simp (disch := omega) only [up2_n])
          have a2 := sumF_ch (f := fun k => g1 (43 + k) 0) (f' := fun k' => g2 (43 + k') 0) 4 hk (fun j hj hne => by subst hg2; simp (disch := omega) only [up2_n])
          have a3 := sumF_congr (f := fun i => g1 (39 + i) 4) (f' := fun i' => g2 (39 + i') 4) b (fun j hj => by subst hg2; simp (disch := omega) only [up2_n])
          have a4 := sumF_congr (f := fun i => g1 (31 + i) 4) (f' := fun i' => g2 (31 + i') 4) p (fun j hj => by subst hg2; simp (disch := omega) only [up2_n])
          have a5 := sumF_congr (f := fun k => g1 (43 + k) 3) (f' := fun k' => g2 (43 + k') 3) 4 (fun j hj => by subst hg2; simp (disch := omega) only [up2_n])
          rw [a1, a2, a3, a4, a5, v1, v2, v3, v4]
          omega
      · have v : ∀ c s, c ≤ 15 + 5 * K → ¬ (c = 11 + 5 * K ∧ s = 1) → up2 (up2 g1 (43 + k) 0 (g1 (43 + k) 0 + g1 (12 + 5 * K) j)) (11 + 5 * K) 1 (g1 (11 + 5 * K) 1 - g1 (12 + 5 * K) j) c s = g1 c s := fun c s h1 h2 => (by simp (disch := omega) only [up2_n])
        have v1 : up2 (up2 g1 (43 + k) 0 (g1 (43 + k) 0 + g1 (12 + 5 * K) j)) (11 + 5 * K) 1 (g1 (11 + 5 * K) 1 - g1 (12 + 5 * K) j) (11 + 5 * K) 1 = g1 (11 + 5 * K) 1 - g1 (12 + 5 * K) j := up2_e _ _ _ _
        generalize up2 (up2 g1 (43 + k) 0 (g1 (43 + k) 0 + g1 (12 + 5 * K) j)) (11 + 5 * K) 1 (g1 (11 + 5 * K) 1 - g1 (12 + 5 * K) j) = g2 at *
        refine ⟨by rw [v _ _ (by omega) (by omega), b1]; exact d1, by rw [v _ _ (by omega) (by omega), b1]; exact d2, by rw [v _ 0 (by omega) (by omega), v1, b1, b2, b4]; omega, by omega, ?_, ?_, fun x hx => ?_, fun x h1 h2 => ?_⟩
        · show g2 (11 + 5 * K) 2 = _
          rw [v _ _ (by omega) (by omega)]
          refine b3.trans (d5.trans ?_)
          omega
        · rw [v1, b2, b4, sumF_congr (f := fun x => g (12 + 5 * K) x) t (fun x hx => (v _ _ (by omega) (by omega)).trans (b4 x)), sumF_congr (f := fun x => g (12 + 5 * K) (j + 1 + x)) e (fun x hx => (v _ _ (by omega) (by omega)).trans (b4 _))]
          omega
        · rw [v _ _ (by omega) (by omega), v _ _ (by omega) (by omega), v _ _ (by omega) (by omega), v _ _ (by omega) (by omega), b4, b5, b6 x (by omega), b7 x (by omega)]
          exact d7 x hx
        · rw [v _ _ (by omega) (by omega), v _ _ (by omega) (by omega), v _ _ (by omega) (by omega), v _ _ (by omega) (by omega), b4, b5, b6 x (by omega), b7 x (by omega)]
          exact d8 x (by omega) (by omega)
    · rw [if_neg c]
      have v : ∀ c s, ¬ (12 + 5 * K ≤ c ∧ c ≤ 15 + 5 * K ∧ s = t) → mMove K t j g1 c s = g1 c s := fun c s h2 => by unfold mMove; simp (disch := omega) only [up2_n]
      have v1 : mMove K t j g1 (12 + 5 * K) t = g1 (12 + 5 * K) j ∧ mMove K t j g1 (13 + 5 * K) t = g1 (13 + 5 * K) j ∧ mMove K t j g1 (14 + 5 * K) t = g1 (14 + 5 * K) j ∧ mMove K t j g1 (15 + 5 * K) t = g1 (15 + 5 * K) j := by
        unfold mMove
        simp (disch := omega) only [up2_n, up2_e, and_self]
      generalize mMove K t j g1 = g2 at *
      obtain ⟨v2, v3, v4, v5⟩ := v1
      refine ih (j + 1) (t + 1) _ (X1.congr hN hK (fun c s h1 h2 => v _ _ (by omega)) (v _ _ (by omega))) ⟨by rw [v _ _ (by omega), b1]; exact d1, by rw [v _ _ (by omega), b1]; exact d2, by rw [v _ _ (by omega), v _ _ (by omega), b1, b2]; exact d3, by omega, ?_, ?_, fun x hx => ?_, fun x h1 h2 => ?_⟩
      · show g2 (11 + 5 * K) 2 = _
        rw [v _ _ (by omega)]
        refine b3.trans (d5.trans ?_)
        omega
      · rw [v _ _ (by omega), b2, show sumF (fun x => g2 (12 + 5 * K) x) (t + 1) = sumF (fun x => g2 (12 + 5 * K) x) t + g2 (12 + 5 * K) t from rfl, v2, b4, sumF_congr (f := fun x => g (12 + 5 * K) x) t (fun x hx => (v _ _ (by omega)).trans (b4 x)), sumF_congr (f := fun x => g (12 + 5 * K) (j + 1 + x)) e (fun x hx => (v _ _ (by omega)).trans (b4 _))]
        omega
      · by_cases q : x = t
        · subst q
          rw [v2, v3, v4, v5]
          rw [b4, b5]
          rw [b5] at c
          omega
        · rw [v _ _ (by omega), v _ _ (by omega), v _ _ (by omega), v _ _ (by omega), b4, b5, b6 x (by omega), b7 x (by omega)]
          exact d7 x (by omega)
      · rw [v _ _ (by omega), v _ _ (by omega), v _ _ (by omega), v _ _ (by omega), b4, b5, b6 x (by omega), b7 x (by omega)]
        exact d8 x (by omega) (by omega)

/-! 37 L3: the small steps of an hour, in the class -/
theorem RP.lay {n m p b r : Nat} {F : Nat → Nat → Int32} {g : GM} (hP : RP n m p b r F g) {K : Nat} {q t : Int} (hK : K < m) (h0 : 0 ≤ mct g K) (x : Nat) (hx : (mct g K).toNat = x) :
    RP n m p b r (up2 (up2 (up2 (up2 (up2 (up2 F (r + (12 + 5 * K)) x (iI q)) (r + (13 + 5 * K)) x (iI t)) (r + (14 + 5 * K)) x (iI 0)) (r + (15 + 5 * K)) x (iI 0)) (r + (11 + 5 * K)) 2 (iI (g (11 + 5 * K) 2 + 1))) (r + (11 + 5 * K)) 1 (iI (g (11 + 5 * K) 1 + q))) (mLay K q t g) := by
  have a := (((((Ag.up hP (12 + 5 * K) x (v := q) rfl).up (13 + 5 * K) x (v := t) rfl).up (14 + 5 * K) x (v := 0) rfl).up (15 + 5 * K) x (v := 0) rfl).up (11 + 5 * K) 2 (v := g (11 + 5 * K) 2 + 1) rfl).up (11 + 5 * K) 1 (v := g (11 + 5 * K) 1 + q) rfl
  subst hx
  refine Ag.mono a ?_
  intro c s hl
  have hct : ∀ k, k < m → mct (mLay K q t g) k = if k = K then mct g K + 1 else mct g k := by
    intro k hk
    unfold mLay
    by_cases e : k = K
    · subst e
      rw [if_pos rfl]
      show up2 _ _ _ _ (11 + 5 * k) 2 = _
      rw [up2_n _ _ _ _ _ _ (by omega), up2_e]
      rfl
    · rw [if_neg e]
      show up2 _ _ _ _ (11 + 5 * k) 2 = _
      simp (disch := omega) only [up2_n]
      rfl
  clear a hP
  have old : Lv n m p b (mct g) c s → (((((((Lv n m p b (mct g) c s ∨ (c = 12 + 5 * K ∧ s = (mct g K).toNat)) ∨ (c = 13 + 5 * K ∧ s = (mct g K).toNat)) ∨ (c = 14 + 5 * K ∧ s = (mct g K).toNat)) ∨ (c = 15 + 5 * K ∧ s = (mct g K).toNat)) ∨ (c = 11 + 5 * K ∧ s = 2)) ∨ (c = 11 + 5 * K ∧ s = 1))) := fun q => Or.inl (Or.inl (Or.inl (Or.inl (Or.inl (Or.inl q)))))
  unfold Lv at hl
  rcases hl with hl | hl | hl | hl | hl | hl
  · exact old (Or.inl hl)
  · exact old (Or.inr (Or.inl hl))
  · exact old (Or.inr (Or.inr (Or.inl hl)))
  · exact old (Or.inr (Or.inr (Or.inr (Or.inl hl))))
  · obtain ⟨l1, l2, l3, l4⟩ := hl
    rw [hct _ (by omega)] at l4
    by_cases e : (c - 11) / 5 = K
    · rw [if_pos e] at l4
      by_cases e2 : (s : Int) < mct g K
      · exact old (Or.inr (Or.inr (Or.inr (Or.inr (Or.inl ⟨l1, l2, l3, by rw [e]; exact e2⟩)))))
      · have e3 : s = (mct g K).toNat := by omega
        have e4 : c = 12 + 5 * K ∨ c = 13 + 5 * K ∨ c = 14 + 5 * K ∨ c = 15 + 5 * K := by clear e2 e3 l4 h0 hct old; omega
        rcases e4 with e4 | e4 | e4 | e4
        · exact Or.inl (Or.inl (Or.inl (Or.inl (Or.inl (Or.inr ⟨e4, e3⟩)))))
        · exact Or.inl (Or.inl (Or.inl (Or.inl (Or.inr ⟨e4, e3⟩))))
        · exact Or.inl (Or.inl (Or.inl (Or.inr ⟨e4, e3⟩)))
        · exact Or.inl (Or.inl (Or.inr ⟨e4, e3⟩))
    · rw [if_neg e] at l4
      exact old (Or.inr (Or.inr (Or.inr (Or.inr (Or.inl ⟨l1, l2, l3, l4⟩)))))
  · exact old (Or.inr (Or.inr (Or.inr (Or.inr (Or.inr hl)))))
theorem lay_E {n m p b r : Nat} {h : AH} {g : GM} (hS : SkR h r) (hP : RP n m p b r (hI h) g) {K : Nat} {q t : Int} (hK : K < m) (hm : m ≤ 4) {x : Nat} (hc : g (11 + 5 * K) 2 = (x : Int)) (h1 : x < 60) :
    f_Rack_lay h (r + (11 + 5 * K)) (iI q) (iI t) = some (sI h (up2 (up2 (up2 (up2 (up2 (up2 (hI h) (r + (12 + 5 * K)) x (iI q)) (r + (13 + 5 * K)) x (iI t)) (r + (14 + 5 * K)) x (iI 0)) (r + (15 + 5 * K)) x (iI 0)) (r + (11 + 5 * K)) 2 (iI ((x : Int) + 1))) (r + (11 + 5 * K)) 1 (iI (g (11 + 5 * K) 1 + q)))) := by
  simp (disch := first | decide | omega) only [f_Rack_lay, Nat.add_zero, true_and, and_true, gd_T, bn_S, bv_S, lq_E, wI_s, sI_s, hI_s, hT_s, hL_s, hR_s, hJ_s, hN_s, hU_s, nI_L, z_i, o_i, iI_add, iI_sub, iI_mul, iI_neg, iI_lt, iI_le, iI_eq, iI_ix, Int.toNat_natCast, if_neg, if_pos, gd_P, inb, ix, hS.t, hS.f0, hS.f1, hS.f2, hS.f3, hS.f4, hS.f5, hS.at1, hS.al1, hS.at2, hS.al2, hS.at3, hS.al3, hS.at4, hS.al4, hS.at5, hS.al5, hS.at6, hS.al6, hS.gR, hS.gT, hS.kR, hS.kT, hS.k3, hS.k4, hS.k5, hS.k6, hS.kt1, hS.kt2, hS.kt3, hS.kt4, hS.kl1, hS.kl2, hS.kl3, hS.kl4, hS.pR, hS.pT, hS.bR, hS.bT, hS.qR, hS.qT, hP.ra, hc, up2_e, up2_n]
theorem free_E {n m p b r : Nat} {h : AH} {g : GM} (hS : SkR h r) (hP : RP n m p b r (hI h) g) {K : Nat} (hK : K < m) (hm : m ≤ 4) : f_Rack_free h (r + (11 + 5 * K)) = some (h, iI (mRoom g K)) := by
  simp (disch := first | decide | omega) only [f_Rack_free, Nat.add_zero, true_and, and_true, gd_T, bn_S, bv_S, lq_E, wI_s, sI_s, hI_s, hT_s, hL_s, hR_s, hJ_s, hN_s, hU_s, nI_L, z_i, o_i, iI_add, iI_sub, iI_mul, iI_neg, hS.kT, hP.ra, gd_P]
  rfl
theorem most_E {n m p b r : Nat} {h : AH} {g : GM} (hS : SkR h r) (hP : RP n m p b r (hI h) g) {i : Nat} (hi : i < p) (hp : p ≤ 8) (h1 : 0 ≤ g (31 + i) 3) (h2 : g (31 + i) 3 ≤ 20) (h3 : 1 ≤ g (31 + i) 2) (h4 : g (31 + i) 2 ≤ 9) : f_Peeler_mostInAnHour h (r + (31 + i)) = some (h, iI (mMost g i)) := by
  unfold mMost
  by_cases c1 : g (31 + i) 3 < 1
  · simp (disch := first | decide | omega) only [f_Peeler_mostInAnHour, Nat.add_zero, true_and, and_true, gd_T, bn_S, bv_S, lq_E, wI_s, sI_s, hI_s, hT_s, hL_s, hR_s, hJ_s, hN_s, hU_s, nI_L, z_i, o_i, iI_add, iI_sub, iI_mul, iI_neg, iI_lt, iI_le, iI_eq, iI_ix, Int.toNat_natCast, hS.pT, hP.pe, if_neg, if_pos]
  · by_cases c2 : g (31 + i) 3 < 10
    · simp (disch := first | decide | omega) only [f_Peeler_mostInAnHour, Nat.add_zero, true_and, and_true, gd_T, bn_S, bv_S, lq_E, wI_s, sI_s, hI_s, hT_s, hL_s, hR_s, hJ_s, hN_s, hU_s, nI_L, z_i, o_i, iI_add, iI_sub, iI_mul, iI_neg, iI_lt, iI_le, iI_eq, iI_ix, Int.toNat_natCast, hS.pT, hP.pe, if_neg, if_pos, iI_div]
    · simp (disch := first | decide | omega) only [f_Peeler_mostInAnHour, Nat.add_zero, true_and, and_true, gd_T, bn_S, bv_S, lq_E, wI_s, sI_s, hI_s, hT_s, hL_s, hR_s, hJ_s, hN_s, hU_s, nI_L, z_i, o_i, iI_add, iI_sub, iI_mul, iI_neg, iI_lt, iI_le, iI_eq, iI_ix, Int.toNat_natCast, hS.pT, hP.pe, if_neg, if_pos]

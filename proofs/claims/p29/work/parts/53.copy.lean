/-! 53 L3: a river is copied (written by l3/gen53.py) -/
theorem loopG (L : Nat → AH → Int32 → Option AH) (K : AH → Option AH) (N : Nat) (h0 : AH) (J : Nat → (Nat → Nat → Int32) → Prop) (hstep : ∀ (fu i : Nat) (F : Nat → Nat → Int32), i < N → J i F → ∃ F', L (fu + 1) (sI h0 F) (iI (i : Int)) = L fu (sI h0 F') (iI ((i + 1 : Nat) : Int)) ∧ J (i + 1) F') (hend : ∀ (fu : Nat) (F : Nat → Nat → Int32), J N F → L (fu + 1) (sI h0 F) (iI (N : Int)) = K (sI h0 F)) :
    ∀ (k i fu : Nat) (F : Nat → Nat → Int32), i + k = N → k < fu → J i F → ∃ F', L fu (sI h0 F) (iI (i : Int)) = K (sI h0 F') ∧ J N F' := by
  intro k
  induction k with
  | zero =>
    intro i fu F hi hf hJ
    obtain ⟨fu, rfl⟩ : ∃ x, fu = x + 1 := ⟨fu - 1, by omega⟩
    obtain rfl : i = N := by omega
    exact ⟨F, hend fu F hJ, hJ⟩
  | succ k ih =>
    intro i fu F hi hf hJ
    obtain ⟨fu, rfl⟩ : ∃ x, fu = x + 1 := ⟨fu - 1, by omega⟩
    obtain ⟨F1, e1, e2⟩ := hstep fu i F (by omega) hJ
    obtain ⟨F2, d1, d2⟩ := ih (i + 1) fu F1 (by omega) (by omega) e2
    exact ⟨F2, e1.trans d1, d2⟩
theorem Ag.cp {P : Nat → Nat → Prop} {r : Nat} {F : Nat → Nat → Int32} {g : GM} (h : Ag P r F g) (c s : Nat) {x : Int32} (hx : x = iI (g c s)) : Ag (fun c' s' => P c' s' ∨ (c' = c ∧ s' = s)) r (up2 F (r + c) s x) g := by
  intro c' s' hp
  by_cases e : c' = c ∧ s' = s
  · obtain ⟨rfl, rfl⟩ := e
    rw [up2_e, hx]
  · rw [up2_n _ _ _ _ _ _ (fun q => e ⟨by omega, q.2⟩)]
    rcases hp with hp | hp
    · exact h _ _ hp
    · exact absurd hp e
def Lq (e n m p b q : Nat) (ct : Nat → Int) (c s : Nat) : Prop :=
  (c = 0 ∧ 6 ≤ s ∧ s < 18) ∨ (c = 6 ∧ s < e) ∨ (7 ≤ c ∧ c < 7 + n ∧ s < 3) ∨ (11 ≤ c ∧ c < 11 + 5 * m ∧ (c - 11) % 5 = 0 ∧ s < 3) ∨
  (11 ≤ c ∧ c < 11 + 5 * m ∧ (c - 11) % 5 ≠ 0 ∧ (s : Int) < ct ((c - 11) / 5)) ∨ (31 ≤ c ∧ c < 31 + p ∧ s < 7) ∨ (39 ≤ c ∧ c < 39 + b ∧ s < 7) ∨ (43 ≤ c ∧ c < 43 + q ∧ s < 4)
-- the copy at a of the river at o, on the cells P
def Cp (n m p b a o : Nat) (P : Nat → Nat → Prop) (F0 F : Nat → Nat → Int32) (g : GM) : Prop := Ag P a F g ∧ RP n m p b o F g ∧ Fm a F0 F
theorem Cp.w {n m p b a o : Nat} (hN : Nm n m p b) (hao : a + 47 ≤ o ∨ o + 47 ≤ a) {P : Nat → Nat → Prop} {F0 F : Nat → Nat → Int32} {g : GM} (h : Cp n m p b a o P F0 F g) (c s : Nat) (hc : c < 47) {x : Int32} (hx : x = iI (g c s)) : Cp n m p b a o (fun c' s' => P c' s' ∨ (c' = c ∧ s' = s)) F0 (up2 F (a + c) s x) g :=
  ⟨h.1.cp c s hx, h.2.1.fr hN (fun c' s' h' => up2_n _ _ _ _ _ _ (by omega)), h.2.2.up _ _ _ hc⟩
theorem Cp.mono {n m p b a o : Nat} {P Q : Nat → Nat → Prop} {F0 F : Nat → Nat → Int32} {g : GM} (h : Cp n m p b a o P F0 F g) (hq : ∀ c s, Q c s → P c s) : Cp n m p b a o Q F0 F g := ⟨h.1.mono hq, h.2⟩
theorem Lq_e {n m p b q i : Nat} {ct : Nat → Int} {c s : Nat} (h : Lq (i + 1) n m p b q ct c s) : Lq i n m p b q ct c s ∨ (c = 6 ∧ s = i) := by
  by_cases q : (c = 6 ∧ s = i)
  · exact Or.inr q
  · refine Or.inl ?_
    unfold Lq at h ⊢
    rcases h with h | h | h | h | h | h | h | h
    · exact Or.inl (h)
    · refine Or.inr (Or.inl (?_))
      omega
    · exact Or.inr (Or.inr (Or.inl (h)))
    · exact Or.inr (Or.inr (Or.inr (Or.inl (h))))
    · exact Or.inr (Or.inr (Or.inr (Or.inr (Or.inl (h)))))
    · exact Or.inr (Or.inr (Or.inr (Or.inr (Or.inr (Or.inl (h))))))
    · exact Or.inr (Or.inr (Or.inr (Or.inr (Or.inr (Or.inr (Or.inl (h)))))))
    · exact Or.inr (Or.inr (Or.inr (Or.inr (Or.inr (Or.inr (Or.inr (h)))))))
theorem Lq_n {e m p b q i : Nat} {ct : Nat → Int} {c s : Nat} (h : Lq e (i + 1) m p b q ct c s) : Lq e i m p b q ct c s ∨ (c = 7 + i ∧ s < 3) := by
  by_cases q : (c = 7 + i ∧ s < 3)
  · exact Or.inr q
  · refine Or.inl ?_
    unfold Lq at h ⊢
    rcases h with h | h | h | h | h | h | h | h
    · exact Or.inl (h)
    · exact Or.inr (Or.inl (h))
    · refine Or.inr (Or.inr (Or.inl (?_)))
      omega
    · exact Or.inr (Or.inr (Or.inr (Or.inl (h))))
    · exact Or.inr (Or.inr (Or.inr (Or.inr (Or.inl (h)))))
    · exact Or.inr (Or.inr (Or.inr (Or.inr (Or.inr (Or.inl (h))))))
    · exact Or.inr (Or.inr (Or.inr (Or.inr (Or.inr (Or.inr (Or.inl (h)))))))
    · exact Or.inr (Or.inr (Or.inr (Or.inr (Or.inr (Or.inr (Or.inr (h)))))))
theorem Lq_p {e n m b q i : Nat} {ct : Nat → Int} {c s : Nat} (h : Lq e n m (i + 1) b q ct c s) : Lq e n m i b q ct c s ∨ (c = 31 + i ∧ s < 7) := by
  by_cases q : (c = 31 + i ∧ s < 7)
  · exact Or.inr q
  · refine Or.inl ?_
    unfold Lq at h ⊢
    rcases h with h | h | h | h | h | h | h | h
    · exact Or.inl (h)
    · exact Or.inr (Or.inl (h))
    · exact Or.inr (Or.inr (Or.inl (h)))
    · exact Or.inr (Or.inr (Or.inr (Or.inl (h))))
    · exact Or.inr (Or.inr (Or.inr (Or.inr (Or.inl (h)))))
    · refine Or.inr (Or.inr (Or.inr (Or.inr (Or.inr (Or.inl (?_))))))
      omega
    · exact Or.inr (Or.inr (Or.inr (Or.inr (Or.inr (Or.inr (Or.inl (h)))))))
    · exact Or.inr (Or.inr (Or.inr (Or.inr (Or.inr (Or.inr (Or.inr (h)))))))
theorem Lq_b {e n m p q i : Nat} {ct : Nat → Int} {c s : Nat} (h : Lq e n m p (i + 1) q ct c s) : Lq e n m p i q ct c s ∨ (c = 39 + i ∧ s < 7) := by
  by_cases q : (c = 39 + i ∧ s < 7)
  · exact Or.inr q
  · refine Or.inl ?_
    unfold Lq at h ⊢
    rcases h with h | h | h | h | h | h | h | h
    · exact Or.inl (h)
    · exact Or.inr (Or.inl (h))
    · exact Or.inr (Or.inr (Or.inl (h)))
    · exact Or.inr (Or.inr (Or.inr (Or.inl (h))))
    · exact Or.inr (Or.inr (Or.inr (Or.inr (Or.inl (h)))))
    · exact Or.inr (Or.inr (Or.inr (Or.inr (Or.inr (Or.inl (h))))))
    · refine Or.inr (Or.inr (Or.inr (Or.inr (Or.inr (Or.inr (Or.inl (?_)))))))
      omega
    · exact Or.inr (Or.inr (Or.inr (Or.inr (Or.inr (Or.inr (Or.inr (h)))))))
theorem Lq_q {e n m p b i : Nat} {ct : Nat → Int} {c s : Nat} (h : Lq e n m p b (i + 1) ct c s) : Lq e n m p b i ct c s ∨ (c = 43 + i ∧ s < 4) := by
  by_cases q : (c = 43 + i ∧ s < 4)
  · exact Or.inr q
  · refine Or.inl ?_
    unfold Lq at h ⊢
    rcases h with h | h | h | h | h | h | h | h
    · exact Or.inl (h)
    · exact Or.inr (Or.inl (h))
    · exact Or.inr (Or.inr (Or.inl (h)))
    · exact Or.inr (Or.inr (Or.inr (Or.inl (h))))
    · exact Or.inr (Or.inr (Or.inr (Or.inr (Or.inl (h)))))
    · exact Or.inr (Or.inr (Or.inr (Or.inr (Or.inr (Or.inl (h))))))
    · exact Or.inr (Or.inr (Or.inr (Or.inr (Or.inr (Or.inr (Or.inl (h)))))))
    · refine Or.inr (Or.inr (Or.inr (Or.inr (Or.inr (Or.inr (Or.inr (?_)))))))
      omega
theorem Lq_m {e n p b q i : Nat} {ct : Nat → Int} {c s : Nat} (h : Lq e n (i + 1) p b q ct c s) : Lq e n i p b q ct c s ∨ (c = 11 + 5 * i ∧ s < 3) ∨ ((c = 12 + 5 * i ∨ c = 13 + 5 * i ∨ c = 14 + 5 * i ∨ c = 15 + 5 * i) ∧ (s : Int) < ct i) := by
  unfold Lq at h
  rcases h with h | h | h | h | h | h | h | h
  · exact Or.inl (Or.inl h)
  · exact Or.inl (Or.inr (Or.inl h))
  · exact Or.inl (Or.inr (Or.inr (Or.inl h)))
  · by_cases q1 : c = 11 + 5 * i
    · exact Or.inr (Or.inl ⟨q1, h.2.2.2⟩)
    · exact Or.inl (Or.inr (Or.inr (Or.inr (Or.inl ⟨h.1, by omega, h.2.2.1, h.2.2.2⟩))))
  · obtain ⟨l1, l2, l3, l4⟩ := h
    by_cases q1 : (c - 11) / 5 = i
    · rw [q1] at l4
      exact Or.inr (Or.inr ⟨by omega, l4⟩)
    · exact Or.inl (Or.inr (Or.inr (Or.inr (Or.inr (Or.inl ⟨l1, by omega, l3, l4⟩)))))
  · exact Or.inl (Or.inr (Or.inr (Or.inr (Or.inr (Or.inr (Or.inl h))))))
  · exact Or.inl (Or.inr (Or.inr (Or.inr (Or.inr (Or.inr (Or.inr (Or.inl h)))))))
  · exact Or.inl (Or.inr (Or.inr (Or.inr (Or.inr (Or.inr (Or.inr (Or.inr h)))))))
theorem cp_Garden {n m p b a o : Nat} (hN : Nm n m p b) (hao : a + 47 ≤ o ∨ o + 47 ≤ a) {h : AH} {g : GM} (hA : SkR h a) (hS : SkR h o) {F0 F : Nat → Nat → Int32} {i : Nat} (hi : i < n) (hc : Cp n m p b a o (Lq 12 i 0 0 0 0 (mct g)) F0 F g) : ∃ F', f_Garden_copyFrom (sI h F) (a + (7 + i)) (o + (7 + i)) = some (sI h F') ∧ Cp n m p b a o (Lq 12 (i + 1) 0 0 0 0 (mct g)) F0 F' g := by
  have hN' := hN
  unfold Nm at hN'
  have hP := hc.2.1
  refine ⟨_, ?_, ((((hc.w hN hao (7 + i) 0 (by omega) rfl).w hN hao (7 + i) 1 (by omega) rfl).w hN hao (7 + i) 2 (by omega) rfl)).mono ?_⟩
  · simp (disch := first | decide | omega) only [f_Garden_copyFrom, Nat.add_zero, true_and, and_true, gd_T, bn_S, bv_S, lq_E, wI_s, sI_s, hI_s, hT_s, hL_s, hR_s, hJ_s, hN_s, hU_s, if_neg, if_pos, gd_P, inb, ix, hA.gT, hS.gT, hP.ga, up2_e, up2_n]
  · intro c s hl
    rcases Lq_n hl with h1 | ⟨h1, h2⟩
    · exact Or.inl (Or.inl (Or.inl (h1)))
    · rcases (show s = 0 ∨ s = 1 ∨ s = 2 by omega) with rfl | rfl | rfl
      · exact Or.inl (Or.inl (Or.inr ⟨h1, rfl⟩))
      · exact Or.inl (Or.inr ⟨h1, rfl⟩)
      · exact Or.inr ⟨h1, rfl⟩
theorem cp_Peeler {n m p b a o : Nat} (hN : Nm n m p b) (hao : a + 47 ≤ o ∨ o + 47 ≤ a) {h : AH} {g : GM} (hA : SkR h a) (hS : SkR h o) {F0 F : Nat → Nat → Int32} {i : Nat} (hi : i < p) (hr : ((iI (g (31 + i) 6) = 0) ∨ (iI (g (31 + i) 6) = 1)) = True) (hc : Cp n m p b a o (Lq 12 n m i 0 0 (mct g)) F0 F g) : ∃ F', f_Peeler_copyFrom (sI h F) (a + (31 + i)) (o + (31 + i)) = some (sI h F') ∧ Cp n m p b a o (Lq 12 n m (i + 1) 0 0 (mct g)) F0 F' g := by
  have hN' := hN
  unfold Nm at hN'
  have hP := hc.2.1
  refine ⟨_, ?_, ((((((((hc.w hN hao (31 + i) 0 (by omega) rfl).w hN hao (31 + i) 1 (by omega) rfl).w hN hao (31 + i) 2 (by omega) rfl).w hN hao (31 + i) 3 (by omega) rfl).w hN hao (31 + i) 4 (by omega) rfl).w hN hao (31 + i) 5 (by omega) rfl).w hN hao (31 + i) 6 (by omega) rfl)).mono ?_⟩
  · simp (disch := first | decide | omega) only [f_Peeler_copyFrom, Nat.add_zero, true_and, and_true, gd_T, bn_S, bv_S, lq_E, wI_s, sI_s, hI_s, hT_s, hL_s, hR_s, hJ_s, hN_s, hU_s, if_neg, if_pos, gd_P, inb, ix, hA.pT, hS.pT, hP.pe, up2_e, up2_n, hr]
  · intro c s hl
    rcases Lq_p hl with h1 | ⟨h1, h2⟩
    · exact Or.inl (Or.inl (Or.inl (Or.inl (Or.inl (Or.inl (Or.inl (h1)))))))
    · rcases (show s = 0 ∨ s = 1 ∨ s = 2 ∨ s = 3 ∨ s = 4 ∨ s = 5 ∨ s = 6 by omega) with rfl | rfl | rfl | rfl | rfl | rfl | rfl
      · exact Or.inl (Or.inl (Or.inl (Or.inl (Or.inl (Or.inl (Or.inr ⟨h1, rfl⟩))))))
      · exact Or.inl (Or.inl (Or.inl (Or.inl (Or.inl (Or.inr ⟨h1, rfl⟩)))))
      · exact Or.inl (Or.inl (Or.inl (Or.inl (Or.inr ⟨h1, rfl⟩))))
      · exact Or.inl (Or.inl (Or.inl (Or.inr ⟨h1, rfl⟩)))
      · exact Or.inl (Or.inl (Or.inr ⟨h1, rfl⟩))
      · exact Or.inl (Or.inr ⟨h1, rfl⟩)
      · exact Or.inr ⟨h1, rfl⟩
theorem cp_Boat {n m p b a o : Nat} (hN : Nm n m p b) (hao : a + 47 ≤ o ∨ o + 47 ≤ a) {h : AH} {g : GM} (hA : SkR h a) (hS : SkR h o) {F0 F : Nat → Nat → Int32} {i : Nat} (hi : i < b) (hc : Cp n m p b a o (Lq 12 n m p i 0 (mct g)) F0 F g) : ∃ F', f_Boat_copyFrom (sI h F) (a + (39 + i)) (o + (39 + i)) = some (sI h F') ∧ Cp n m p b a o (Lq 12 n m p (i + 1) 0 (mct g)) F0 F' g := by
  have hN' := hN
  unfold Nm at hN'
  have hP := hc.2.1
  refine ⟨_, ?_, ((((((((hc.w hN hao (39 + i) 0 (by omega) rfl).w hN hao (39 + i) 1 (by omega) rfl).w hN hao (39 + i) 2 (by omega) rfl).w hN hao (39 + i) 3 (by omega) rfl).w hN hao (39 + i) 4 (by omega) rfl).w hN hao (39 + i) 5 (by omega) rfl).w hN hao (39 + i) 6 (by omega) rfl)).mono ?_⟩
  · simp (disch := first | decide | omega) only [f_Boat_copyFrom, Nat.add_zero, true_and, and_true, gd_T, bn_S, bv_S, lq_E, wI_s, sI_s, hI_s, hT_s, hL_s, hR_s, hJ_s, hN_s, hU_s, if_neg, if_pos, gd_P, inb, ix, hA.bT, hS.bT, hP.bo, up2_e, up2_n]
  · intro c s hl
    rcases Lq_b hl with h1 | ⟨h1, h2⟩
    · exact Or.inl (Or.inl (Or.inl (Or.inl (Or.inl (Or.inl (Or.inl (h1)))))))
    · rcases (show s = 0 ∨ s = 1 ∨ s = 2 ∨ s = 3 ∨ s = 4 ∨ s = 5 ∨ s = 6 by omega) with rfl | rfl | rfl | rfl | rfl | rfl | rfl
      · exact Or.inl (Or.inl (Or.inl (Or.inl (Or.inl (Or.inl (Or.inr ⟨h1, rfl⟩))))))
      · exact Or.inl (Or.inl (Or.inl (Or.inl (Or.inl (Or.inr ⟨h1, rfl⟩)))))
      · exact Or.inl (Or.inl (Or.inl (Or.inl (Or.inr ⟨h1, rfl⟩))))
      · exact Or.inl (Or.inl (Or.inl (Or.inr ⟨h1, rfl⟩)))
      · exact Or.inl (Or.inl (Or.inr ⟨h1, rfl⟩))
      · exact Or.inl (Or.inr ⟨h1, rfl⟩)
      · exact Or.inr ⟨h1, rfl⟩
theorem cp_Grade {n m p b a o : Nat} (hN : Nm n m p b) (hao : a + 47 ≤ o ∨ o + 47 ≤ a) {h : AH} {g : GM} (hA : SkR h a) (hS : SkR h o) {F0 F : Nat → Nat → Int32} {i : Nat} (hi : i < 4) (hc : Cp n m p b a o (Lq 12 n m p b i (mct g)) F0 F g) : ∃ F', f_Grade_copyFrom (sI h F) (a + (43 + i)) (o + (43 + i)) = some (sI h F') ∧ Cp n m p b a o (Lq 12 n m p b (i + 1) (mct g)) F0 F' g := by
  have hN' := hN
  unfold Nm at hN'
  have hP := hc.2.1
  refine ⟨_, ?_, (((((hc.w hN hao (43 + i) 0 (by omega) rfl).w hN hao (43 + i) 1 (by omega) rfl).w hN hao (43 + i) 2 (by omega) rfl).w hN hao (43 + i) 3 (by omega) rfl)).mono ?_⟩
  · simp (disch := first | decide | omega) only [f_Grade_copyFrom, Nat.add_zero, true_and, and_true, gd_T, bn_S, bv_S, lq_E, wI_s, sI_s, hI_s, hT_s, hL_s, hR_s, hJ_s, hN_s, hU_s, if_neg, if_pos, gd_P, inb, ix, hA.qT, hS.qT, hP.gr, up2_e, up2_n]
  · intro c s hl
    rcases Lq_q hl with h1 | ⟨h1, h2⟩
    · exact Or.inl (Or.inl (Or.inl (Or.inl (h1))))
    · rcases (show s = 0 ∨ s = 1 ∨ s = 2 ∨ s = 3 by omega) with rfl | rfl | rfl | rfl
      · exact Or.inl (Or.inl (Or.inl (Or.inr ⟨h1, rfl⟩)))
      · exact Or.inl (Or.inl (Or.inr ⟨h1, rfl⟩))
      · exact Or.inl (Or.inr ⟨h1, rfl⟩)
      · exact Or.inr ⟨h1, rfl⟩

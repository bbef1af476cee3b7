/-! 98zi L3: the spare river begun anew -/
theorem clear8 {h : AH} {c : Nat} {v : Int32} (t : hT h c = 8) : ∃ F, f_Grade_clear h c v = some (sI h F) ∧ (F c 0 = iI 0 ∧ F c 1 = v ∧ F c 2 = iI 0 ∧ F c 3 = iI 0) ∧ ∀ c' s, c' ≠ c → F c' s = hI h c' s := by
  refine ⟨up2 (up2 (up2 (up2 (hI h) c 0 (iI 0)) c 1 v) c 2 (iI 0)) c 3 (iI 0), ?_, ⟨?_, ?_, ?_, ?_⟩, fun c' s n => ?_⟩
  · unfold f_Grade_clear
    rw [gd_P t, lq_E, nI_L, gd_P (by rw [hT_wi]; exact t), lq_E, gd_P (by rw [hT_wi, hT_wi]; exact t), lq_E, gd_P (by rw [hT_wi, hT_wi, hT_wi]; exact t), lq_E]
    rfl
  · rw [up2_n _ _ _ _ _ _ (by omega), up2_n _ _ _ _ _ _ (by omega), up2_n _ _ _ _ _ _ (by omega), up2_e]
  · rw [up2_n _ _ _ _ _ _ (by omega), up2_n _ _ _ _ _ _ (by omega), up2_e]
  · rw [up2_n _ _ _ _ _ _ (by omega), up2_e]
  · rw [up2_e]
  · rw [up2_n _ _ _ _ _ _ (by omega), up2_n _ _ _ _ _ _ (by omega), up2_n _ _ _ _ _ _ (by omega), up2_n _ _ _ _ _ _ (by omega)]
theorem anew_l : ∀ (j : Nat) {h : AH} {i N : Nat}, j + i = 12 → SkR h 265 → ∃ F, f_River_beginAnew_l59 (j + 1 + N) h 265 (iI (i : Int)) = f_River_beginAnew_l59 (1 + N) (sI h F) 265 (iI 12) ∧ (∀ s, i ≤ s → s < 12 → F 271 s = iI 1) ∧ ∀ c s, ¬ (c = 271 ∧ i ≤ s ∧ s < 12) → F c s = hI h c s := by
  intro j
  induction j with
  | zero =>
    intro h i N hj S
    obtain rfl : i = 12 := by omega
    exact ⟨hI h, by rw [Nat.zero_add, sI_id]; rfl, fun s a b => by omega, fun _ _ _ => rfl⟩
  | succ j ih =>
    intro h i N hj S
    obtain ⟨F, e, f1, f2⟩ := ih (h := wI h 271 i (iI 1)) (i := i + 1) (N := N) (by omega) (SkR.s _ S)
    have ei : iI (i : Int) + nI 1 = iI ((i + 1 : Nat) : Int) := by rw [nI_L, iI_add]; rfl
    refine ⟨F, ?_, fun s a b => ?_, fun c s n => ?_⟩
    · rw [show j + 1 + 1 + N = (j + 1 + N) + 1 by omega]
      show f_River_beginAnew_b59 (f_River_beginAnew_l59 (j + 1 + N)) h 265 (iI (i : Int)) = _
      unfold f_River_beginAnew_b59
      rw [if_neg (by rw [nI_L, iI_le (by omega) (by omega) (by omega) (by omega)]; omega), gd_P S.t, S.f5, gd_P ⟨S.at6, by rw [S.al6]; exact inb_i (by omega) (by omega)⟩, ix_i (by omega), ei, nI_L, lq_E, lq_E]
      exact e
    · by_cases c : s = i
      · rw [c, f2 271 i (by omega), hI_we]
      · exact f1 s (by omega) b
    · rw [f2 c s (by omega), hI_wn _ _ _ _ _ _ (by omega)]
def Anew (F : Nat → Nat → Int32) : Prop := (F 265 6 = iI 0 ∧ F 265 7 = iI 0 ∧ F 265 8 = iI 0 ∧ F 265 9 = iI 0 ∧ F 265 10 = iI 0) ∧ (F 265 12 = iI 50 ∧ F 265 15 = iI 0 ∧ F 265 16 = iI 0 ∧ F 265 17 = iI 0) ∧ (F 265 13 = iI 20 ∧ F 265 14 = iI 1) ∧ (∀ s, s < 12 → F 271 s = iI 1) ∧ ∀ k, k < 4 → F (308 + k) 0 = iI 0 ∧ F (308 + k) 1 = iI (fP k) ∧ F (308 + k) 2 = iI 0 ∧ F (308 + k) 3 = iI 0
theorem anewEnd {h : AH} {N : Nat} (S : SkR h 265) : ∃ F, f_River_beginAnew_l59 (1 + N) h 265 (iI 12) = some (sI h F) ∧ (∀ k, k < 4 → F (308 + k) 0 = iI 0 ∧ F (308 + k) 1 = iI (fP k) ∧ F (308 + k) 2 = iI 0 ∧ F (308 + k) 3 = iI 0) ∧ ∀ c s, ¬ (308 ≤ c ∧ c < 312) → F c s = hI h c s := by
  have r0 : hR h 270 0 = 308 := S.qR (i := 0) (by decide)
  have r1 : hR h 270 1 = 309 := S.qR (i := 1) (by decide)
  have r2 : hR h 270 2 = 310 := S.qR (i := 2) (by decide)
  have r3 : hR h 270 3 = 311 := S.qR (i := 3) (by decide)
  have t0 : hT h 308 = 8 := S.qT (i := 0) (by decide)
  have t1 : hT h 309 = 8 := S.qT (i := 1) (by decide)
  have t2 : hT h 310 = 8 := S.qT (i := 2) (by decide)
  have t3 : hT h 311 = 8 := S.qT (i := 3) (by decide)
  have q4 : hR h 265 4 = 270 := S.f4
  have q5 : hT h 270 = 108 := S.at5
  have q6 : hL h 270 = 4 := S.al5
  have q7 : hT h 265 = 3 := S.t
  obtain ⟨F0, e0, ⟨a00, a01, a02, a03⟩, f0⟩ := clear8 (h := h) (v := nI 8) t0
  obtain ⟨F1, e1, ⟨a10, a11, a12, a13⟩, f1⟩ := clear8 (h := sI h F0) (v := nI 5) (c := 309) t1
  obtain ⟨F2, e2, ⟨a20, a21, a22, a23⟩, f2⟩ := clear8 (h := sI (sI h F0) F1) (v := nI 3) (c := 310) t2
  obtain ⟨F3, e3, ⟨a30, a31, a32, a33⟩, f3⟩ := clear8 (h := sI (sI (sI h F0) F1) F2) (v := nI 1) (c := 311) t3
  rw [hI_s] at f1 f2 f3
  refine ⟨F3, ?_, fun k hk => ?_, fun c s n => by rw [f3 c s (by omega), f2 c s (by omega), f1 c s (by omega), f0 c s (by omega)]⟩
  · have i0 : ix (nI 0) = 0 := by decide
    have i1 : ix (nI 1) = 1 := by decide
    have i2 : ix (nI 2) = 2 := by decide
    have i3 : ix (nI 3) = 3 := by decide
    rw [show 1 + N = N + 1 by omega]
    show f_River_beginAnew_b59 (f_River_beginAnew_l59 N) h 265 (iI 12) = _
    unfold f_River_beginAnew_b59
    rw [if_pos (by decide), gd_P q7, q4, gd_P ⟨q5, by rw [q6]; decide⟩, i0, r0, gd_P t0, e0, bv_S, hT_s, hR_s, hL_s, gd_P q7, q4, gd_P ⟨q5, by rw [q6]; decide⟩, i1, r1, gd_P t1, e1, bv_S, hT_s, hR_s, hL_s, hT_s, hR_s, hL_s, gd_P q7, q4, gd_P ⟨q5, by rw [q6]; decide⟩, i2, r2, gd_P t2, e2, bv_S, hT_s, hR_s, hL_s, hT_s, hR_s, hL_s, hT_s, hR_s, hL_s, gd_P q7, q4, gd_P ⟨q5, by rw [q6]; decide⟩, i3, r3, gd_P t3, e3, bv_S]
    rfl
  · rcases (show k = 0 ∨ k = 1 ∨ k = 2 ∨ k = 3 by omega) with rfl | rfl | rfl | rfl
    · refine ⟨?_, ?_, ?_, ?_⟩
      · rw [f3 _ _ (by omega), f2 _ _ (by omega), f1 _ _ (by omega)]; exact a00
      · rw [f3 _ _ (by omega), f2 _ _ (by omega), f1 _ _ (by omega)]; exact a01
      · rw [f3 _ _ (by omega), f2 _ _ (by omega), f1 _ _ (by omega)]; exact a02
      · rw [f3 _ _ (by omega), f2 _ _ (by omega), f1 _ _ (by omega)]; exact a03
    · refine ⟨?_, ?_, ?_, ?_⟩
      · rw [f3 _ _ (by omega), f2 _ _ (by omega)]; exact a10
      · rw [f3 _ _ (by omega), f2 _ _ (by omega)]; exact a11
      · rw [f3 _ _ (by omega), f2 _ _ (by omega)]; exact a12
      · rw [f3 _ _ (by omega), f2 _ _ (by omega)]; exact a13
    · refine ⟨?_, ?_, ?_, ?_⟩
      · rw [f3 _ _ (by omega)]; exact a20
      · rw [f3 _ _ (by omega)]; exact a21
      · rw [f3 _ _ (by omega)]; exact a22
      · rw [f3 _ _ (by omega)]; exact a23
    · exact ⟨a30, a31, a32, a33⟩

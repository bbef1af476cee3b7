/-! 98zl L3: what was told is taken -/
theorem copyO_E {h : AH} {ds : List (Nat × Nat)} (hl : ds.length ≤ 400) (S : SkD h) (O : SkO h) (e2 : hI h 261 2 = iI (ds.length : Int)) : ∃ F, f_Orders_copyFrom h 202 261 = some (sI h F) ∧ F 202 2 = iI (ds.length : Int) ∧ (∀ q, q < ds.length → F 203 q = hI h 262 q ∧ F 204 q = hI h 263 q) ∧ ∀ c s, c ≠ 203 → c ≠ 204 → ¬ (c = 202 ∧ s = 2) → F c s = hI h c s := by
  obtain ⟨N, hN'⟩ : ∃ N, FU = ds.length + 1 + N := ⟨FU - (ds.length + 1), by unfold FU; omega⟩
  obtain ⟨F, e, f1, f2⟩ := copyO_l (h0 := h) hl ds.length (h := wI h 202 2 (iI (ds.length : Int))) (i := 0) (N := N) (by omega) S O (hI_we _ _ _ _) (fun c s a => hI_wn _ _ _ _ _ _ (by omega)) (fun q c => absurd c (Nat.not_lt_zero _))
  refine ⟨F, ?_, ?_, f1, fun c s a b n => ?_⟩
  · unfold f_Orders_copyFrom
    rw [gd_P S.1, gd_P O.t, e2, lq_E, hN', nI_L]
    exact e
  · rw [f2 _ _ (by omega) (by omega), hI_we]
  · rw [f2 c s a b, hI_wn _ _ _ _ _ _ n]
theorem pra_of {F : Nat → Nat → Int32} : ∀ (l : List (Int32 × Int32)) (i : Nat), (∀ q s, l[q]? = some s → F 203 (i + q) = s.1 ∧ F 204 (i + q) = s.2) → PrA F i l := by
  intro l
  induction l with
  | nil => intro i _; exact trivial
  | cons a l ih =>
    intro i h
    have h0 := h 0 a rfl
    refine ⟨h0.1, h0.2, ih (i + 1) fun q s hq => ?_⟩
    have := h (q + 1) s (by rw [List.getElem?_cons_succ]; exact hq)
    rw [show i + 1 + q = i + (q + 1) by omega]
    exact this
-- a river no hour has gone over
def Fresh (m p b no : Nat) (g : GM) : Prop := (g 0 10 = (no : Int) ∧ g 0 11 = 0 ∧ g 0 12 = 50 ∧ g 0 15 = 0 ∧ g 0 16 = 0 ∧ g 0 17 = 0) ∧ (∀ k, k < m → g (11 + 5 * k) 1 = 0 ∧ g (11 + 5 * k) 2 = 0) ∧ (∀ i, i < p → g (31 + i) 3 = 20 ∧ g (31 + i) 4 = 0 ∧ g (31 + i) 5 = 0 ∧ g (31 + i) 6 = 0) ∧ (∀ i, i < b → g (39 + i) 2 = 0 ∧ g (39 + i) 3 = 0 ∧ g (39 + i) 4 = 0 ∧ g (39 + i) 5 = -1 ∧ g (39 + i) 6 = 0) ∧ ∀ k, k < 4 → g (43 + k) 0 = 0 ∧ g (43 + k) 2 = 0 ∧ g (43 + k) 3 = 0
theorem rp_told {n m p b no : Nat} {T C Pb : Int} {g M : GM} {F : Nat → Nat → Int32} (hNm : Nm n m p b) (hv : Iv n m p b T C Pb g) (fr : Fresh m p b no g) (i : IN n m p b true 12 4 no g M) (mi : ∀ c s, c < 47 → ¬ (c = 0 ∧ s = 11) → F (265 + c) s = iI (M c s)) (m11 : F 265 11 = iI 0) : RP n m p b 265 F g := by
  obtain ⟨w1, -⟩ := hv
  unfold IvSc at w1
  unfold Nm at hNm
  obtain ⟨⟨g10, g11, g12, g15, g16, g17⟩, gr, gp, gb, gq⟩ := fr
  obtain ⟨-, ⟨c1, c2, c3, c4, c5⟩, ⟨s1, s2, s3, s4⟩, ⟨v1, v2⟩, hh, hg, hr, hp, hb, hq⟩ := i
  rw [if_pos rfl] at v1 v2
  intro c s lv
  have key : c < 47 ∧ ((c = 0 ∧ s = 11) ∨ (¬ (c = 0 ∧ s = 11) ∧ M c s = g c s)) := by
    unfold Lv at lv
    rcases lv with ⟨rfl, a, d⟩ | ⟨rfl, a⟩ | ⟨a, d, e⟩ | ⟨a, d, e, f⟩ | ⟨a, d, e, f⟩ | ⟨a, d, e⟩ | ⟨a, d, e⟩ | ⟨a, d, e⟩
    · refine ⟨by omega, ?_⟩
      by_cases e : s = 11
      · exact Or.inl ⟨rfl, e⟩
      · refine Or.inr ⟨by omega, ?_⟩
        rcases (show s = 6 ∨ s = 7 ∨ s = 8 ∨ s = 9 ∨ s = 10 ∨ s = 12 ∨ s = 13 ∨ s = 14 ∨ s = 15 ∨ s = 16 ∨ s = 17 by omega) with rfl | rfl | rfl | rfl | rfl | rfl | rfl | rfl | rfl | rfl | rfl
        · rw [c1, w1.1]
        · rw [c2, w1.2.1]
        · rw [c3, w1.2.2.1]
        · rw [c4, w1.2.2.2.1]
        · rw [c5, g10]
        · rw [s1, g12]
        · exact v1
        · exact v2
        · rw [s2, g15]
        · rw [s3, g16]
        · rw [s4, g17]
    · refine ⟨by omega, Or.inr ⟨by omega, ?_⟩⟩
      rw [hh s a, if_pos a]
    · obtain ⟨j, rfl⟩ : ∃ j, c = 7 + j := ⟨c - 7, by omega⟩
      refine ⟨by omega, Or.inr ⟨by omega, ?_⟩⟩
      obtain ⟨q0, q1, q2⟩ := hg j (by omega)
      rcases (show s = 0 ∨ s = 1 ∨ s = 2 by omega) with rfl | rfl | rfl
      · exact q0
      · exact q1
      · exact q2
    · obtain ⟨j, rfl⟩ : ∃ j, c = 11 + 5 * j := ⟨(c - 11) / 5, by omega⟩
      refine ⟨by omega, Or.inr ⟨by omega, ?_⟩⟩
      obtain ⟨q0, q1, q2⟩ := hr j (by omega)
      obtain ⟨r1, r2⟩ := gr j (by omega)
      rcases (show s = 0 ∨ s = 1 ∨ s = 2 by omega) with rfl | rfl | rfl
      · exact q0
      · rw [q1, r1]
      · rw [q2, r2]
    · exfalso
      have k := (gr ((c - 11) / 5) (by omega)).2
      unfold mct at f
      rw [k] at f
      omega
    · obtain ⟨j, rfl⟩ : ∃ j, c = 31 + j := ⟨c - 31, by omega⟩
      refine ⟨by omega, Or.inr ⟨by omega, ?_⟩⟩
      obtain ⟨q0, q1, q2, q3, q4, q5, q6⟩ := hp j (by omega)
      obtain ⟨r3, r4, r5, r6⟩ := gp j (by omega)
      rcases (show s = 0 ∨ s = 1 ∨ s = 2 ∨ s = 3 ∨ s = 4 ∨ s = 5 ∨ s = 6 by omega) with rfl | rfl | rfl | rfl | rfl | rfl | rfl
      · exact q0
      · exact q1
      · exact q2
      · rw [q3, r3]
      · rw [q4, r4]
      · rw [q5, r5]
      · rw [q6, r6]
    · obtain ⟨j, rfl⟩ : ∃ j, c = 39 + j := ⟨c - 39, by omega⟩
      refine ⟨by omega, Or.inr ⟨by omega, ?_⟩⟩
      obtain ⟨q0, q1, q2, q3, q4, q5, q6⟩ := hb j (by omega)
      obtain ⟨r2, r3, r4, r5, r6⟩ := gb j (by omega)
      rcases (show s = 0 ∨ s = 1 ∨ s = 2 ∨ s = 3 ∨ s = 4 ∨ s = 5 ∨ s = 6 by omega) with rfl | rfl | rfl | rfl | rfl | rfl | rfl
      · exact q0
      · exact q1
      · rw [q2, r2]
      · rw [q3, r3]
      · rw [q4, r4]
      · rw [q5, r5]
      · rw [q6, r6]
    · obtain ⟨j, rfl⟩ : ∃ j, c = 43 + j := ⟨c - 43, by omega⟩
      refine ⟨by omega, Or.inr ⟨by omega, ?_⟩⟩
      obtain ⟨q0, q1, q2, q3⟩ := hq j (by omega)
      obtain ⟨r0, r2, r3⟩ := gq j (by omega)
      rw [if_pos (by omega)] at q1
      rcases (show s = 0 ∨ s = 1 ∨ s = 2 ∨ s = 3 by omega) with rfl | rfl | rfl | rfl
      · rw [q0, r0]
      · exact q1
      · rw [q2, r2]
      · rw [q3, r3]
  obtain ⟨k1, k2 | ⟨k2, k3⟩⟩ := key
  · rw [k2.1, k2.2, g11]
    exact m11
  · rw [mi c s k1 k2, k3]

/-! 69 L3: the sim's hour, V: boats -/
theorem up2_o {α : Type} (f : Nat → Nat → α) (a k : Nat) (v w : α) : up2 (up2 f a k v) a k w = up2 f a k w := by
  funext c s
  by_cases e : c = a ∧ s = k
  · obtain ⟨rfl, rfl⟩ := e
    rw [up2_e, up2_e]
  · rw [up2_n _ _ _ _ _ _ e, up2_n _ _ _ _ _ _ e, up2_n _ _ _ _ _ _ e]
section
variable {n m p b no : Nat} {O : Nat → Nat → Int} {T C Pb : Int} {h : AH} {g : GM}
theorem Sm.sold' (hN : Nm n m p b) (hs : Sm n m p b no O h g) {i : Nat} (hi : i < b) : Sm n m p b no O (sI h (up2 (hI h) (337 + n + m + p + i) 4 (iI 0))) (up2 (up2 g (39 + i) 4 0) (39 + i) 5 (-1)) := by
  have hN' := hN
  unfold Nm at hN'
  have l4 : L0 n m p b (39 + i) 4 := Or.inr (Or.inr (Or.inr (Or.inr (Or.inr (Or.inl ⟨by omega, by omega, by decide⟩)))))
  have l5 : L0 n m p b (39 + i) 5 := Or.inr (Or.inr (Or.inr (Or.inr (Or.inr (Or.inl ⟨by omega, by omega, by decide⟩)))))
  obtain ⟨hM, hA, hB, hD, hO, hT⟩ := hs
  have a1 := (AgS.up hN hA (39 + i) 4 l4 (sA_b (by omega)) (sS_b (by omega)) (x := iI 0) rfl)
  have hm : ∀ q', q' < m → mct (up2 (up2 g (39 + i) 4 0) (39 + i) 5 (-1)) q' = mct g q' := fun q' hq' => by
    rw [mct_L0 hN l5 _ hq', mct_L0 hN l4 _ hq']
  refine ⟨hM, ?_, fun q' hq' => ?_, fun q1 q2 j1 j2 h1 h2 h3 h4 h5 => ?_, fun x hx t ht => ?_, hT⟩
  · intro c s hl hp
    have ne5 : ¬ (c = 39 + i ∧ s = 5) := fun y => hp ⟨by omega, by omega, y.2, by rw [y.1, up2_n _ _ _ _ _ _ (by omega), up2_e]⟩
    rw [up2_n _ _ _ _ _ _ ne5]
    refine a1 c s hl ?_
    by_cases e4 : c = 39 + i ∧ s = 4
    · exact Or.inr e4
    · refine Or.inl (fun y => hp ⟨y.1, y.2.1, y.2.2.1, ?_⟩)
      rw [up2_n _ _ _ _ _ _ (by omega), up2_n _ _ _ _ _ _ (by omega)]
      exact y.2.2.2
  · obtain ⟨b1, b2, b3, b4, b5⟩ := hB q' hq'
    unfold SB1
    rw [hm q' hq']
    refine ⟨b1, b2, b3, b4, fun j hj => ?_⟩
    obtain ⟨d1, d2, d3, d4, d5, d6, d7, d8⟩ := b5 j hj
    have d3' := d3
    unfold tp at d3'
    simp (disch := omega) only [hI_s, hR_s, up2_n]
    exact ⟨d1, d2, d3, d4, d5, d6, d7, d8⟩
  · rw [hm q1 h1] at h3
    rw [hm q2 h2] at h4
    exact hD q1 q2 j1 j2 h1 h2 h3 h4 h5
  · rw [hI_s, up2_n _ _ _ _ _ _ (by omega)]
    exact hO x hx t ht
end

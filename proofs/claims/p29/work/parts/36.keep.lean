/-! 36 L3: what an hour's small steps keep -/
section
variable {n m p b : Nat} {T C Pb : Int} {g : GM}
theorem Iv.rest (hN : Nm n m p b) (h : Iv n m p b T C Pb g) {i : Nat} (hi : i < p) {v : Int} (hv : v = 0 ∨ v = 1) : Iv n m p b T C Pb (up2 g (31 + i) 6 v) := by
  unfold Nm at hN
  obtain ⟨hS, hH, hG, hR, hP, hB, hQ, hE⟩ := h
  refine ⟨hS.congr fun s hs => (by simp (disch := omega) only [up2_n]), hH.congr fun s hs => (by simp (disch := omega) only [up2_n]), hG.congr fun i hi s hs => (by simp (disch := omega) only [up2_n]), fun k hk => (hR k hk).congr (fun s hs => (by simp (disch := omega) only [up2_n])) (fun w h1 h2 j hj => (by simp (disch := omega) only [up2_n])), ?_, hB.congr (by simp (disch := omega) only [up2_n]) (fun i hi s hs => (by simp (disch := omega) only [up2_n])), hQ.congr (fun k hk s hs => (by simp (disch := omega) only [up2_n])), hE.congr (by simp (disch := omega) only [up2_n]) (by simp (disch := omega) only [up2_n]) (fun k hk => (by simp (disch := omega) only [up2_n])) (fun k hk => ⟨(by simp (disch := omega) only [up2_n]), (by simp (disch := omega) only [up2_n])⟩) (fun i hi => (by simp (disch := omega) only [up2_n])) (fun i hi => (by simp (disch := omega) only [up2_n]))⟩
  intro j hj
  have h1 := hP j hj
  by_cases e : j = i
  · subst e
    simp (disch := omega) only [up2_n, up2_e]
    omega
  · simp (disch := omega) only [up2_n]
    exact h1
theorem Iv.done (hN : Nm n m p b) (h : Iv n m p b T C Pb g) : Iv n m p b T C Pb (mDone g) := by
  unfold Nm at hN
  unfold mDone
  obtain ⟨hS, hH, hG, hR, hP, hB, hQ, hE⟩ := h
  refine ⟨?_, hH.congr fun s hs => (by simp (disch := omega) only [up2_n]), hG.congr fun i hi s hs => (by simp (disch := omega) only [up2_n]), fun k hk => (hR k hk).congr (fun s hs => (by simp (disch := omega) only [up2_n])) (fun w h1 h2 j hj => (by simp (disch := omega) only [up2_n])), hP.congr fun i hi s hs => (by simp (disch := omega) only [up2_n]), hB.congr (by simp (disch := omega) only [up2_n]) (fun i hi s hs => (by simp (disch := omega) only [up2_n])), hQ.congr (fun k hk s hs => (by simp (disch := omega) only [up2_n])), hE.congr (by simp (disch := omega) only [up2_n]) (by simp (disch := omega) only [up2_n]) (fun k hk => (by simp (disch := omega) only [up2_n])) (fun k hk => ⟨(by simp (disch := omega) only [up2_n]), (by simp (disch := omega) only [up2_n])⟩) (fun i hi => (by simp (disch := omega) only [up2_n])) (fun i hi => (by simp (disch := omega) only [up2_n]))⟩
  unfold IvSc at hS ⊢
  simp (disch := omega) only [up2_n]
  exact hS
theorem Iv.whet (hN : Nm n m p b) (h : Iv n m p b T C Pb g) {i : Nat} (hi : i < p) (hc : 2 ≤ g 0 12) : Iv n m p b T C Pb (mWhet i g) := by
  unfold Nm at hN
  unfold mWhet
  obtain ⟨hS, hH, hG, hR, hP, hB, hQ, hE⟩ := h
  refine ⟨?_, hH.congr fun s hs => (by simp (disch := omega) only [up2_n]), hG.congr fun i hi s hs => (by simp (disch := omega) only [up2_n]), fun k hk => (hR k hk).congr (fun s hs => (by simp (disch := omega) only [up2_n])) (fun w h1 h2 j hj => (by simp (disch := omega) only [up2_n])), ?_, hB.congr (by simp (disch := omega) only [up2_n]) (fun i hi s hs => (by simp (disch := omega) only [up2_n])), hQ.congr (fun k hk s hs => (by simp (disch := omega) only [up2_n])), hE.congr (by simp (disch := omega) only [up2_n]) (by simp (disch := omega) only [up2_n]) (fun k hk => (by simp (disch := omega) only [up2_n])) (fun k hk => ⟨(by simp (disch := omega) only [up2_n]), (by simp (disch := omega) only [up2_n])⟩) (fun i hi => (by simp (disch := omega) only [up2_n])) (fun i hi => (by simp (disch := omega) only [up2_n]))⟩
  · unfold IvSc at hS ⊢
    simp (disch := omega) only [up2_n, up2_e]
    omega
  · intro j hj
    have h1 := hP j hj
    by_cases e : j = i
    · subst e
      simp (disch := omega) only [up2_n, up2_e]
      omega
    · simp (disch := omega) only [up2_n]
      exact h1
theorem Iv.load (hN : Nm n m p b) (h : Iv n m p b T C Pb g) {i k : Nat} {q : Int} (hi : i < b) (hk : k < 4) (hw : g (39 + i) 3 = 0) (h1 : 1 ≤ q) (h2 : q ≤ g (39 + i) 0) (h3 : q ≤ g (43 + k) 0) : Iv n m p b T C Pb (mLoad i k q g) := by
  unfold Nm at hN
  obtain ⟨hS, hH, hG, hR, hP, hB, hQ, hE⟩ := h
  have hBi := hB i hi
  have hQk := hQ k hk
  refine ⟨hS.congr fun s hs => (by unfold mLoad; simp (disch := omega) only [up2_n]), hH.congr fun s hs => (by unfold mLoad; simp (disch := omega) only [up2_n]), hG.congr fun i hi s hs => (by unfold mLoad; simp (disch := omega) only [up2_n]), fun k hk => (hR k hk).congr (fun s hs => (by unfold mLoad; simp (disch := omega) only [up2_n])) (fun w h1 h2 j hj => (by unfold mLoad; simp (disch := omega) only [up2_n])), hP.congr fun i hi s hs => (by unfold mLoad; simp (disch := omega) only [up2_n]), ?_, ?_, ?_⟩
  · intro j hj
    have h4 := hB j hj
    unfold mLoad
    by_cases e : j = i
    · subst e
      simp (disch := omega) only [up2_n, up2_e]
      refine ⟨by omega, by omega, by omega, by omega, by omega, by omega, Or.inr (Or.inl ⟨trivial, h1, h2, by omega, by omega⟩)⟩
    · simp (disch := omega) only [up2_n]
      exact h4
  · intro j hj
    have h4 := hQ j hj
    unfold mLoad
    by_cases e : j = k
    · subst e
      simp (disch := omega) only [up2_n, up2_e]
      omega
    · simp (disch := omega) only [up2_n]
      exact h4
  · unfold IvE at hE ⊢
    have v1 : mLoad i k q g (43 + k) 0 = g (43 + k) 0 - q := by unfold mLoad; simp (disch := omega) only [up2_n, up2_e]
    have v2 : mLoad i k q g (39 + i) 4 = q := by unfold mLoad; simp (disch := omega) only [up2_n, up2_e]
    have v3 : mLoad i k q g 0 15 = g 0 15 := (by unfold mLoad; simp (disch := omega) only [up2_n])
    have v4 : mLoad i k q g 0 16 = g 0 16 := (by unfold mLoad; simp (disch := omega) only [up2_n])
    have a1 := sumF_ch (f := fun k => g (43 + k) 0) (f' := fun k' => mLoad i k q g (43 + k') 0) 4 hk (fun j hj hne => (by unfold mLoad; simp (disch := omega) only [up2_n]))
    have a2 := sumF_ch (f := fun i => g (39 + i) 4) (f' := fun i' => mLoad i k q g (39 + i') 4) b hi (fun j hj hne => (by unfold mLoad; simp (disch := omega) only [up2_n]))
    have a3 := sumF_congr (f := fun k => g (11 + 5 * k) 1) (f' := fun k' => mLoad i k q g (11 + 5 * k') 1) m (fun j hj => (by unfold mLoad; simp (disch := omega) only [up2_n]))
    have a4 := sumF_congr (f := fun i => g (31 + i) 4) (f' := fun i' => mLoad i k q g (31 + i') 4) p (fun j hj => (by unfold mLoad; simp (disch := omega) only [up2_n]))
    have a5 := sumF_congr (f := fun k => g (43 + k) 3) (f' := fun k' => mLoad i k q g (43 + k') 3) 4 (fun j hj => (by unfold mLoad; simp (disch := omega) only [up2_n]))
    rw [a1, a2, a3, a4, a5, v1, v2, v3, v4]
    omega
theorem Iv.grow (hN : Nm n m p b) (h : Iv n m p b T C Pb g) {i : Nat} (hi : i < n) : Iv n m p b T C Pb (mGrow1 i g) := by
  unfold Nm at hN
  unfold mGrow1
  obtain ⟨hS, hH, hG, hR, hP, hB, hQ, hE⟩ := h
  refine ⟨hS.congr fun s hs => (by simp (disch := omega) only [up2_n]), hH.congr fun s hs => (by simp (disch := omega) only [up2_n]), ?_, fun k hk => (hR k hk).congr (fun s hs => (by simp (disch := omega) only [up2_n])) (fun w h1 h2 j hj => (by simp (disch := omega) only [up2_n])), hP.congr fun i hi s hs => (by simp (disch := omega) only [up2_n]), hB.congr (by simp (disch := omega) only [up2_n]) (fun i hi s hs => (by simp (disch := omega) only [up2_n])), hQ.congr (fun k hk s hs => (by simp (disch := omega) only [up2_n])), hE.congr (by simp (disch := omega) only [up2_n]) (by simp (disch := omega) only [up2_n]) (fun k hk => (by simp (disch := omega) only [up2_n])) (fun k hk => ⟨(by simp (disch := omega) only [up2_n]), (by simp (disch := omega) only [up2_n])⟩) (fun i hi => (by simp (disch := omega) only [up2_n])) (fun i hi => (by simp (disch := omega) only [up2_n]))⟩
  intro j hj
  have h1 := hG j hj
  by_cases e : j = i
  · subst e
    simp (disch := omega) only [up2_n, up2_e]
    omega
  · simp (disch := omega) only [up2_n]
    exact h1
theorem Iv.glut (hN : Nm n m p b) (h : Iv n m p b T C Pb g) {i : Nat} (hi : i < 4) : Iv n m p b T C Pb (mGlut1 i g) := by
  unfold Nm at hN
  unfold mGlut1
  obtain ⟨hS, hH, hG, hR, hP, hB, hQ, hE⟩ := h
  refine ⟨hS.congr fun s hs => (by simp (disch := omega) only [up2_n]), hH.congr fun s hs => (by simp (disch := omega) only [up2_n]), hG.congr fun i hi s hs => (by simp (disch := omega) only [up2_n]), fun k hk => (hR k hk).congr (fun s hs => (by simp (disch := omega) only [up2_n])) (fun w h1 h2 j hj => (by simp (disch := omega) only [up2_n])), hP.congr fun i hi s hs => (by simp (disch := omega) only [up2_n]), hB.congr (by simp (disch := omega) only [up2_n]) (fun i hi s hs => (by simp (disch := omega) only [up2_n])), ?_, hE.congr (by simp (disch := omega) only [up2_n]) (by simp (disch := omega) only [up2_n]) (fun k hk => (by simp (disch := omega) only [up2_n])) (fun k hk => ⟨(by simp (disch := omega) only [up2_n]), (by simp (disch := omega) only [up2_n])⟩) (fun i hi => (by simp (disch := omega) only [up2_n])) (fun i hi => (by simp (disch := omega) only [up2_n]))⟩
  intro j hj
  have h1 := hQ j hj
  by_cases e : j = i
  · subst e
    simp (disch := omega) only [up2_n, up2_e]
    omega
  · simp (disch := omega) only [up2_n]
    exact h1
end

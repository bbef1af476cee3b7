/-! 98zo L3: taken: the class is as the text said -/
theorem Seg.ln {ts : List Tok} {P : Nat} {f : Nat → List Tok} : ∀ {N : Nat}, Seg ts P (lnS f N) → ∀ i, i < N → Seg ts (P + (lnS f i).length) (f i) := by
  intro N
  induction N with
  | zero => intro _ i hi; exact absurd hi (Nat.not_lt_zero _)
  | succ k ih =>
    intro s i hi
    rw [show lnS f (k + 1) = lnS f k ++ f k from rfl] at s
    by_cases e : i = k
    · rw [e]; exact s.right
    · exact ih s.left i (by omega)
theorem dT_pos {n m p b w6 w7 ps : Nat} {e : List Nat} {w5 : Nat} (h5 : w5 < 9) : ∀ d ∈ dT w5 ps, d.2 ≤ ps + (tkT n m p b w5 w6 w7 e).length := by
  intro d hd
  rcases (show w5 = 0 ∨ w5 = 1 ∨ w5 = 2 ∨ w5 = 3 ∨ w5 = 4 ∨ w5 = 5 ∨ w5 = 6 ∨ w5 = 7 ∨ w5 = 8 by omega) with rfl | rfl | rfl | rfl | rfl | rfl | rfl | rfl | rfl
  · show d.2 ≤ ps + 3; simp only [dT, List.mem_cons, List.not_mem_nil, or_false] at hd; rcases hd with rfl | rfl | rfl <;> (dsimp only; omega)
  · show d.2 ≤ ps + 4; simp only [dT, List.mem_cons, List.not_mem_nil, or_false] at hd; rcases hd with rfl | rfl | rfl <;> (dsimp only; omega)
  · show d.2 ≤ ps + 2; simp only [dT, List.mem_cons, List.not_mem_nil, or_false] at hd; rcases hd with rfl <;> (dsimp only; omega)
  · show d.2 ≤ ps + 3; simp only [dT, List.mem_cons, List.not_mem_nil, or_false] at hd; rcases hd with rfl | rfl <;> (dsimp only; omega)
  · show d.2 ≤ ps + 5; simp only [dT, List.mem_cons, List.not_mem_nil, or_false] at hd; rcases hd with rfl | rfl | rfl | rfl | rfl <;> (dsimp only; omega)
  · show d.2 ≤ ps + 9; simp only [dT, List.mem_cons, List.not_mem_nil, or_false] at hd; rcases hd with rfl | rfl | rfl | rfl | rfl | rfl | rfl <;> (dsimp only; omega)
  · show d.2 ≤ ps + 12; simp only [dT, List.mem_cons, List.not_mem_nil, or_false] at hd; rcases hd with rfl | rfl | rfl | rfl | rfl | rfl | rfl | rfl <;> (dsimp only; omega)
  · show d.2 ≤ ps + 4; simp only [dT, List.mem_cons, List.not_mem_nil, or_false] at hd; rcases hd with rfl | rfl | rfl <;> (dsimp only; omega)
  · show d.2 ≤ ps + 3; simp only [dT, List.mem_cons, List.not_mem_nil, or_false] at hd; rcases hd with rfl | rfl | rfl <;> (dsimp only; omega)
theorem dS_pos {w2 w4 ps : Nat} {e : List Nat} {w3 : Nat} (h3 : w3 < 4) : ∀ d ∈ dS w3 ps, d.2 ≤ ps + (tkS w2 w3 w4 e).length := by
  intro d hd
  rcases (show w3 = 0 ∨ w3 = 1 ∨ w3 = 2 ∨ w3 = 3 by omega) with rfl | rfl | rfl | rfl
  · show d.2 ≤ ps + 1; simp only [dS, List.mem_cons, List.not_mem_nil, or_false] at hd; rcases hd with rfl <;> (dsimp only; omega)
  · show d.2 ≤ ps + 4; simp only [dS, List.mem_cons, List.not_mem_nil, or_false] at hd; rcases hd with rfl | rfl | rfl <;> (dsimp only; omega)
  · show d.2 ≤ ps + 9; simp only [dS, List.mem_cons, List.not_mem_nil, or_false] at hd; rcases hd with rfl | rfl | rfl | rfl | rfl <;> (dsimp only; omega)
  · show d.2 ≤ ps + 6; simp only [dS, List.mem_cons, List.not_mem_nil, or_false] at hd; rcases hd with rfl | rfl | rfl | rfl | rfl <;> (dsimp only; omega)
theorem dO_pos {n m p b ps : Nat} {w : Nat → Int} (hW : Wk n m p b w) : ∀ d ∈ dO n m p b w ps, d.2 ≤ ps + (tkO n m p b w).length := by
  unfold Wk at hW
  have h5 : (w 5).toNat < 9 := by omega
  have h3 : (w 3).toNat < 4 := by omega
  intro d hd
  unfold dO at hd
  unfold tkO
  by_cases c1 : w 0 = 1
  · rw [if_pos c1] at hd ⊢
    have pS := dS_pos (w2 := (w 2).toNat) (w4 := (w 4).toNat) (e := [32]) (ps := ps + 3) h3
    simp only [List.length_cons, List.length_append, List.length_nil]
    rw [List.mem_append, List.mem_cons, List.mem_append, List.mem_singleton] at hd
    rcases hd with hd | rfl | hd | rfl
    · have := pS d hd; omega
    · dsimp only; omega
    · by_cases c5 : w 5 < 8
      · rw [if_pos c5] at hd ⊢
        have := dT_pos (n := n) (m := m) (p := p) (b := b) (w6 := (w 6).toNat) (w7 := (w 7).toNat) (e := []) h5 d hd
        unfold tkW
        rw [List.length_cons]
        omega
      · rw [if_neg c5, List.mem_singleton] at hd
        rw [hd]
        dsimp only
        omega
    · dsimp only; omega
  · rw [if_neg c1] at hd ⊢
    have pT := dT_pos (n := n) (m := m) (p := p) (b := b) (w6 := (w 6).toNat) (w7 := (w 7).toNat) (e := []) (ps := ps + 3) h5
    unfold tkW
    simp only [List.length_cons, List.length_append, List.length_nil]
    rw [List.mem_append, List.mem_singleton] at hd
    rcases hd with hd | rfl
    · have := pT d hd; omega
    · dsimp only; omega
theorem dLn_pos {n m p b ps : Nat} {O : Nat → Nat → Int} : ∀ (k : Nat), (∀ i, i < k → Wk n m p b (O i)) → ∀ d ∈ dLn (fun i => tkO n m p b (O i)) (fun i => dO n m p b (O i)) k ps, d.2 ≤ ps + (lnS (fun i => tkO n m p b (O i)) k).length := by
  intro k
  induction k with
  | zero => intro _ d hd; cases hd
  | succ k ih =>
    intro hW d hd
    rw [show dLn (fun i => tkO n m p b (O i)) (fun i => dO n m p b (O i)) (k + 1) ps = dLn (fun i => tkO n m p b (O i)) (fun i => dO n m p b (O i)) k ps ++ dO n m p b (O k) (ps + (lnS (fun i => tkO n m p b (O i)) k).length) from rfl, List.mem_append] at hd
    rw [show lnS (fun i => tkO n m p b (O i)) (k + 1) = lnS (fun i => tkO n m p b (O i)) k ++ tkO n m p b (O k) from rfl, List.length_append]
    rcases hd with hd | hd
    · have := ih (fun i hi => hW i (by omega)) d hd; omega
    · have := dO_pos (hW k (by omega)) d hd; omega
section
variable {n m p b no : Nat} {T C Pb : Int} {O : Nat → Nat → Int} {g M : GM} {hb h : AH}
theorem pg_told {F : Nat → Nat → Int32} (hNm : Nm n m p b) (hno : no ≤ 7) (hW : ∀ i, i < no → Wk n m p b (O i)) (st : NSt hb (tkAll n m p b no O g) (tkPre n m p b g).length M (tkAll n m p b no O g).length h) (hl : (dAll n m p b no O g).length ≤ 400) (e2 : F 202 2 = iI ((dAll n m p b no O g).length : Int)) (eF : ∀ (q : Nat) (d : Nat × Nat), (dAll n m p b no O g)[q]? = some d → F 203 q = iI (d.1 : Int) ∧ F 204 q = hI h 259 d.2) : Pg n m p b O no F := by
  have s : Seg (tkAll n m p b no O g) 0 (tkPre n m p b g ++ lnS (fun i => tkO n m p b (O i)) no) := by
    rw [← tkAll_pre n m p b no O g]
    exact Seg.all _
  have sO := s.right.ln
  obtain ⟨z, y, e⟩ := dLn_a (N := hI h 259) (ps := (tkPre n m p b g).length) (O := O) hNm no hW (fun i hi q t hq => by
    have sq := sO i hi q t hq
    rw [Nat.zero_add] at sq
    have lt := (nth_ks sq).2
    have r := fun k55 => st.rn _ t sq (by omega) lt |>.1 k55
    exact ⟨fun k => st.nu _ t sq k, fun k => (st.rn _ t sq (by omega) lt).1 k, fun k => (st.rn _ t sq (by omega) lt).2 k⟩)
  have ea : aSt n m p b O z y no 0 = (dAll n m p b no O g).map (fd (hI h 259)) := e.symm
  refine ⟨z, y, ?_, ?_, ?_⟩
  · rw [ea, List.length_map]; exact hl
  · rw [ea, List.length_map]; exact e2
  · rw [ea]
    refine pra_of _ 0 fun q s' hq => ?_
    rw [List.getElem?_map] at hq
    cases hd : (dAll n m p b no O g)[q]? with
    | none => rw [hd] at hq; cases hq
    | some d =>
      rw [hd] at hq
      obtain rfl := Option.some.inj hq
      obtain ⟨f1, f2⟩ := eF q d hd
      rw [Nat.zero_add]
      refine ⟨?_, f2⟩
      rw [f1]
      exact (nI_i d.1).symm
end

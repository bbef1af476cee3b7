/-! 98zp L3: takeWhatWasTold -/
section
variable {n m p b no : Nat} {T C Pb : Int} {O : Nat → Nat → Int} {g M : GM} {hb h : AH}
theorem take_E (hNm : Nm n m p b) (hv : Iv n m p b T C Pb g) (hno : no ≤ 7) (hW : ∀ i, i < no → Wk n m p b (O i)) (fr : Fresh m p b no g) (hQ : SkQ h) (q7 : hR h 200 7 = 255) (q8 : hR h 200 8 = 261) (hO : SkO h) (hD : SkD h) (hR6 : SkR h 206) (st : NSt hb (tkAll n m p b no O g) (tkPre n m p b g).length M (tkAll n m p b no O g).length h) (i : IN n m p b true 12 4 no g M) (hl : (dAll n m p b no O g).length ≤ 400) (D : Dr (dAll n m p b no O g) h) (h11 : hI h 206 11 = iI 0) (h20 : hI h 200 1 = iI 0) :
    ∃ F, f_QuillBoats_takeWhatWasTold h 200 = some (sI h F) ∧ Cl n m p b O no (sI h F) g ∧ ∀ c s, ¬ (202 ≤ c ∧ c < 312) → F c s = hI h c s := by
  have hR5 := st.skr
  have hp : ∀ (i : Nat) (d : Nat × Nat), (dAll n m p b no O g)[i]? = some d → d.2 < 401 := fun i d hd => by
    have h1 := dLn_pos (n := n) (m := m) (p := p) (b := b) (ps := (tkPre n m p b g).length) no hW d (List.mem_of_getElem? hd)
    have h2 := cntAll (O := O) (g := g) hNm hno
    rw [tkAll_pre, List.length_append] at h2
    omega
  obtain ⟨F1, e1, a1, b1⟩ := resolve_E hl hp hD st.skt D
  obtain ⟨F2, e2, a2, a3, b2⟩ := copyO_E (h := sI h F1) hl hD hO (by rw [hI_s, b1 _ _ (by omega)]; exact D.1)
  rw [hI_s] at a3 b2
  obtain ⟨F3, eF3⟩ : ∃ F3, F3 = up2 F2 265 11 (iI 0) := ⟨_, rfl⟩
  have o3 : ∀ c s, ¬ (202 ≤ c ∧ c < 312) → F3 c s = hI h c s := fun c s k => by
    rw [eF3, up2_n _ _ _ _ _ _ (by omega), b2 _ _ (by omega) (by omega) (by omega), b1 _ _ (by omega)]
  have o4 : ∀ c s, 205 ≤ c → c ≠ 263 → ¬ (c = 265 ∧ s = 11) → F3 c s = hI h c s := fun c s k k2 k3 => by
    rw [eF3, up2_n _ _ _ _ _ _ (by omega), b2 _ _ (by omega) (by omega) (by omega), b1 _ _ (by omega)]
  have rp5 : RP n m p b 265 F3 g := by
    refine rp_told hNm hv fr i (fun c s hc hs => ?_) ?_
    · rw [o4 _ _ (by omega) (by omega) (by omega)]
      exact st.mi c s hc
    · rw [eF3, up2_e]
  have hN' := hNm
  unfold Nm at hN'
  obtain ⟨w1, -⟩ := hv
  unfold IvSc at w1
  obtain ⟨F4, e4, r6, r5, f4⟩ := copy_E (a := 206) (o := 265) (h := sI h F3) (g := g) hNm (by omega) (SkR.s _ hR6) (SkR.s _ hR5) rp5 w1.1 w1.2.1 w1.2.2.1 w1.2.2.2.1 (fun j hj => Or.inl (fr.2.2.1 j hj).2.2.2) (fun j hj => by
    have := (fr.2.1 j hj).2
    unfold mct
    omega)
  rw [hI_s] at f4
  refine ⟨F4, ?_, ⟨hQ, SkR.s _ hR6, SkR.s _ hR5, hO, r6, ?_, ?_⟩, fun c s k => by rw [f4 c s (by omega), o3 c s k]⟩
  · have t1 := hQ.t
    have r3 := hQ.r3
    have r4 := hQ.r4
    have r9 := hQ.r9
    have tO : hT h 202 = 2 := hO.t
    have tR : hT h 206 = 3 := hR6.t
    have tS : hT h 265 = 3 := hR5.t
    have m11 : F2 206 11 = iI 0 := by rw [b2 _ _ (by omega) (by omega) (by omega), b1 _ _ (by omega)]; exact h11
    have e5 : sI (sI h F2) (up2 F2 265 11 (iI 0)) = sI h F3 := by rw [sI_s, eF3]
    rw [sI_s] at e2
    unfold f_QuillBoats_takeWhatWasTold
    rw [gd_P t1, q8, gd_P hD.1, q7, e1, bv_S, hT_s, hR_s, gd_P t1, r3, gd_P tO, q8, e2, bv_S, hT_s, hR_s, gd_P t1, r4, gd_P tR, r9, gd_P tS, hI_s, m11, wI_s, hI_s, e5, lq_E, hT_s, hR_s, gd_P t1, r4, gd_P tR, r9, e4, bv_S]
    rfl
  · refine pg_told hNm hno hW st hl ?_ fun q d hd => ⟨?_, ?_⟩
    · rw [hI_s, f4 _ _ (by omega), eF3, up2_n _ _ _ _ _ _ (by omega)]; exact a2
    · have ql : q < (dAll n m p b no O g).length := by
        rcases Nat.lt_or_ge q (dAll n m p b no O g).length with c | c
        · exact c
        · rw [List.getElem?_eq_none c] at hd; cases hd
      rw [hI_s, f4 _ _ (by omega), eF3, up2_n _ _ _ _ _ _ (by omega), (a3 q ql).1, b1 _ _ (by omega)]
      exact (D.2 q d hd).1
    · have ql : q < (dAll n m p b no O g).length := by
        rcases Nat.lt_or_ge q (dAll n m p b no O g).length with c | c
        · exact c
        · rw [List.getElem?_eq_none c] at hd; cases hd
      rw [hI_s, f4 _ _ (by omega), eF3, up2_n _ _ _ _ _ _ (by omega), (a3 q ql).2]
      exact a1 q d hd
  · rw [hI_s, f4 _ _ (by omega), o3 _ _ (by omega)]; exact h20
end

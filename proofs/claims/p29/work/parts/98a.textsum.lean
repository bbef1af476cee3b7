/-! 98a L3: sums and tests in words (written by l3/gen98a.py) -/
theorem modI {x : Int} {c : Nat} (h1 : 0 ≤ x) (h2 : x < 2147483648) (h3 : 0 < c) (h4 : c < 2147483648) : iI x - iI x / nI c * nI c = iI ((x.toNat % c : Nat) : Int) := by
  rw [nI_i, iI_div h1 h2 (by omega) (by omega), iI_mul, iI_sub, emod_L]
  congr 1
  have : ((x.toNat % c : Nat) : Int) = (x.toNat : Int) % (c : Int) := Int.natCast_emod _ _
  rw [this, Int.toNat_of_nonneg h1]
-- a string made since h, c cells
def Sr (h h' : AH) (s : Nat) (bs : List Nat) (c : Nat) : Prop := Str h' s bs ∧ (hN h ≤ s ∧ s < hN h') ∧ (hN h ≤ hR h' s 0 ∧ hR h' s 0 < hN h') ∧ (∀ x, x < hN h → E4 h h' x) ∧ Co c h h'
theorem Tx.fin {h h1 : AH} {a c : Nat} {bs : List Nat} (t : Tx h a bs h1) (k : Co c h h1) : ∃ h', f_SB_toString h1 a = some (h', hN h1) ∧ Sr h h' (hN h1) bs (c + 2) := by
  obtain ⟨h', e1, e2, e3, e4, e5, e6⟩ := toString_E t.1
  have n1 := t.2.2.1
  refine ⟨h', e1, e2, ⟨n1, by omega⟩, ⟨by omega, by omega⟩, fun x hx => (t.2.2.2 x hx).trans (e6 x (by omega)), ?_⟩
  exact k.trans ⟨by omega, by omega, by omega⟩
theorem Sr.sm {xA n m p b no : Nat} {O : Nat → Nat → Int} {g : GM} {h h' : AH} {s c : Nat} {bs : List Nat} (k : Sr h h' s bs c) (hNm : Nm n m p b) (hs : Sm xA n m p b no O h g) : Sm xA n m p b no O h' g := hs.ext hNm k.2.2.2.2.1 fun x _ hx => k.2.2.2.1 x hx
theorem Sr.st {h h' : AH} {s c : Nat} {bs : List Nat} (k : Sr h h' s bs c) (h200 : 200 ≤ hN h) (st : St h) : St h' := st.z fun x hx => k.2.2.2.1 x (by omega)
section
variable {xA n m p b no : Nat} {O : Nat → Nat → Int} {g : GM}
theorem sumOf0 (hNm : Nm n m p b) {h : AH} (hs0 : Sm xA n m p b no O h g) (st0 : St h) {i : Nat} (hi : i < no) (hW : Wk n m p b (O i)) (hw3 : O i 3 = 0) :
    ∃ h' s, f_Sim_sumOf h (338 + n + m + p + b + i) = some (h', s) ∧ Sr h h' s (fl [(56, (O i 4).toNat % 50, [])]) 14 := by
  have hN' := hNm
  unfold Nm at hN'
  have hw := hW
  unfold Wk at hw
  have h200 : 200 ≤ hN h := by have := hs0.2.2.2.2.2.1; unfold tp at this; omega
  have gl := gS_len (O i 2).toNat
  have e2N : iI (O i 2) = iI ((O i 2).toNat : Int) := iI_N (by omega)
  have g4 : (O i 2).toNat < 4 := by omega
  have L62 : s62.length = 0 := rfl
  have D0 := dig_len (n := (O i 4).toNat % 50)
  obtain ⟨hb, eb, tb0, t, c0⟩ := Tx.new (h := h) h200
  have hm0 := t.sm hNm hs0
  obtain ⟨h1, e1, t1, c1⟩ := t.s h200 (t.st h200 st0).k62 (by (try simp only [List.length_append, List.length_nil]); omega)
  have m1 := t1.sm hNm hs0
  obtain ⟨h2, e2, t2, c2⟩ := t1.i (t1.st h200 st0).1 (n := (O i 4).toNat % 50) (by omega) (by (try simp only [List.length_append, List.length_nil]); omega)
  have m2 := t2.sm hNm hs0
  obtain ⟨hf, ef, sf⟩ := t2.fin ((c0.trans c1).trans c2)
  refine ⟨hf, hN h2, ?_, ?_⟩
  · unfold f_Sim_sumOf
    rw [gd_P (hs0.1.w2 hi (s := 2) (by omega)), gd_P ⟨st0.2.1.1, by rw [hs0.w3 hi (s := 2) (by omega), e2N]; exact inb_i (by have := st0.2.1.2.1; omega) (by omega)⟩, lq_E, gd_P (hs0.1.w2 hi (s := 3) (by omega)), hs0.w3 hi (s := 3) (by omega), hw3, if_neg (fun k => k (by rw [z_i])), lq_E, gd_P tb0, eb, bv_S, gd_P t.1.1, bn_C e1, gd_P ((m1).1.w2 hi (s := 4) (by omega)), gd_P t1.1.1, bn_I (by rw [m1.w3 hi (s := 4) (by omega)]; exact modI (c := 50) (by omega) (by omega) (by omega) (by omega)) e2, gd_P t2.1.1, bn_C ef]
  · have eB : (([] : List Nat) ++ s62) ++ dig ((O i 4).toNat % 50) = fl [(56, (O i 4).toNat % 50, [])] := by
      simp only [List.append_assoc, List.nil_append, fl, List.append_nil]
      all_goals rfl
    rw [← eB]
    exact ⟨sf.1, sf.2.1, sf.2.2.1, sf.2.2.2.1, sf.2.2.2.2.mono (by omega)⟩
theorem sumOf1 (hNm : Nm n m p b) {h : AH} (hs0 : Sm xA n m p b no O h g) (st0 : St h) {i : Nat} (hi : i < no) (hW : Wk n m p b (O i)) (hw3 : O i 3 = 1) :
    ∃ h' s, f_Sim_sumOf h (338 + n + m + p + b + i) = some (h', s) ∧ Sr h h' s (fl [(31, 0, [32]), (18 + (O i 2).toNat, 0, []), (47, 0, []), (56, (O i 4).toNat % 7, [])]) 14 := by
  have hN' := hNm
  unfold Nm at hN'
  have hw := hW
  unfold Wk at hw
  have h200 : 200 ≤ hN h := by have := hs0.2.2.2.2.2.1; unfold tp at this; omega
  have gl := gS_len (O i 2).toNat
  have e2N : iI (O i 2) = iI ((O i 2).toNat : Int) := iI_N (by omega)
  have g4 : (O i 2).toNat < 4 := by omega
  have L64 : s64.length = 6 := rfl
  have L66 : s66.length = 1 := rfl
  have D0 := dig_len (n := (O i 4).toNat % 7)
  obtain ⟨hb, eb, tb0, t, c0⟩ := Tx.new (h := h) h200
  have hm0 := t.sm hNm hs0
  obtain ⟨h1, e1, t1, c1⟩ := t.s h200 (t.st h200 st0).k64 (by (try simp only [List.length_append, List.length_nil]); omega)
  have m1 := t1.sm hNm hs0
  obtain ⟨h2, e2, t2, c2⟩ := t1.s h200 ((t1.st h200 st0).g g4) (by (try simp only [List.length_append, List.length_nil]); omega)
  have m2 := t2.sm hNm hs0
  obtain ⟨h3, e3, t3, c3⟩ := t2.s h200 (t2.st h200 st0).k66 (by (try simp only [List.length_append, List.length_nil]); omega)
  have m3 := t3.sm hNm hs0
  obtain ⟨h4, e4, t4, c4⟩ := t3.i (t3.st h200 st0).1 (n := (O i 4).toNat % 7) (by omega) (by (try simp only [List.length_append, List.length_nil]); omega)
  have m4 := t4.sm hNm hs0
  obtain ⟨hf, ef, sf⟩ := t4.fin ((((c0.trans c1).trans c2).trans c3).trans c4)
  refine ⟨hf, hN h4, ?_, ?_⟩
  · unfold f_Sim_sumOf
    rw [gd_P (hs0.1.w2 hi (s := 2) (by omega)), gd_P ⟨st0.2.1.1, by rw [hs0.w3 hi (s := 2) (by omega), e2N]; exact inb_i (by have := st0.2.1.2.1; omega) (by omega)⟩, lq_E, gd_P (hs0.1.w2 hi (s := 3) (by omega)), hs0.w3 hi (s := 3) (by omega), hw3, if_pos (by rw [z_i, iI_eq (by omega) (by omega) (by omega) (by omega)]; omega), if_neg (fun k => k (by rw [nI_L])), lq_E, gd_P tb0, eb, bv_S, gd_P t.1.1, bn_C e1, gd_P t1.1.1, bn_s (by rw [hs0.w3 hi (s := 2) (by omega), e2N, ix_i (by omega)]; exact (congrFun (t1.2.2.2 2 (by omega)).2.2.2 _).symm) e2, gd_P t2.1.1, bn_C e3, gd_P ((m3).1.w2 hi (s := 4) (by omega)), gd_P t3.1.1, bn_I (by rw [m3.w3 hi (s := 4) (by omega)]; exact modI (c := 7) (by omega) (by omega) (by omega) (by omega)) e4, gd_P t4.1.1, bn_C ef]
  · have eB : (((([] : List Nat) ++ s64) ++ gS ((O i 2).toNat)) ++ s66) ++ dig ((O i 4).toNat % 7) = fl [(31, 0, [32]), (18 + (O i 2).toNat, 0, []), (47, 0, []), (56, (O i 4).toNat % 7, [])] := by
      simp only [List.append_assoc, List.nil_append, fl, List.append_nil, tbG g4]
      all_goals rfl
    rw [← eB]
    exact ⟨sf.1, sf.2.1, sf.2.2.1, sf.2.2.2.1, sf.2.2.2.2.mono (by omega)⟩
theorem sumOf2 (hNm : Nm n m p b) {h : AH} (hs0 : Sm xA n m p b no O h g) (st0 : St h) {i : Nat} (hi : i < no) (hW : Wk n m p b (O i)) (hw3 : O i 3 = 2) :
    ∃ h' s, f_Sim_sumOf h (338 + n + m + p + b + i) = some (h', s) ∧ Sr h h' s (fl [(39, 0, []), (40, 0, []), (31, 0, [32]), (18 + (O i 2).toNat, 0, []), (49, 0, []), (56, 2, []), (45, 0, []), (56, (O i 4).toNat % 9, []), (41, 0, [])]) 14 := by
  have hN' := hNm
  unfold Nm at hN'
  have hw := hW
  unfold Wk at hw
  have h200 : 200 ≤ hN h := by have := hs0.2.2.2.2.2.1; unfold tp at this; omega
  have gl := gS_len (O i 2).toNat
  have e2N : iI (O i 2) = iI ((O i 2).toNat : Int) := iI_N (by omega)
  have g4 : (O i 2).toNat < 4 := by omega
  have L68 : s68.length = 10 := rfl
  have L70 : s70.length = 3 := rfl
  have L72 : s72.length = 1 := rfl
  have D0 := dig_len (n := (O i 4).toNat % 9)
  obtain ⟨hb, eb, tb0, t, c0⟩ := Tx.new (h := h) h200
  have hm0 := t.sm hNm hs0
  obtain ⟨h1, e1, t1, c1⟩ := t.s h200 (t.st h200 st0).k68 (by (try simp only [List.length_append, List.length_nil]); omega)
  have m1 := t1.sm hNm hs0
  obtain ⟨h2, e2, t2, c2⟩ := t1.s h200 ((t1.st h200 st0).g g4) (by (try simp only [List.length_append, List.length_nil]); omega)
  have m2 := t2.sm hNm hs0
  obtain ⟨h3, e3, t3, c3⟩ := t2.s h200 (t2.st h200 st0).k70 (by (try simp only [List.length_append, List.length_nil]); omega)
  have m3 := t3.sm hNm hs0
  obtain ⟨h4, e4, t4, c4⟩ := t3.i (t3.st h200 st0).1 (n := (O i 4).toNat % 9) (by omega) (by (try simp only [List.length_append, List.length_nil]); omega)
  have m4 := t4.sm hNm hs0
  obtain ⟨h5, e5, t5, c5⟩ := t4.s h200 (t4.st h200 st0).k72 (by (try simp only [List.length_append, List.length_nil]); omega)
  have m5 := t5.sm hNm hs0
  obtain ⟨hf, ef, sf⟩ := t5.fin (((((c0.trans c1).trans c2).trans c3).trans c4).trans c5)
  refine ⟨hf, hN h5, ?_, ?_⟩
  · unfold f_Sim_sumOf
    rw [gd_P (hs0.1.w2 hi (s := 2) (by omega)), gd_P ⟨st0.2.1.1, by rw [hs0.w3 hi (s := 2) (by omega), e2N]; exact inb_i (by have := st0.2.1.2.1; omega) (by omega)⟩, lq_E, gd_P (hs0.1.w2 hi (s := 3) (by omega)), hs0.w3 hi (s := 3) (by omega), hw3, if_pos (by rw [z_i, iI_eq (by omega) (by omega) (by omega) (by omega)]; omega), if_pos (by rw [nI_L, iI_eq (by omega) (by omega) (by omega) (by omega)]; omega), if_neg (fun k => k (by rw [nI_L])), lq_E, gd_P tb0, eb, bv_S, gd_P t.1.1, bn_C e1, gd_P t1.1.1, bn_s (by rw [hs0.w3 hi (s := 2) (by omega), e2N, ix_i (by omega)]; exact (congrFun (t1.2.2.2 2 (by omega)).2.2.2 _).symm) e2, gd_P t2.1.1, bn_C e3, gd_P ((m3).1.w2 hi (s := 4) (by omega)), gd_P t3.1.1, bn_I (by rw [m3.w3 hi (s := 4) (by omega)]; exact modI (c := 9) (by omega) (by omega) (by omega) (by omega)) e4, gd_P t4.1.1, bn_C e5, gd_P t5.1.1, bn_C ef]
  · have eB : ((((([] : List Nat) ++ s68) ++ gS ((O i 2).toNat)) ++ s70) ++ dig ((O i 4).toNat % 9)) ++ s72 = fl [(39, 0, []), (40, 0, []), (31, 0, [32]), (18 + (O i 2).toNat, 0, []), (49, 0, []), (56, 2, []), (45, 0, []), (56, (O i 4).toNat % 9, []), (41, 0, [])] := by
      simp only [List.append_assoc, List.nil_append, fl, List.append_nil, tbG g4]
      all_goals rfl
    rw [← eB]
    exact ⟨sf.1, sf.2.1, sf.2.2.1, sf.2.2.2.1, sf.2.2.2.2.mono (by omega)⟩
theorem sumOf3 (hNm : Nm n m p b) {h : AH} (hs0 : Sm xA n m p b no O h g) (st0 : St h) {i : Nat} (hi : i < no) (hW : Wk n m p b (O i)) (hw3 : O i 3 = 3) :
    ∃ h' s, f_Sim_sumOf h (338 + n + m + p + b + i) = some (h', s) ∧ Sr h h' s (fl [(17, 0, [32]), (18 + (O i 2).toNat, 0, []), (48, 0, []), (56, 2, []), (46, 0, []), (56, (O i 4).toNat % 5, [])]) 14 := by
  have hN' := hNm
  unfold Nm at hN'
  have hw := hW
  unfold Wk at hw
  have h200 : 200 ≤ hN h := by have := hs0.2.2.2.2.2.1; unfold tp at this; omega
  have gl := gS_len (O i 2).toNat
  have e2N : iI (O i 2) = iI ((O i 2).toNat : Int) := iI_N (by omega)
  have g4 : (O i 2).toNat < 4 := by omega
  have L46 : s46.length = 6 := rfl
  have L74 : s74.length = 3 := rfl
  have D0 := dig_len (n := (O i 4).toNat % 5)
  obtain ⟨hb, eb, tb0, t, c0⟩ := Tx.new (h := h) h200
  have hm0 := t.sm hNm hs0
  obtain ⟨h1, e1, t1, c1⟩ := t.s h200 (t.st h200 st0).k46 (by (try simp only [List.length_append, List.length_nil]); omega)
  have m1 := t1.sm hNm hs0
  obtain ⟨h2, e2, t2, c2⟩ := t1.s h200 ((t1.st h200 st0).g g4) (by (try simp only [List.length_append, List.length_nil]); omega)
  have m2 := t2.sm hNm hs0
  obtain ⟨h3, e3, t3, c3⟩ := t2.s h200 (t2.st h200 st0).k74 (by (try simp only [List.length_append, List.length_nil]); omega)
  have m3 := t3.sm hNm hs0
  obtain ⟨h4, e4, t4, c4⟩ := t3.i (t3.st h200 st0).1 (n := (O i 4).toNat % 5) (by omega) (by (try simp only [List.length_append, List.length_nil]); omega)
  have m4 := t4.sm hNm hs0
  obtain ⟨hf, ef, sf⟩ := t4.fin ((((c0.trans c1).trans c2).trans c3).trans c4)
  refine ⟨hf, hN h4, ?_, ?_⟩
  · unfold f_Sim_sumOf
    rw [gd_P (hs0.1.w2 hi (s := 2) (by omega)), gd_P ⟨st0.2.1.1, by rw [hs0.w3 hi (s := 2) (by omega), e2N]; exact inb_i (by have := st0.2.1.2.1; omega) (by omega)⟩, lq_E, gd_P (hs0.1.w2 hi (s := 3) (by omega)), hs0.w3 hi (s := 3) (by omega), hw3, if_pos (by rw [z_i, iI_eq (by omega) (by omega) (by omega) (by omega)]; omega), if_pos (by rw [nI_L, iI_eq (by omega) (by omega) (by omega) (by omega)]; omega), if_pos (by rw [nI_L, iI_eq (by omega) (by omega) (by omega) (by omega)]; omega), lq_E, gd_P tb0, eb, bv_S, gd_P t.1.1, bn_C e1, gd_P t1.1.1, bn_s (by rw [hs0.w3 hi (s := 2) (by omega), e2N, ix_i (by omega)]; exact (congrFun (t1.2.2.2 2 (by omega)).2.2.2 _).symm) e2, gd_P t2.1.1, bn_C e3, gd_P ((m3).1.w2 hi (s := 4) (by omega)), gd_P t3.1.1, bn_I (by rw [m3.w3 hi (s := 4) (by omega)]; exact modI (c := 5) (by omega) (by omega) (by omega) (by omega)) e4, gd_P t4.1.1, bn_C ef]
  · have eB : (((([] : List Nat) ++ s46) ++ gS ((O i 2).toNat)) ++ s74) ++ dig ((O i 4).toNat % 5) = fl [(17, 0, [32]), (18 + (O i 2).toNat, 0, []), (48, 0, []), (56, 2, []), (46, 0, []), (56, (O i 4).toNat % 5, [])] := by
      simp only [List.append_assoc, List.nil_append, fl, List.append_nil, tbG g4]
      all_goals rfl
    rw [← eB]
    exact ⟨sf.1, sf.2.1, sf.2.2.1, sf.2.2.2.1, sf.2.2.2.2.mono (by omega)⟩
end

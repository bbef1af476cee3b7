/-! 98e L3: the text: orders -/
section
variable {xA n m p b no : Nat} {O : Nat → Nat → Int} {h0 : AH} {g : GM}
-- " when ", the test, "; "
theorem txW (hNm : Nm n m p b) (hs0 : Sm xA n m p b no O h0 g) (st0 : St h0) {h : AH} {a : Nat} {bs : List Nat} (t : Tx h0 a bs h) (hl : bs.length + 80 ≤ 2400) {i : Nat} (hi : i < no) (hW : Wk n m p b (O i)) (K : AH → Nat → Nat → Nat → Int32 → Int32 → Option (AH × Nat)) (a3 : Nat) (a4 : Int32) :
    ∃ h', f_Sim_text_b604 K h 320 a a3 a4 (iI (i : Int)) (338 + n + m + p + b + i) = K h' 320 a a3 a4 (iI ((i + 1 : Nat) : Int)) ∧ Tx h0 a (bs ++ ([32] ++ fl (tkW n m p b (O i 5).toNat (O i 6).toNat (O i 7).toNat ++ [(44, 0, [32])]))) h' ∧ Co 29 h h' := by
  have h200 : 200 ≤ hN h0 := by have := hs0.2.2.2.2.2.1; unfold tp at this; omega
  have L58 : s58.length = 6 := rfl
  have L60 : s60.length = 2 := rfl
  have LT := Nat.le_trans (fl_len (tkT n m p b (O i 5).toNat (O i 6).toNat (O i 7).toNat [])) lenT
  rw [List.length_nil] at LT
  obtain ⟨h1, e1, t1, c1⟩ := t.s h200 (t.st h200 st0).k58 (by (try simp only [List.length_append]); omega)
  have m1 := t1.sm hNm hs0
  obtain ⟨h2, s, e2, q2⟩ := test_E hNm m1 (t1.st h200 st0) hi hW
  obtain ⟨h3, e3, t3, c3⟩ := t1.q q2 (by (try simp only [List.length_append]); omega)
  obtain ⟨h4, e4, t4, c4⟩ := t3.s h200 (t3.st h200 st0).k60 (by (try simp only [List.length_append]); omega)
  have t2 := t1.ext q2.2.2.2.2.2.1 q2.2.2.2.2.1
  refine ⟨h4, ?_, ?_, ((c1.trans c3).trans c4).mono (by omega)⟩
  · unfold f_Sim_text_b604
    rw [gd_P t.1.1, bn_C e1, gd_P m1.1.t, bn_C e2, gd_P t2.1.1, bn_C e3]
    unfold f_Sim_text_b621
    rw [gd_P t3.1.1, bn_C e4, lq_E, nI_L, iI_add]
    rfl
  · have eB : ((bs ++ s58) ++ fl (tkT n m p b (O i 5).toNat (O i 6).toNat (O i 7).toNat [])) ++ s60 = bs ++ ([32] ++ fl (tkW n m p b (O i 5).toNat (O i 6).toNat (O i 7).toNat ++ [(44, 0, [32])])) := by
      unfold tkW
      rw [fl_app]
      simp only [List.append_assoc, fl]
      rfl
    rw [← eB]
    exact t4
-- the end alone
theorem txE (hNm : Nm n m p b) (hs0 : Sm xA n m p b no O h0 g) (st0 : St h0) {h : AH} {a : Nat} {bs : List Nat} (t : Tx h0 a bs h) (hl : bs.length + 10 ≤ 2400) {i : Nat} (K : AH → Nat → Nat → Nat → Int32 → Int32 → Option (AH × Nat)) (a3 : Nat) (a4 : Int32) :
    ∃ h', f_Sim_text_b621 K h 320 a a3 a4 (iI (i : Int)) = K h' 320 a a3 a4 (iI ((i + 1 : Nat) : Int)) ∧ Tx h0 a (bs ++ fl [(44, 0, [32])]) h' ∧ Co 1 h h' := by
  have h200 : 200 ≤ hN h0 := by have := hs0.2.2.2.2.2.1; unfold tp at this; omega
  have L60 : s60.length = 2 := rfl
  obtain ⟨h1, e1, t1, c1⟩ := t.s h200 (t.st h200 st0).k60 (by (try simp only [List.length_append]); omega)
  refine ⟨h1, ?_, t1, c1⟩
  unfold f_Sim_text_b621
  rw [gd_P t.1.1, bn_C e1, lq_E, nI_L, iI_add]
  rfl
theorem txO (hNm : Nm n m p b) (hs0 : Sm xA n m p b no O h0 g) (st0 : St h0) {h : AH} {a : Nat} {bs : List Nat} (t : Tx h0 a bs h) (hl : bs.length + 140 ≤ 2400) {i : Nat} (hi : i < no) (hno : no ≤ 100) (hW : Wk n m p b (O i)) (K : AH → Nat → Nat → Nat → Int32 → Int32 → Option (AH × Nat)) :
    ∃ h', f_Sim_text_b477 K h 320 a (337 + n + m + p + b) (iI (no : Int)) (iI (i : Int)) = K h' 320 a (337 + n + m + p + b) (iI (no : Int)) (iI ((i + 1 : Nat) : Int)) ∧ Tx h0 a (bs ++ fl (tkO n m p b (O i))) h' ∧ Co 60 h h' := by
  have hN' := hNm
  unfold Nm at hN'
  have hw := hW
  unfold Wk at hw
  have h200 : 200 ≤ hN h0 := by have := hs0.2.2.2.2.2.1; unfold tp at this; omega
  have hm0 := t.sm hNm hs0
  have L48 : s48.length = 6 := rfl
  have L50 : s50.length = 6 := rfl
  have L52 : s52.length = 6 := rfl
  have L54 : s54.length = 4 := rfl
  have L56 : s56.length = 6 := rfl
  have D0 := dig_len (n := (O i 1).toNat)
  have gl := gS_len (O i 2).toNat
  have g4 : (O i 2).toNat < 4 := by omega
  have w1b : (O i 1).toNat < 10 := by
    by_cases c : O i 0 = 1
    · have := hw.2.1.2.1 c; omega
    · have := hw.2.1.2.2 c; omega
  have pre : ∀ (X : Option (AH × Nat)), (gd (hT h (337 + n + m + p + b) = 109 ∧ inb (iI (i : Int)) (hL h (337 + n + m + p + b))) X) = X := fun X => gd_P ⟨hm0.1.tor, by rw [hm0.1.lor]; exact inb_i hi (by omega)⟩
  have n0 : ¬ iI (no : Int) ≤ iI (i : Int) := by rw [iI_le (by omega) (by omega) (by omega) (by omega)]; omega
  have r0 : hR h (337 + n + m + p + b) (ix (iI (i : Int))) = 338 + n + m + p + b + i := by rw [ix_i (by omega)]; exact hm0.1.oR hi
  by_cases c1 : O i 0 = 1
  · -- load
    obtain ⟨h1, e1, t1, k1⟩ := t.s h200 (t.st h200 st0).k50 (by (try simp only [List.length_append]); omega)
    have m1 := t1.sm hNm hs0
    obtain ⟨h2, e2, t2, k2⟩ := t1.i (t1.st h200 st0).1 (n := (O i 1).toNat) (by omega) (by (try simp only [List.length_append]); omega)
    obtain ⟨h3, e3, t3, k3⟩ := t2.s h200 (t2.st h200 st0).k52 (by (try simp only [List.length_append]); omega)
    have m3 := t3.sm hNm hs0
    obtain ⟨h4, s, e4, q4⟩ := sumOf_E hNm m3 (t3.st h200 st0) hi hW
    have LS := Nat.le_trans (fl_len (tkS (O i 2).toNat (O i 3).toNat (O i 4).toNat [])) (lenS g4)
    rw [List.length_nil] at LS
    obtain ⟨h5, e5, t5, k5⟩ := t3.q q4.q (by (try simp only [List.length_append]); omega)
    have t4 := t3.ext q4.q.2.2.2.2.2.1 q4.q.2.2.2.2.1
    obtain ⟨h6, e6, t6, k6⟩ := t5.s h200 (t5.st h200 st0).k54 (by (try simp only [List.length_append]); omega)
    have m6 := t6.sm hNm hs0
    have st6 := t6.st h200 st0
    obtain ⟨h7, e7, t7, k7⟩ := t6.s h200 (st6.g g4) (by (try simp only [List.length_append]); omega)
    have m7 := t7.sm hNm hs0
    have co7 : Co 21 h h7 := (((((k1.trans k2).trans k3).trans k5).trans k6).trans k7).mono (by omega)
    have g2 : ix (hI h6 (338 + n + m + p + b + i) (ix (nI 2))) = (O i 2).toNat := by rw [m6.w3 hi (s := 2) (by omega), iI_N (show 0 ≤ O i 2 by omega), ix_i (by omega)]
    have eH : f_Sim_text_b477 K h 320 a (337 + n + m + p + b) (iI (no : Int)) (iI (i : Int)) = f_Sim_text_b587 K h7 320 a (337 + n + m + p + b) (iI (no : Int)) (iI (i : Int)) (338 + n + m + p + b + i) := by
      unfold f_Sim_text_b477
      rw [if_neg n0, pre, lq_E, r0, gd_P (hm0.1.w2 hi (s := 0) (by omega)), hm0.w3 hi (s := 0) (by omega), c1, if_pos (by rw [z_i, iI_eq (by omega) (by omega) (by omega) (by omega)]; omega), if_neg (fun k => k (by rw [nI_L])), gd_P t.1.1, bn_C e1, gd_P (m1.1.w2 hi (s := 1) (by omega)), gd_P t1.1.1, bn_I ((m1.w3 hi (s := 1) (by omega)).trans (iI_N (by omega))) e2, gd_P t2.1.1, bn_C e3, bn_C e4, gd_P t4.1.1, bn_C e5, gd_P t5.1.1, bn_C e6, gd_P (m6.1.w2 hi (s := 2) (by omega)), gd_P ⟨st6.2.1.1, by rw [m6.w3 hi (s := 2) (by omega), iI_N (show 0 ≤ O i 2 by omega)]; exact inb_i (by have := st6.2.1.2.1; omega) (by omega)⟩, gd_P t6.1.1, bn_s (by rw [g2]) e7]
    have B7 : ((((((bs ++ s50) ++ dig (O i 1).toNat) ++ s52) ++ fl (tkS (O i 2).toNat (O i 3).toNat (O i 4).toNat [])) ++ s54) ++ gS (O i 2).toNat) = bs ++ (fl [(23, 0, [32]), (55, 98 * 16 + (O i 1).toNat, [32]), (24, 0, [32])] ++ (fl (tkS (O i 2).toNat (O i 3).toNat (O i 4).toNat [32]) ++ fl [(8, 0, [32]), (18 + (O i 2).toNat, 0, [])])) := by
      rw [flS_e (e := [32]), dig1 w1b]
      simp only [List.append_assoc, fl, tbG g4, tbN (c := 98) (show (O i 1).toNat < 16 by omega), List.append_nil, List.nil_append]
      rfl
    rw [B7] at t7
    have LB : (fl [(23, 0, [32]), (55, 98 * 16 + (O i 1).toNat, [32]), (24, 0, [32])] ++ (fl (tkS (O i 2).toNat (O i 3).toNat (O i 4).toNat [32]) ++ fl [(8, 0, [32]), (18 + (O i 2).toNat, 0, [])])).length ≤ 55 := by
      rw [flS_e (e := [32])]
      have x1 := fl_len [(23, 0, [32]), (55, 98 * 16 + (O i 1).toNat, [32]), (24, 0, [32])]
      have x2 := fl_len [(8, 0, [32]), (18 + (O i 2).toNat, 0, [])]
      have y1 : lenB [(23, 0, [32]), (55, 98 * 16 + (O i 1).toNat, [32]), (24, 0, [32])] = 13 := rfl
      have y2 : lenB [(8, 0, [32]), (18 + (O i 2).toNat, 0, [])] = 2 + 1 + (kb (18 + (O i 2).toNat) + 0 + 0) := rfl
      have y3 := kbG g4
      simp only [List.length_append, List.length_singleton]
      omega
    by_cases c5 : O i 5 < 8
    · obtain ⟨h8, e8, t8, k8⟩ := txW hNm hs0 st0 t7 (by (try simp only [List.length_append] at LB ⊢); omega) hi hW K (337 + n + m + p + b) (iI (no : Int))
      refine ⟨h8, ?_, ?_, (co7.trans k8).mono (by omega)⟩
      · refine eH.trans ?_
        unfold f_Sim_text_b587
        rw [gd_P (m7.1.w2 hi (s := 0) (by omega)), m7.w3 hi (s := 0) (by omega), c1, if_neg (fun k => k (by rw [nI_L])), gd_P (m7.1.w2 hi (s := 5) (by omega)), m7.w3 hi (s := 5) (by omega), if_neg (by rw [nI_L, iI_le (by omega) (by omega) (by omega) (by omega)]; omega)]
        exact e8
      · have eB : (bs ++ (fl [(23, 0, [32]), (55, 98 * 16 + (O i 1).toNat, [32]), (24, 0, [32])] ++ (fl (tkS (O i 2).toNat (O i 3).toNat (O i 4).toNat [32]) ++ fl [(8, 0, [32]), (18 + (O i 2).toNat, 0, [])]))) ++ ([32] ++ fl (tkW n m p b (O i 5).toNat (O i 6).toNat (O i 7).toNat ++ [(44, 0, [32])])) = bs ++ fl (tkO n m p b (O i)) := by
          unfold tkO
          rw [if_pos c1, if_pos c5, if_pos c5]
          simp only [List.append_assoc, fl, fl_app, List.append_nil, List.nil_append]
        rw [← eB]
        exact t8
    · obtain ⟨h8, e8, t8, k8⟩ := txE hNm hs0 st0 t7 (i := i) (by (try simp only [List.length_append] at LB ⊢); omega) K (337 + n + m + p + b) (iI (no : Int))
      refine ⟨h8, ?_, ?_, (co7.trans k8).mono (by omega)⟩
      · refine eH.trans ?_
        unfold f_Sim_text_b587
        rw [gd_P (m7.1.w2 hi (s := 0) (by omega)), m7.w3 hi (s := 0) (by omega), c1, if_neg (fun k => k (by rw [nI_L])), gd_P (m7.1.w2 hi (s := 5) (by omega)), m7.w3 hi (s := 5) (by omega), if_pos (by rw [nI_L, iI_le (by omega) (by omega) (by omega) (by omega)]; omega)]
        exact e8
      · have eB : (bs ++ (fl [(23, 0, [32]), (55, 98 * 16 + (O i 1).toNat, [32]), (24, 0, [32])] ++ (fl (tkS (O i 2).toNat (O i 3).toNat (O i 4).toNat [32]) ++ fl [(8, 0, [32]), (18 + (O i 2).toNat, 0, [])]))) ++ fl [(44, 0, [32])] = bs ++ fl (tkO n m p b (O i)) := by
          unfold tkO
          rw [if_pos c1, if_neg c5, if_neg c5]
          simp only [List.append_assoc, fl, fl_app, List.append_nil, List.nil_append]
        rw [← eB]
        exact t8
  · -- whet, rest
    by_cases c0 : O i 0 = 0
    · -- whet
      obtain ⟨h1, e1, t1, k1⟩ := t.s h200 (t.st h200 st0).k48 (by (try simp only [List.length_append]); omega)
      have m1 := t1.sm hNm hs0
      obtain ⟨h2, e2, t2, k2⟩ := t1.i (t1.st h200 st0).1 (n := (O i 1).toNat) (by omega) (by (try simp only [List.length_append]); omega)
      have m2 := t2.sm hNm hs0
      obtain ⟨h8, e8, t8, k8⟩ := txW hNm hs0 st0 t2 (by (try simp only [List.length_append]); omega) hi hW K (337 + n + m + p + b) (iI (no : Int))
      refine ⟨h8, ?_, ?_, ((k1.trans k2).trans k8).mono (by omega)⟩
      · refine Eq.trans ?_ e8
        unfold f_Sim_text_b477
        rw [if_neg n0, pre, lq_E, r0, gd_P (hm0.1.w2 hi (s := 0) (by omega)), hm0.w3 hi (s := 0) (by omega), c0, if_neg (fun k => k (by rw [z_i])), gd_P t.1.1, bn_C e1, gd_P (m1.1.w2 hi (s := 1) (by omega)), gd_P t1.1.1, bn_I ((m1.w3 hi (s := 1) (by omega)).trans (iI_N (by omega))) e2]
        unfold f_Sim_text_b587
        rw [gd_P (m2.1.w2 hi (s := 0) (by omega)), m2.w3 hi (s := 0) (by omega), if_pos (by rw [nI_L, iI_eq (by omega) (by omega) (by omega) (by omega)]; exact c1)]
      · have eB : ((bs ++ s48) ++ dig (O i 1).toNat) ++ ([32] ++ fl (tkW n m p b (O i 5).toNat (O i 6).toNat (O i 7).toNat ++ [(44, 0, [32])])) = bs ++ fl (tkO n m p b (O i)) := by
          unfold tkO
          rw [if_neg c1, if_pos c0, dig1 w1b]
          simp only [List.append_assoc, fl, fl_app, List.append_nil, List.nil_append, tbN (c := 112) (show (O i 1).toNat < 16 by omega)]
          rfl
        rw [← eB]
        exact t8
    · -- rest
      obtain ⟨h1, e1, t1, k1⟩ := t.s h200 (t.st h200 st0).k56 (by (try simp only [List.length_append]); omega)
      have m1 := t1.sm hNm hs0
      obtain ⟨h2, e2, t2, k2⟩ := t1.i (t1.st h200 st0).1 (n := (O i 1).toNat) (by omega) (by (try simp only [List.length_append]); omega)
      have m2 := t2.sm hNm hs0
      obtain ⟨h8, e8, t8, k8⟩ := txW hNm hs0 st0 t2 (by (try simp only [List.length_append]); omega) hi hW K (337 + n + m + p + b) (iI (no : Int))
      refine ⟨h8, ?_, ?_, ((k1.trans k2).trans k8).mono (by omega)⟩
      · refine Eq.trans ?_ e8
        unfold f_Sim_text_b477
        rw [if_neg n0, pre, lq_E, r0, gd_P (hm0.1.w2 hi (s := 0) (by omega)), hm0.w3 hi (s := 0) (by omega), if_pos (by rw [z_i, iI_eq (by omega) (by omega) (by omega) (by omega)]; omega), if_pos (by rw [nI_L, iI_eq (by omega) (by omega) (by omega) (by omega)]; omega), gd_P t.1.1, bn_C e1, gd_P (m1.1.w2 hi (s := 1) (by omega)), gd_P t1.1.1, bn_I ((m1.w3 hi (s := 1) (by omega)).trans (iI_N (by omega))) e2]
        unfold f_Sim_text_b587
        rw [gd_P (m2.1.w2 hi (s := 0) (by omega)), m2.w3 hi (s := 0) (by omega), if_pos (by rw [nI_L, iI_eq (by omega) (by omega) (by omega) (by omega)]; exact c1)]
      · have eB : ((bs ++ s56) ++ dig (O i 1).toNat) ++ ([32] ++ fl (tkW n m p b (O i 5).toNat (O i 6).toNat (O i 7).toNat ++ [(44, 0, [32])])) = bs ++ fl (tkO n m p b (O i)) := by
          unfold tkO
          rw [if_neg c1, if_neg c0, dig1 w1b]
          simp only [List.append_assoc, fl, fl_app, List.append_nil, List.nil_append, tbN (c := 112) (show (O i 1).toNat < 16 by omega)]
          rfl
        rw [← eB]
        exact t8
end

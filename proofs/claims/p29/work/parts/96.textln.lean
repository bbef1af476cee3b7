/-! 96 L3: the text, line by line (written by l3/gen96.py) -/
section
variable {xA n m p b no : Nat} {O : Nat → Nat → Int} {h0 : AH} {g : GM}
theorem txG (hNm : Nm n m p b) (hs0 : Sm xA n m p b no O h0 g) (st0 : St h0) (vG : IvG n g) {h : AH} {a : Nat} {bs : List Nat} (t : Tx h0 a bs h) (hl : bs.length + 60 ≤ 2400) {i : Nat} (hi : i < n) (K : AH → Nat → Nat → Int32 → Option (AH × Nat)) :
    ∃ h', f_Sim_text_b10 K h 320 a (iI (i : Int)) = K h' 320 a (iI ((i + 1 : Nat) : Int)) ∧ Tx h0 a (bs ++ fl (tkG i (g (7 + i) 0).toNat (g (7 + i) 1).toNat (g (7 + i) 2).toNat)) h' ∧ Co 9 h h' := by
  have hN' := hNm
  unfold Nm at hN'
  have h200 : 200 ≤ hN h0 := by have := hs0.2.2.2.2.2.1; unfold tp at this; omega
  have hm0 := t.sm hNm hs0
  have v := vG i hi
  have L10 : s10.length = 8 := rfl
  have L12 : s12.length = 8 := rfl
  have L14 : s14.length = 7 := rfl
  have L16 : s16.length = 7 := rfl
  have L18 : s18.length = 2 := rfl
  have D0 := dig_len (n := i)
  have D1 := dig_len (n := (g (7 + i) 0).toNat)
  have D2 := dig_len (n := (g (7 + i) 1).toNat)
  have D3 := dig_len (n := (g (7 + i) 2).toNat)
  obtain ⟨h1, e1, t1, c1⟩ := t.s h200 (t.st h200 st0).k10 (by (try simp only [List.length_append]); omega)
  have m1 := t1.sm hNm hs0
  obtain ⟨h2, e2, t2, c2⟩ := t1.i (t1.st h200 st0).1 (n := i) (by omega) (by (try simp only [List.length_append]); omega)
  have m2 := t2.sm hNm hs0
  obtain ⟨h3, e3, t3, c3⟩ := t2.s h200 (t2.st h200 st0).k12 (by (try simp only [List.length_append]); omega)
  have m3 := t3.sm hNm hs0
  obtain ⟨h4, e4, t4, c4⟩ := t3.i (t3.st h200 st0).1 (n := (g (7 + i) 0).toNat) (by omega) (by (try simp only [List.length_append]); omega)
  have m4 := t4.sm hNm hs0
  obtain ⟨h5, e5, t5, c5⟩ := t4.s h200 (t4.st h200 st0).k14 (by (try simp only [List.length_append]); omega)
  have m5 := t5.sm hNm hs0
  obtain ⟨h6, e6, t6, c6⟩ := t5.i (t5.st h200 st0).1 (n := (g (7 + i) 1).toNat) (by omega) (by (try simp only [List.length_append]); omega)
  have m6 := t6.sm hNm hs0
  obtain ⟨h7, e7, t7, c7⟩ := t6.s h200 (t6.st h200 st0).k16 (by (try simp only [List.length_append]); omega)
  have m7 := t7.sm hNm hs0
  obtain ⟨h8, e8, t8, c8⟩ := t7.i (t7.st h200 st0).1 (n := (g (7 + i) 2).toNat) (by omega) (by (try simp only [List.length_append]); omega)
  have m8 := t8.sm hNm hs0
  obtain ⟨h9, e9, t9, c9⟩ := t8.s h200 (t8.st h200 st0).k18 (by (try simp only [List.length_append]); omega)
  have m9 := t9.sm hNm hs0
  refine ⟨h9, ?_, ?_, ((((((((c1.trans c2).trans c3).trans c4).trans c5).trans c6).trans c7).trans c8).trans c9).mono (by omega)⟩
  · unfold f_Sim_text_b10
    rw [gd_P hm0.1.t, gd_P (by rw [hm0.1.r12]; exact hm0.1.tga), if_neg (by rw [hm0.1.r12, hm0.1.lga, nI_i, iI_le (by omega) (by omega) (by omega) (by omega)]; omega), gd_P t.1.1, bn_C e1, gd_P t1.1.1, bn_I (rfl) e2, gd_P t2.1.1, bn_C e3, gd_P ((m3).1.t), gd_P ((m3).1.g1 hi (by omega)), gd_P ((m3).1.g2 hi (by omega) (s := 0) (by omega)), gd_P t3.1.1, bn_I ((m3.g3 hi (by omega) (s := 0) (by omega)).trans (iI_N (by omega))) e4, gd_P t4.1.1, bn_C e5, gd_P ((m5).1.t), gd_P ((m5).1.g1 hi (by omega)), gd_P ((m5).1.g2 hi (by omega) (s := 1) (by omega)), gd_P t5.1.1, bn_I ((m5.g3 hi (by omega) (s := 1) (by omega)).trans (iI_N (by omega))) e6, gd_P t6.1.1, bn_C e7, gd_P ((m7).1.t), gd_P ((m7).1.g1 hi (by omega)), gd_P ((m7).1.g2 hi (by omega) (s := 2) (by omega)), gd_P t7.1.1, bn_I ((m7.g3 hi (by omega) (s := 2) (by omega)).trans (iI_N (by omega))) e8, gd_P t8.1.1, bn_C e9, lq_E, nI_L, iI_add]
    rfl
  · have eB : ((((((((bs ++ s10) ++ dig i) ++ s12) ++ dig ((g (7 + i) 0).toNat)) ++ s14) ++ dig ((g (7 + i) 1).toNat)) ++ s16) ++ dig ((g (7 + i) 2).toNat)) ++ s18 = bs ++ fl (tkG i (g (7 + i) 0).toNat (g (7 + i) 1).toNat (g (7 + i) 2).toNat) := by
      simp only [List.append_assoc, dig1 (show i < 10 by omega), tkG, fl, tbN (c := 103) (show i < 16 by omega)]
      rfl
    rw [← eB]
    exact t9
theorem txR (hNm : Nm n m p b) (hs0 : Sm xA n m p b no O h0 g) (st0 : St h0) (vR : ∀ i, i < m → 1 ≤ g (11 + 5 * i) 0 ∧ g (11 + 5 * i) 0 ≤ 60) {h : AH} {a : Nat} {bs : List Nat} (t : Tx h0 a bs h) (hl : bs.length + 60 ≤ 2400) {i : Nat} (hi : i < m) (K : AH → Nat → Nat → Int32 → Option (AH × Nat)) :
    ∃ h', f_Sim_text_b91 K h 320 a (iI (i : Int)) = K h' 320 a (iI ((i + 1 : Nat) : Int)) ∧ Tx h0 a (bs ++ fl (tkR i (g (11 + 5 * i) 0).toNat)) h' ∧ Co 5 h h' := by
  have hN' := hNm
  unfold Nm at hN'
  have h200 : 200 ≤ hN h0 := by have := hs0.2.2.2.2.2.1; unfold tp at this; omega
  have hm0 := t.sm hNm hs0
  have v := vR i hi
  have L20 : s20.length = 6 := rfl
  have L22 : s22.length = 7 := rfl
  have L24 : s24.length = 1 := rfl
  have D0 := dig_len (n := i)
  have D1 := dig_len (n := (g (11 + 5 * i) 0).toNat)
  obtain ⟨h1, e1, t1, c1⟩ := t.s h200 (t.st h200 st0).k20 (by (try simp only [List.length_append]); omega)
  have m1 := t1.sm hNm hs0
  obtain ⟨h2, e2, t2, c2⟩ := t1.i (t1.st h200 st0).1 (n := i) (by omega) (by (try simp only [List.length_append]); omega)
  have m2 := t2.sm hNm hs0
  obtain ⟨h3, e3, t3, c3⟩ := t2.s h200 (t2.st h200 st0).k22 (by (try simp only [List.length_append]); omega)
  have m3 := t3.sm hNm hs0
  obtain ⟨h4, e4, t4, c4⟩ := t3.i (t3.st h200 st0).1 (n := (g (11 + 5 * i) 0).toNat) (by omega) (by (try simp only [List.length_append]); omega)
  have m4 := t4.sm hNm hs0
  obtain ⟨h5, e5, t5, c5⟩ := t4.s h200 (t4.st h200 st0).k24 (by (try simp only [List.length_append]); omega)
  have m5 := t5.sm hNm hs0
  refine ⟨h5, ?_, ?_, ((((c1.trans c2).trans c3).trans c4).trans c5).mono (by omega)⟩
  · unfold f_Sim_text_b91
    rw [gd_P hm0.1.t, gd_P (by rw [hm0.1.r14]; exact hm0.1.tra), if_neg (by rw [hm0.1.r14, hm0.1.lra, nI_i, iI_le (by omega) (by omega) (by omega) (by omega)]; omega), gd_P t.1.1, bn_C e1, gd_P t1.1.1, bn_I (rfl) e2, gd_P t2.1.1, bn_C e3, gd_P ((m3).1.t), gd_P ((m3).1.o1 hi (by omega)), gd_P t3.1.1, bn_I ((m3.o3 hi (by omega)).trans (iI_N (by omega))) e4, gd_P t4.1.1, bn_C e5, lq_E, nI_L, iI_add]
    rfl
  · have eB : ((((bs ++ s20) ++ dig i) ++ s22) ++ dig ((g (11 + 5 * i) 0).toNat)) ++ s24 = bs ++ fl (tkR i (g (11 + 5 * i) 0).toNat) := by
      simp only [List.append_assoc, dig1 (show i < 10 by omega), tkR, fl, tbN (c := 114) (show i < 16 by omega)]
      rfl
    rw [← eB]
    exact t5
theorem txP (hNm : Nm n m p b) (hs0 : Sm xA n m p b no O h0 g) (st0 : St h0) (vP : IvP n m p g) {h : AH} {a : Nat} {bs : List Nat} (t : Tx h0 a bs h) (hl : bs.length + 60 ≤ 2400) {i : Nat} (hi : i < p) (K : AH → Nat → Nat → Int32 → Option (AH × Nat)) :
    ∃ h', f_Sim_text_b138 K h 320 a (iI (i : Int)) = K h' 320 a (iI ((i + 1 : Nat) : Int)) ∧ Tx h0 a (bs ++ fl (tkP i (g (31 + i) 0).toNat (g (31 + i) 1).toNat (g (31 + i) 2).toNat)) h' ∧ Co 9 h h' := by
  have hN' := hNm
  unfold Nm at hN'
  have h200 : 200 ≤ hN h0 := by have := hs0.2.2.2.2.2.1; unfold tp at this; omega
  have hm0 := t.sm hNm hs0
  have v := vP i hi
  have L24 : s24.length = 1 := rfl
  have L26 : s26.length = 8 := rfl
  have L28 : s28.length = 5 := rfl
  have L30 : s30.length = 5 := rfl
  have L32 : s32.length = 7 := rfl
  have D0 := dig_len (n := i)
  have D1 := dig_len (n := (g (31 + i) 0).toNat)
  have D2 := dig_len (n := (g (31 + i) 1).toNat)
  have D3 := dig_len (n := (g (31 + i) 2).toNat)
  obtain ⟨h1, e1, t1, c1⟩ := t.s h200 (t.st h200 st0).k26 (by (try simp only [List.length_append]); omega)
  have m1 := t1.sm hNm hs0
  obtain ⟨h2, e2, t2, c2⟩ := t1.i (t1.st h200 st0).1 (n := i) (by omega) (by (try simp only [List.length_append]); omega)
  have m2 := t2.sm hNm hs0
  obtain ⟨h3, e3, t3, c3⟩ := t2.s h200 (t2.st h200 st0).k28 (by (try simp only [List.length_append]); omega)
  have m3 := t3.sm hNm hs0
  obtain ⟨h4, e4, t4, c4⟩ := t3.i (t3.st h200 st0).1 (n := (g (31 + i) 0).toNat) (by omega) (by (try simp only [List.length_append]); omega)
  have m4 := t4.sm hNm hs0
  obtain ⟨h5, e5, t5, c5⟩ := t4.s h200 (t4.st h200 st0).k30 (by (try simp only [List.length_append]); omega)
  have m5 := t5.sm hNm hs0
  obtain ⟨h6, e6, t6, c6⟩ := t5.i (t5.st h200 st0).1 (n := (g (31 + i) 1).toNat) (by omega) (by (try simp only [List.length_append]); omega)
  have m6 := t6.sm hNm hs0
  obtain ⟨h7, e7, t7, c7⟩ := t6.s h200 (t6.st h200 st0).k32 (by (try simp only [List.length_append]); omega)
  have m7 := t7.sm hNm hs0
  obtain ⟨h8, e8, t8, c8⟩ := t7.i (t7.st h200 st0).1 (n := (g (31 + i) 2).toNat) (by omega) (by (try simp only [List.length_append]); omega)
  have m8 := t8.sm hNm hs0
  obtain ⟨h9, e9, t9, c9⟩ := t8.s h200 (t8.st h200 st0).k24 (by (try simp only [List.length_append]); omega)
  have m9 := t9.sm hNm hs0
  refine ⟨h9, ?_, ?_, ((((((((c1.trans c2).trans c3).trans c4).trans c5).trans c6).trans c7).trans c8).trans c9).mono (by omega)⟩
  · unfold f_Sim_text_b138
    rw [gd_P hm0.1.t, gd_P (by rw [hm0.1.r15]; exact hm0.1.tpe), if_neg (by rw [hm0.1.r15, hm0.1.lpe, nI_i, iI_le (by omega) (by omega) (by omega) (by omega)]; omega), gd_P t.1.1, bn_C e1, gd_P t1.1.1, bn_I (rfl) e2, gd_P t2.1.1, bn_C e3, gd_P ((m3).1.t), gd_P ((m3).1.p1 hi (by omega)), gd_P ((m3).1.p2 hi (by omega) (s := 0) (by omega)), gd_P t3.1.1, bn_I ((m3.p3 hi (by omega) (s := 0) (by omega)).trans (iI_N (by omega))) e4, gd_P t4.1.1, bn_C e5, gd_P ((m5).1.t), gd_P ((m5).1.p1 hi (by omega)), gd_P ((m5).1.p2 hi (by omega) (s := 1) (by omega)), gd_P t5.1.1, bn_I ((m5.p3 hi (by omega) (s := 1) (by omega)).trans (iI_N (by omega))) e6, gd_P t6.1.1, bn_C e7, gd_P ((m7).1.t), gd_P ((m7).1.p1 hi (by omega)), gd_P ((m7).1.p2 hi (by omega) (s := 2) (by omega)), gd_P t7.1.1, bn_I ((m7.p3 hi (by omega) (s := 2) (by omega)).trans (iI_N (by omega))) e8, gd_P t8.1.1, bn_C e9, lq_E, nI_L, iI_add]
    rfl
  · have eB : ((((((((bs ++ s26) ++ dig i) ++ s28) ++ dig ((g (31 + i) 0).toNat)) ++ s30) ++ dig ((g (31 + i) 1).toNat)) ++ s32) ++ dig ((g (31 + i) 2).toNat)) ++ s24 = bs ++ fl (tkP i (g (31 + i) 0).toNat (g (31 + i) 1).toNat (g (31 + i) 2).toNat) := by
      simp only [List.append_assoc, dig1 (show i < 10 by omega), dig1 (show (g (31 + i) 0).toNat < 10 by omega), dig1 (show (g (31 + i) 1).toNat < 10 by omega), tkP, fl, tbN (c := 112) (show i < 16 by omega), tbN (c := 103) (show (g (31 + i) 0).toNat < 16 by omega), tbN (c := 114) (show (g (31 + i) 1).toNat < 16 by omega)]
      rfl
    rw [← eB]
    exact t9
theorem txB (hNm : Nm n m p b) (hs0 : Sm xA n m p b no O h0 g) (st0 : St h0) (vB : ∀ i, i < b → 1 ≤ g (39 + i) 0 ∧ g (39 + i) 0 ≤ 40 ∧ 1 ≤ g (39 + i) 1 ∧ g (39 + i) 1 ≤ 9) {h : AH} {a : Nat} {bs : List Nat} (t : Tx h0 a bs h) (hl : bs.length + 60 ≤ 2400) {i : Nat} (hi : i < b) (K : AH → Nat → Nat → Int32 → Option (AH × Nat)) :
    ∃ h', f_Sim_text_b219 K h 320 a (iI (i : Int)) = K h' 320 a (iI ((i + 1 : Nat) : Int)) ∧ Tx h0 a (bs ++ fl (tkB i (g (39 + i) 0).toNat (g (39 + i) 1).toNat)) h' ∧ Co 7 h h' := by
  have hN' := hNm
  unfold Nm at hN'
  have h200 : 200 ≤ hN h0 := by have := hs0.2.2.2.2.2.1; unfold tp at this; omega
  have hm0 := t.sm hNm hs0
  have v := vB i hi
  have L22 : s22.length = 7 := rfl
  have L24 : s24.length = 1 := rfl
  have L34 : s34.length = 6 := rfl
  have L36 : s36.length = 7 := rfl
  have D0 := dig_len (n := i)
  have D1 := dig_len (n := (g (39 + i) 0).toNat)
  have D2 := dig_len (n := (g (39 + i) 1).toNat)
  obtain ⟨h1, e1, t1, c1⟩ := t.s h200 (t.st h200 st0).k34 (by (try simp only [List.length_append]); omega)
  have m1 := t1.sm hNm hs0
  obtain ⟨h2, e2, t2, c2⟩ := t1.i (t1.st h200 st0).1 (n := i) (by omega) (by (try simp only [List.length_append]); omega)
  have m2 := t2.sm hNm hs0
  obtain ⟨h3, e3, t3, c3⟩ := t2.s h200 (t2.st h200 st0).k22 (by (try simp only [List.length_append]); omega)
  have m3 := t3.sm hNm hs0
  obtain ⟨h4, e4, t4, c4⟩ := t3.i (t3.st h200 st0).1 (n := (g (39 + i) 0).toNat) (by omega) (by (try simp only [List.length_append]); omega)
  have m4 := t4.sm hNm hs0
  obtain ⟨h5, e5, t5, c5⟩ := t4.s h200 (t4.st h200 st0).k36 (by (try simp only [List.length_append]); omega)
  have m5 := t5.sm hNm hs0
  obtain ⟨h6, e6, t6, c6⟩ := t5.i (t5.st h200 st0).1 (n := (g (39 + i) 1).toNat) (by omega) (by (try simp only [List.length_append]); omega)
  have m6 := t6.sm hNm hs0
  obtain ⟨h7, e7, t7, c7⟩ := t6.s h200 (t6.st h200 st0).k24 (by (try simp only [List.length_append]); omega)
  have m7 := t7.sm hNm hs0
  refine ⟨h7, ?_, ?_, ((((((c1.trans c2).trans c3).trans c4).trans c5).trans c6).trans c7).mono (by omega)⟩
  · unfold f_Sim_text_b219
    rw [gd_P hm0.1.t, gd_P (by rw [hm0.1.r16]; exact hm0.1.tbo), if_neg (by rw [hm0.1.r16, hm0.1.lbo, nI_i, iI_le (by omega) (by omega) (by omega) (by omega)]; omega), gd_P t.1.1, bn_C e1, gd_P t1.1.1, bn_I (rfl) e2, gd_P t2.1.1, bn_C e3, gd_P ((m3).1.t), gd_P ((m3).1.b1 hi (by omega)), gd_P ((m3).1.b2 hi (by omega) (s := 0) (by omega)), gd_P t3.1.1, bn_I ((m3.b3 hi (by omega) (s := 0) (by omega) (by omega)).trans (iI_N (by omega))) e4, gd_P t4.1.1, bn_C e5, gd_P ((m5).1.t), gd_P ((m5).1.b1 hi (by omega)), gd_P ((m5).1.b2 hi (by omega) (s := 1) (by omega)), gd_P t5.1.1, bn_I ((m5.b3 hi (by omega) (s := 1) (by omega) (by omega)).trans (iI_N (by omega))) e6, gd_P t6.1.1, bn_C e7, lq_E, nI_L, iI_add]
    rfl
  · have eB : ((((((bs ++ s34) ++ dig i) ++ s22) ++ dig ((g (39 + i) 0).toNat)) ++ s36) ++ dig ((g (39 + i) 1).toNat)) ++ s24 = bs ++ fl (tkB i (g (39 + i) 0).toNat (g (39 + i) 1).toNat) := by
      simp only [List.append_assoc, dig1 (show i < 10 by omega), tkB, fl, tbN (c := 98) (show i < 16 by omega)]
      rfl
    rw [← eB]
    exact t7
theorem txV (hNm : Nm n m p b) (hs0 : Sm xA n m p b no O h0 g) (st0 : St h0) (v : 1 ≤ g 0 13 ∧ g 0 13 ≤ 60 ∧ 0 ≤ g 0 14 ∧ g 0 14 ≤ 5) {h : AH} {a : Nat} {bs : List Nat} (t : Tx h0 a bs h) (hl : bs.length + 60 ≤ 2400)  :
    ∃ h', f_Sim_text_b299 h 320 a = f_Sim_text_b330 h' 320 a ∧ Tx h0 a (bs ++ fl (tkV (g 0 13).toNat (g 0 14).toNat)) h' ∧ Co 5 h h' := by
  have hN' := hNm
  unfold Nm at hN'
  have h200 : 200 ≤ hN h0 := by have := hs0.2.2.2.2.2.1; unfold tp at this; omega
  have hm0 := t.sm hNm hs0
  have L24 : s24.length = 1 := rfl
  have L38 : s38.length = 24 := rfl
  have L40 : s40.length = 9 := rfl
  have D0 := dig_len (n := (g 0 13).toNat)
  have D1 := dig_len (n := (g 0 14).toNat)
  obtain ⟨h1, e1, t1, c1⟩ := t.s h200 (t.st h200 st0).k38 (by (try simp only [List.length_append]); omega)
  have m1 := t1.sm hNm hs0
  obtain ⟨h2, e2, t2, c2⟩ := t1.i (t1.st h200 st0).1 (n := (g 0 13).toNat) (by omega) (by (try simp only [List.length_append]); omega)
  have m2 := t2.sm hNm hs0
  obtain ⟨h3, e3, t3, c3⟩ := t2.s h200 (t2.st h200 st0).k40 (by (try simp only [List.length_append]); omega)
  have m3 := t3.sm hNm hs0
  obtain ⟨h4, e4, t4, c4⟩ := t3.i (t3.st h200 st0).1 (n := (g 0 14).toNat) (by omega) (by (try simp only [List.length_append]); omega)
  have m4 := t4.sm hNm hs0
  obtain ⟨h5, e5, t5, c5⟩ := t4.s h200 (t4.st h200 st0).k24 (by (try simp only [List.length_append]); omega)
  have m5 := t5.sm hNm hs0
  refine ⟨h5, ?_, ?_, ((((c1.trans c2).trans c3).trans c4).trans c5).mono (by omega)⟩
  · unfold f_Sim_text_b299
    rw [gd_P t.1.1, bn_C e1, gd_P ((m1).1.t), gd_P t1.1.1, bn_I ((m1.miles).trans (iI_N (by omega))) e2, gd_P t2.1.1, bn_C e3, gd_P ((m3).1.t), gd_P t3.1.1, bn_I ((m3.current).trans (iI_N (by omega))) e4, gd_P t4.1.1, bn_C e5]
  · have eB : ((((bs ++ s38) ++ dig ((g 0 13).toNat)) ++ s40) ++ dig ((g 0 14).toNat)) ++ s24 = bs ++ fl (tkV (g 0 13).toNat (g 0 14).toNat) := by
      simp only [List.append_assoc, tkV, fl]
      rfl
    rw [← eB]
    exact t5
theorem txH (hNm : Nm n m p b) (hs0 : Sm xA n m p b no O h0 g) (st0 : St h0) (vH : IvH g) {h : AH} {a : Nat} {bs : List Nat} (t : Tx h0 a bs h) (hl : bs.length + 60 ≤ 2400) {i : Nat} (hi : i < 12) (ne : ¬ g 6 i = 1) (K : AH → Nat → Nat → Int32 → Option (AH × Nat)) :
    ∃ h', f_Sim_text_b332 K h 320 a (iI (i : Int)) = K h' 320 a (iI ((i + 1 : Nat) : Int)) ∧ Tx h0 a (bs ++ fl (tkH i (g 6 i).toNat)) h' ∧ Co 5 h h' := by
  have hN' := hNm
  unfold Nm at hN'
  have h200 : 200 ≤ hN h0 := by have := hs0.2.2.2.2.2.1; unfold tp at this; omega
  have hm0 := t.sm hNm hs0
  have v := vH i hi
  have L24 : s24.length = 1 := rfl
  have L42 : s42.length = 6 := rfl
  have L44 : s44.length = 4 := rfl
  have D0 := dig_len (n := i)
  have D1 := dig_len (n := (g 6 i).toNat)
  obtain ⟨h1, e1, t1, c1⟩ := t.s h200 (t.st h200 st0).k42 (by (try simp only [List.length_append]); omega)
  have m1 := t1.sm hNm hs0
  obtain ⟨h2, e2, t2, c2⟩ := t1.i (t1.st h200 st0).1 (n := i) (by omega) (by (try simp only [List.length_append]); omega)
  have m2 := t2.sm hNm hs0
  obtain ⟨h3, e3, t3, c3⟩ := t2.s h200 (t2.st h200 st0).k44 (by (try simp only [List.length_append]); omega)
  have m3 := t3.sm hNm hs0
  obtain ⟨h4, e4, t4, c4⟩ := t3.i (t3.st h200 st0).1 (n := (g 6 i).toNat) (by omega) (by (try simp only [List.length_append]); omega)
  have m4 := t4.sm hNm hs0
  obtain ⟨h5, e5, t5, c5⟩ := t4.s h200 (t4.st h200 st0).k24 (by (try simp only [List.length_append]); omega)
  have m5 := t5.sm hNm hs0
  refine ⟨h5, ?_, ?_, ((((c1.trans c2).trans c3).trans c4).trans c5).mono (by omega)⟩
  · unfold f_Sim_text_b332
    rw [if_neg (by rw [nI_L, iI_le (by omega) (by omega) (by omega) (by omega)]; omega), gd_P hm0.1.t, gd_P (hm0.1.h1 hi), if_neg (by rw [hm0.h3 hi, nI_L, iI_eq (by omega) (by omega) (by omega) (by omega)]; exact ne), gd_P t.1.1, bn_C e1, gd_P t1.1.1, bn_I (rfl) e2, gd_P t2.1.1, bn_C e3, gd_P ((m3).1.t), gd_P ((m3).1.h1 hi), gd_P t3.1.1, bn_I ((m3.h3 hi).trans (iI_N (by omega))) e4, gd_P t4.1.1, bn_C e5]
    unfold f_Sim_text_b379
    rw [lq_E, nI_L, iI_add]
    rfl
  · have eB : ((((bs ++ s42) ++ dig i) ++ s44) ++ dig ((g 6 i).toNat)) ++ s24 = bs ++ fl (tkH i (g 6 i).toNat) := by
      simp only [List.append_assoc, tkH, fl]
      rfl
    rw [← eB]
    exact t5
end

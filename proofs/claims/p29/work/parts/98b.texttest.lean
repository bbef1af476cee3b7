/-! 98b L3: tests in words (written by l3/gen98b.py) -/
def simTest3 (h : AH) (a1 r19 r34 : Nat) (x2 x4 : Int32) : Option (AH × Nat) :=
  gd (hT h a1 = 101 ∧ inb (nI 5) (hL h a1)) <|
  lq (hI h a1 (ix (nI 5))) fun x36 =>
  if x36 = nI 0 then
    lq (hA h 14 4) fun h38 =>
    gd (hT h38 (hN h) = 14) <|
    bv (f_SB_init h38 (hN h)) fun h40 =>
    gd (hT h40 (hN h) = 14) <|
    bn (f_SB_append_s h40 (hN h) 80) fun h42 r43 =>
    gd (hT h42 r43 = 14) <|
    bn (f_SB_append_I h42 r43 (x4 - x4 / (nI 12) * (nI 12))) fun h45 r46 =>
    gd (hT h45 r46 = 14) <|
    bn (f_SB_toString h45 r46) fun h48 r49 =>
    some (h48, r49)
  else
  if x36 = nI 1 then
    lq (hA h 14 4) fun h51 =>
    gd (hT h51 (hN h) = 14) <|
    bv (f_SB_init h51 (hN h)) fun h53 =>
    gd (hT h53 (hN h) = 14) <|
    bn (f_SB_append_s h53 (hN h) 82) fun h55 r56 =>
    gd (hT h55 r56 = 14) <|
    bn (f_SB_append_s h55 r56 r19) fun h58 r59 =>
    gd (hT h58 r59 = 14) <|
    bn (f_SB_append_s h58 r59 84) fun h61 r62 =>
    gd (hT h61 r62 = 14) <|
    bn (f_SB_append_I h61 r62 (x4 - x4 / (nI 21) * (nI 21))) fun h64 r65 =>
    gd (hT h64 r65 = 14) <|
    bn (f_SB_toString h64 r65) fun h67 r68 =>
    some (h67, r68)
  else
  if x36 = nI 2 then
    lq (hA h 14 4) fun h70 =>
    gd (hT h70 (hN h) = 14) <|
    bv (f_SB_init h70 (hN h)) fun h72 =>
    gd (hT h72 (hN h) = 14) <|
    bn (f_SB_append_s h72 (hN h) 86) fun h74 r75 =>
    gd (hT h74 r75 = 14) <|
    bn (f_SB_append_s h74 r75 r19) fun h77 r78 =>
    gd (hT h77 r78 = 14) <|
    bn (f_SB_toString h77 r78) fun h80 r81 =>
    some (h80, r81)
  else
  if x36 = nI 3 then
    lq (hA h 14 4) fun h83 =>
    gd (hT h83 (hN h) = 14) <|
    bv (f_SB_init h83 (hN h)) fun h85 =>
    gd (hT h85 (hN h) = 14) <|
    bn (f_SB_append_s h85 (hN h) 88) fun h87 r88 =>
    gd (hT h87 r88 = 14) <|
    bn (f_SB_append_s h87 r88 r34) fun h90 r91 =>
    gd (hT h90 r91 = 14) <|
    bn (f_SB_toString h90 r91) fun h93 r94 =>
    some (h93, r94)
  else
  if x36 = nI 4 then
    lq (hA h 14 4) fun h96 =>
    gd (hT h96 (hN h) = 14) <|
    bv (f_SB_init h96 (hN h)) fun h98 =>
    gd (hT h98 (hN h) = 14) <|
    bn (f_SB_append_s h98 (hN h) 90) fun h100 r101 =>
    gd (hT h100 r101 = 14) <|
    bn (f_SB_append_I h100 r101 x4) fun h103 r104 =>
    gd (hT h103 r104 = 14) <|
    bn (f_SB_toString h103 r104) fun h106 r107 =>
    some (h106, r107)
  else
  if x36 = nI 5 then
    lq (hA h 14 4) fun h109 =>
    gd (hT h109 (hN h) = 14) <|
    bv (f_SB_init h109 (hN h)) fun h111 =>
    gd (hT h111 (hN h) = 14) <|
    bn (f_SB_append_s h111 (hN h) 92) fun h113 r114 =>
    gd (hT h113 320 = 13) <|
    gd (hT h113 (hR h113 320 14) = 110) <|
    gd (¬ (nI (hL h113 (hR h113 320 14))) = 0) <|
    gd (hT h113 r114 = 14) <|
    bn (f_SB_append_I h113 r114 (x2 - x2 / (nI (hL h113 (hR h113 320 14))) * (nI (hL h113 (hR h113 320 14))))) fun h119 r120 =>
    gd (hT h119 r120 = 14) <|
    bn (f_SB_append_s h119 r120 94) fun h122 r123 =>
    gd (hT h122 r123 = 14) <|
    bn (f_SB_append_I h122 r123 (x4 - x4 / (nI 30) * (nI 30))) fun h125 r126 =>
    gd (hT h125 r126 = 14) <|
    bn (f_SB_append_s h125 r126 96) fun h128 r129 =>
    gd (hT h128 2 = 111 ∧ inb (x2 - x2 / (nI 4) * (nI 4)) (hL h128 2)) <|
    gd (hT h128 r129 = 14) <|
    bn (f_SB_append_s h128 r129 (hR h128 2 (ix (x2 - x2 / (nI 4) * (nI 4))))) fun h132 r133 =>
    gd (hT h132 r133 = 14) <|
    bn (f_SB_append_s h132 r133 98) fun h135 r136 =>
    gd (hT h135 r136 = 14) <|
    bn (f_SB_append_I h135 r136 (x4 - x4 / (nI 9) * (nI 9))) fun h138 r139 =>
    gd (hT h138 r139 = 14) <|
    bn (f_SB_toString h138 r139) fun h141 r142 =>
    some (h141, r142)
  else
  if x36 = nI 6 then
    lq (hA h 14 4) fun h144 =>
    gd (hT h144 (hN h) = 14) <|
    bv (f_SB_init h144 (hN h)) fun h146 =>
    gd (hT h146 (hN h) = 14) <|
    bn (f_SB_append_s h146 (hN h) 100) fun h148 r149 =>
    gd (hT h148 320 = 13) <|
    gd (hT h148 (hR h148 320 12) = 109) <|
    gd (¬ (nI (hL h148 (hR h148 320 12))) = 0) <|
    gd (hT h148 r149 = 14) <|
    bn (f_SB_append_I h148 r149 (x2 - x2 / (nI (hL h148 (hR h148 320 12))) * (nI (hL h148 (hR h148 320 12))))) fun h154 r155 =>
    gd (hT h154 r155 = 14) <|
    bn (f_SB_append_s h154 r155 98) fun h157 r158 =>
    gd (hT h157 r158 = 14) <|
    bn (f_SB_append_I h157 r158 (x4 - x4 / (nI 60) * (nI 60))) fun h160 r161 =>
    gd (hT h160 r161 = 14) <|
    bn (f_SB_append_s h160 r161 102) fun h163 r164 =>
    gd (hT h163 2 = 111 ∧ inb (x2 - x2 / (nI 4) * (nI 4)) (hL h163 2)) <|
    gd (hT h163 r164 = 14) <|
    bn (f_SB_append_s h163 r164 (hR h163 2 (ix (x2 - x2 / (nI 4) * (nI 4))))) fun h167 r168 =>
    gd (hT h167 r168 = 14) <|
    bn (f_SB_append_s h167 r168 104) fun h170 r171 =>
    gd (hT h170 r171 = 14) <|
    bn (f_SB_toString h170 r171) fun h173 r174 =>
    some (h173, r174)
  else
  if x36 = nI 7 then
    lq (hA h 14 4) fun h176 =>
    gd (hT h176 (hN h) = 14) <|
    bv (f_SB_init h176 (hN h)) fun h178 =>
    gd (hT h178 (hN h) = 14) <|
    bn (f_SB_append_s h178 (hN h) 106) fun h180 r181 =>
    gd (hT h180 r181 = 14) <|
    bn (f_SB_append_s h180 r181 r34) fun h183 r184 =>
    gd (hT h183 r184 = 14) <|
    bn (f_SB_append_s h183 r184 108) fun h186 r187 =>
    gd (hT h186 r187 = 14) <|
    bn (f_SB_append_I h186 r187 (x4 - x4 / (nI 20) * (nI 20))) fun h189 r190 =>
    gd (hT h189 r190 = 14) <|
    bn (f_SB_toString h189 r190) fun h192 r193 =>
    some (h192, r193)
  else
  some (h, 110)
section
variable {xA n m p b no : Nat} {O : Nat → Nat → Int} {g : GM}
theorem test0 (hNm : Nm n m p b) {h : AH} (hs0 : Sm xA n m p b no O h g) (st0 : St h) {i : Nat} (hi : i < no) (hW : Wk n m p b (O i)) (hw5 : O i 5 = 0) {r19 r34 : Nat} (hp : Str h r19 (s76 ++ dig ((O i 6).toNat % p)) ∧ r19 < hN h ∧ hR h r19 0 < hN h) (hq : Str h r34 (s78 ++ dig ((O i 6).toNat % b)) ∧ r34 < hN h ∧ hR h r34 0 < hN h) :
    ∃ h' s, simTest3 h (338 + n + m + p + b + i) r19 r34 (iI (O i 6)) (iI (O i 7)) = some (h', s) ∧ Sr h h' s (fl [(27, 0, [32]), (54, 0, [32]), (56, (O i 7).toNat % 12, [])]) 14 := by
  have hN' := hNm
  unfold Nm at hN'
  have hw := hW
  unfold Wk at hw
  have h200 : 200 ≤ hN h := by have := hs0.2.2.2.2.2.1; unfold tp at this; omega
  have Z6 : 0 ≤ O i 6 := by omega
  have Up : (O i 6).toNat % p < p := Nat.mod_lt _ (by omega)
  have Ub : (O i 6).toNat % b < b := Nat.mod_lt _ (by omega)
  have Um : (O i 6).toNat % m < m := Nat.mod_lt _ (by omega)
  have Un : (O i 6).toNat % n < n := Nat.mod_lt _ (by omega)
  have U4 : (O i 6).toNat % 4 < 4 := Nat.mod_lt _ (by omega)
  have gl := gS_len ((O i 6).toNat % 4)
  have Lp : s76.length = 2 := rfl
  have Dp := dig_len (n := (O i 6).toNat % p)
  have Lb : s78.length = 2 := rfl
  have Db := dig_len (n := (O i 6).toNat % b)
  have L80 : s80.length = 8 := rfl
  have D0 := dig_len (n := (O i 7).toNat % 12)
  obtain ⟨hb, eb, tb0, t, c0⟩ := Tx.new (h := h) h200
  have hm0 := t.sm hNm hs0
  obtain ⟨h1, e1, t1, c1⟩ := t.s h200 (t.st h200 st0).k80 (by (try simp only [List.length_append, List.length_nil]); omega)
  have m1 := t1.sm hNm hs0
  obtain ⟨h2, e2, t2, c2⟩ := t1.i (t1.st h200 st0).1 (n := (O i 7).toNat % 12) (by omega) (by (try simp only [List.length_append, List.length_nil]); omega)
  have m2 := t2.sm hNm hs0
  obtain ⟨hf, ef, sf⟩ := t2.fin ((c0.trans c1).trans c2)
  refine ⟨hf, hN h2, ?_, ?_⟩
  · unfold simTest3
    rw [gd_P (hs0.1.w2 hi (s := 5) (by omega)), hs0.w3 hi (s := 5) (by omega), hw5, show iI 0 = nI 0 from (nI_i 0).symm, lq_E, if_pos rfl, lq_E, gd_P tb0, eb, bv_S, gd_P t.1.1, bn_C e1, gd_P t1.1.1, bn_I (modI (c := 12) (by omega) (by omega) (by omega) (by omega)) e2, gd_P t2.1.1, bn_C ef]
  · have eB : (([] : List Nat) ++ s80) ++ dig ((O i 7).toNat % 12) = fl [(27, 0, [32]), (54, 0, [32]), (56, (O i 7).toNat % 12, [])] := by
      simp only [List.append_assoc, List.nil_append, fl, List.append_nil, tbG U4, dig1 (show (O i 6).toNat % p < 10 by omega), dig1 (show (O i 6).toNat % b < 10 by omega), dig1 (show (O i 6).toNat % m < 10 by omega), dig1 (show (O i 6).toNat % n < 10 by omega), tbN (c := 112) (show (O i 6).toNat % p < 16 by omega), tbN (c := 98) (show (O i 6).toNat % b < 16 by omega), tbN (c := 114) (show (O i 6).toNat % m < 16 by omega), tbN (c := 103) (show (O i 6).toNat % n < 16 by omega)]
      all_goals rfl
    rw [← eB]
    exact ⟨sf.1, sf.2.1, sf.2.2.1, sf.2.2.2.1, sf.2.2.2.2.mono (by omega)⟩
theorem test1 (hNm : Nm n m p b) {h : AH} (hs0 : Sm xA n m p b no O h g) (st0 : St h) {i : Nat} (hi : i < no) (hW : Wk n m p b (O i)) (hw5 : O i 5 = 1) {r19 r34 : Nat} (hp : Str h r19 (s76 ++ dig ((O i 6).toNat % p)) ∧ r19 < hN h ∧ hR h r19 0 < hN h) (hq : Str h r34 (s78 ++ dig ((O i 6).toNat % b)) ∧ r34 < hN h ∧ hR h r34 0 < hN h) :
    ∃ h' s, simTest3 h (338 + n + m + p + b + i) r19 r34 (iI (O i 6)) (iI (O i 7)) = some (h', s) ∧ Sr h h' s (fl [(29, 0, [32]), (55, 112 * 16 + (O i 6).toNat % p, []), (50, 0, []), (56, (O i 7).toNat % 21, [])]) 14 := by
  have hN' := hNm
  unfold Nm at hN'
  have hw := hW
  unfold Wk at hw
  have h200 : 200 ≤ hN h := by have := hs0.2.2.2.2.2.1; unfold tp at this; omega
  have Z6 : 0 ≤ O i 6 := by omega
  have Up : (O i 6).toNat % p < p := Nat.mod_lt _ (by omega)
  have Ub : (O i 6).toNat % b < b := Nat.mod_lt _ (by omega)
  have Um : (O i 6).toNat % m < m := Nat.mod_lt _ (by omega)
  have Un : (O i 6).toNat % n < n := Nat.mod_lt _ (by omega)
  have U4 : (O i 6).toNat % 4 < 4 := Nat.mod_lt _ (by omega)
  have gl := gS_len ((O i 6).toNat % 4)
  have Lp : s76.length = 2 := rfl
  have Dp := dig_len (n := (O i 6).toNat % p)
  have Lb : s78.length = 2 := rfl
  have Db := dig_len (n := (O i 6).toNat % b)
  have L82 : s82.length = 4 := rfl
  have L84 : s84.length = 1 := rfl
  have D0 := dig_len (n := (O i 7).toNat % 21)
  obtain ⟨hb, eb, tb0, t, c0⟩ := Tx.new (h := h) h200
  have hm0 := t.sm hNm hs0
  obtain ⟨h1, e1, t1, c1⟩ := t.s h200 (t.st h200 st0).k82 (by (try simp only [List.length_append, List.length_nil]); omega)
  have m1 := t1.sm hNm hs0
  have x2 := t1.2.2.2 r19 hp.2.1
  have y2 := t1.2.2.2 (hR h r19 0) hp.2.2
  have z2 : hR h1 r19 0 = hR h r19 0 := congrFun x2.2.2.2 0
  obtain ⟨h2, e2, t2, c2⟩ := t1.d (hp.1.ext x2 y2) (by have := t1.2.2.1; have := hp.2.1; omega) (by rw [z2]; have := t1.2.2.1; have := hp.2.2; omega) (by rw [z2]; have := t1.1.2.2.2.1; have := t1.2.1; have := hp.2.2; omega) (by (try simp only [List.length_append, List.length_nil]); omega)
  have m2 := t2.sm hNm hs0
  obtain ⟨h3, e3, t3, c3⟩ := t2.s h200 (t2.st h200 st0).k84 (by (try simp only [List.length_append, List.length_nil]); omega)
  have m3 := t3.sm hNm hs0
  obtain ⟨h4, e4, t4, c4⟩ := t3.i (t3.st h200 st0).1 (n := (O i 7).toNat % 21) (by omega) (by (try simp only [List.length_append, List.length_nil]); omega)
  have m4 := t4.sm hNm hs0
  obtain ⟨hf, ef, sf⟩ := t4.fin ((((c0.trans c1).trans c2).trans c3).trans c4)
  refine ⟨hf, hN h4, ?_, ?_⟩
  · unfold simTest3
    rw [gd_P (hs0.1.w2 hi (s := 5) (by omega)), hs0.w3 hi (s := 5) (by omega), hw5, show iI 1 = nI 1 from (nI_i 1).symm, lq_E, if_neg (nI_ne (a := 1) (b := 0) (by omega) (by omega) (by omega)), if_pos rfl, lq_E, gd_P tb0, eb, bv_S, gd_P t.1.1, bn_C e1, gd_P t1.1.1, bn_C e2, gd_P t2.1.1, bn_C e3, gd_P t3.1.1, bn_I (modI (c := 21) (by omega) (by omega) (by omega) (by omega)) e4, gd_P t4.1.1, bn_C ef]
  · have eB : (((([] : List Nat) ++ s82) ++ (s76 ++ dig ((O i 6).toNat % p))) ++ s84) ++ dig ((O i 7).toNat % 21) = fl [(29, 0, [32]), (55, 112 * 16 + (O i 6).toNat % p, []), (50, 0, []), (56, (O i 7).toNat % 21, [])] := by
      simp only [List.append_assoc, List.nil_append, fl, List.append_nil, tbG U4, dig1 (show (O i 6).toNat % p < 10 by omega), dig1 (show (O i 6).toNat % b < 10 by omega), dig1 (show (O i 6).toNat % m < 10 by omega), dig1 (show (O i 6).toNat % n < 10 by omega), tbN (c := 112) (show (O i 6).toNat % p < 16 by omega), tbN (c := 98) (show (O i 6).toNat % b < 16 by omega), tbN (c := 114) (show (O i 6).toNat % m < 16 by omega), tbN (c := 103) (show (O i 6).toNat % n < 16 by omega)]
      all_goals rfl
    rw [← eB]
    exact ⟨sf.1, sf.2.1, sf.2.2.1, sf.2.2.2.1, sf.2.2.2.2.mono (by omega)⟩
theorem test2 (hNm : Nm n m p b) {h : AH} (hs0 : Sm xA n m p b no O h g) (st0 : St h) {i : Nat} (hi : i < no) (hW : Wk n m p b (O i)) (hw5 : O i 5 = 2) {r19 r34 : Nat} (hp : Str h r19 (s76 ++ dig ((O i 6).toNat % p)) ∧ r19 < hN h ∧ hR h r19 0 < hN h) (hq : Str h r34 (s78 ++ dig ((O i 6).toNat % b)) ∧ r34 < hN h ∧ hR h r34 0 < hN h) :
    ∃ h' s, simTest3 h (338 + n + m + p + b + i) r19 r34 (iI (O i 6)) (iI (O i 7)) = some (h', s) ∧ Sr h h' s (fl [(34, 0, [32]), (55, 112 * 16 + (O i 6).toNat % p, [])]) 14 := by
  have hN' := hNm
  unfold Nm at hN'
  have hw := hW
  unfold Wk at hw
  have h200 : 200 ≤ hN h := by have := hs0.2.2.2.2.2.1; unfold tp at this; omega
  have Z6 : 0 ≤ O i 6 := by omega
  have Up : (O i 6).toNat % p < p := Nat.mod_lt _ (by omega)
  have Ub : (O i 6).toNat % b < b := Nat.mod_lt _ (by omega)
  have Um : (O i 6).toNat % m < m := Nat.mod_lt _ (by omega)
  have Un : (O i 6).toNat % n < n := Nat.mod_lt _ (by omega)
  have U4 : (O i 6).toNat % 4 < 4 := Nat.mod_lt _ (by omega)
  have gl := gS_len ((O i 6).toNat % 4)
  have Lp : s76.length = 2 := rfl
  have Dp := dig_len (n := (O i 6).toNat % p)
  have Lb : s78.length = 2 := rfl
  have Db := dig_len (n := (O i 6).toNat % b)
  have L86 : s86.length = 5 := rfl
  obtain ⟨hb, eb, tb0, t, c0⟩ := Tx.new (h := h) h200
  have hm0 := t.sm hNm hs0
  obtain ⟨h1, e1, t1, c1⟩ := t.s h200 (t.st h200 st0).k86 (by (try simp only [List.length_append, List.length_nil]); omega)
  have m1 := t1.sm hNm hs0
  have x2 := t1.2.2.2 r19 hp.2.1
  have y2 := t1.2.2.2 (hR h r19 0) hp.2.2
  have z2 : hR h1 r19 0 = hR h r19 0 := congrFun x2.2.2.2 0
  obtain ⟨h2, e2, t2, c2⟩ := t1.d (hp.1.ext x2 y2) (by have := t1.2.2.1; have := hp.2.1; omega) (by rw [z2]; have := t1.2.2.1; have := hp.2.2; omega) (by rw [z2]; have := t1.1.2.2.2.1; have := t1.2.1; have := hp.2.2; omega) (by (try simp only [List.length_append, List.length_nil]); omega)
  have m2 := t2.sm hNm hs0
  obtain ⟨hf, ef, sf⟩ := t2.fin ((c0.trans c1).trans c2)
  refine ⟨hf, hN h2, ?_, ?_⟩
  · unfold simTest3
    rw [gd_P (hs0.1.w2 hi (s := 5) (by omega)), hs0.w3 hi (s := 5) (by omega), hw5, show iI 2 = nI 2 from (nI_i 2).symm, lq_E, if_neg (nI_ne (a := 2) (b := 0) (by omega) (by omega) (by omega)), if_neg (nI_ne (a := 2) (b := 1) (by omega) (by omega) (by omega)), if_pos rfl, lq_E, gd_P tb0, eb, bv_S, gd_P t.1.1, bn_C e1, gd_P t1.1.1, bn_C e2, gd_P t2.1.1, bn_C ef]
  · have eB : (([] : List Nat) ++ s86) ++ (s76 ++ dig ((O i 6).toNat % p)) = fl [(34, 0, [32]), (55, 112 * 16 + (O i 6).toNat % p, [])] := by
      simp only [List.append_assoc, List.nil_append, fl, List.append_nil, tbG U4, dig1 (show (O i 6).toNat % p < 10 by omega), dig1 (show (O i 6).toNat % b < 10 by omega), dig1 (show (O i 6).toNat % m < 10 by omega), dig1 (show (O i 6).toNat % n < 10 by omega), tbN (c := 112) (show (O i 6).toNat % p < 16 by omega), tbN (c := 98) (show (O i 6).toNat % b < 16 by omega), tbN (c := 114) (show (O i 6).toNat % m < 16 by omega), tbN (c := 103) (show (O i 6).toNat % n < 16 by omega)]
      all_goals rfl
    rw [← eB]
    exact ⟨sf.1, sf.2.1, sf.2.2.1, sf.2.2.2.1, sf.2.2.2.2.mono (by omega)⟩
theorem test3 (hNm : Nm n m p b) {h : AH} (hs0 : Sm xA n m p b no O h g) (st0 : St h) {i : Nat} (hi : i < no) (hW : Wk n m p b (O i)) (hw5 : O i 5 = 3) {r19 r34 : Nat} (hp : Str h r19 (s76 ++ dig ((O i 6).toNat % p)) ∧ r19 < hN h ∧ hR h r19 0 < hN h) (hq : Str h r34 (s78 ++ dig ((O i 6).toNat % b)) ∧ r34 < hN h ∧ hR h r34 0 < hN h) :
    ∃ h' s, simTest3 h (338 + n + m + p + b + i) r19 r34 (iI (O i 6)) (iI (O i 7)) = some (h', s) ∧ Sr h h' s (fl [(35, 0, [32]), (33, 0, [32]), (55, 98 * 16 + (O i 6).toNat % b, [])]) 14 := by
  have hN' := hNm
  unfold Nm at hN'
  have hw := hW
  unfold Wk at hw
  have h200 : 200 ≤ hN h := by have := hs0.2.2.2.2.2.1; unfold tp at this; omega
  have Z6 : 0 ≤ O i 6 := by omega
  have Up : (O i 6).toNat % p < p := Nat.mod_lt _ (by omega)
  have Ub : (O i 6).toNat % b < b := Nat.mod_lt _ (by omega)
  have Um : (O i 6).toNat % m < m := Nat.mod_lt _ (by omega)
  have Un : (O i 6).toNat % n < n := Nat.mod_lt _ (by omega)
  have U4 : (O i 6).toNat % 4 < 4 := Nat.mod_lt _ (by omega)
  have gl := gS_len ((O i 6).toNat % 4)
  have Lp : s76.length = 2 := rfl
  have Dp := dig_len (n := (O i 6).toNat % p)
  have Lb : s78.length = 2 := rfl
  have Db := dig_len (n := (O i 6).toNat % b)
  have L88 : s88.length = 10 := rfl
  obtain ⟨hb, eb, tb0, t, c0⟩ := Tx.new (h := h) h200
  have hm0 := t.sm hNm hs0
  obtain ⟨h1, e1, t1, c1⟩ := t.s h200 (t.st h200 st0).k88 (by (try simp only [List.length_append, List.length_nil]); omega)
  have m1 := t1.sm hNm hs0
  have x2 := t1.2.2.2 r34 hq.2.1
  have y2 := t1.2.2.2 (hR h r34 0) hq.2.2
  have z2 : hR h1 r34 0 = hR h r34 0 := congrFun x2.2.2.2 0
  obtain ⟨h2, e2, t2, c2⟩ := t1.d (hq.1.ext x2 y2) (by have := t1.2.2.1; have := hq.2.1; omega) (by rw [z2]; have := t1.2.2.1; have := hq.2.2; omega) (by rw [z2]; have := t1.1.2.2.2.1; have := t1.2.1; have := hq.2.2; omega) (by (try simp only [List.length_append, List.length_nil]); omega)
  have m2 := t2.sm hNm hs0
  obtain ⟨hf, ef, sf⟩ := t2.fin ((c0.trans c1).trans c2)
  refine ⟨hf, hN h2, ?_, ?_⟩
  · unfold simTest3
    rw [gd_P (hs0.1.w2 hi (s := 5) (by omega)), hs0.w3 hi (s := 5) (by omega), hw5, show iI 3 = nI 3 from (nI_i 3).symm, lq_E, if_neg (nI_ne (a := 3) (b := 0) (by omega) (by omega) (by omega)), if_neg (nI_ne (a := 3) (b := 1) (by omega) (by omega) (by omega)), if_neg (nI_ne (a := 3) (b := 2) (by omega) (by omega) (by omega)), if_pos rfl, lq_E, gd_P tb0, eb, bv_S, gd_P t.1.1, bn_C e1, gd_P t1.1.1, bn_C e2, gd_P t2.1.1, bn_C ef]
  · have eB : (([] : List Nat) ++ s88) ++ (s78 ++ dig ((O i 6).toNat % b)) = fl [(35, 0, [32]), (33, 0, [32]), (55, 98 * 16 + (O i 6).toNat % b, [])] := by
      simp only [List.append_assoc, List.nil_append, fl, List.append_nil, tbG U4, dig1 (show (O i 6).toNat % p < 10 by omega), dig1 (show (O i 6).toNat % b < 10 by omega), dig1 (show (O i 6).toNat % m < 10 by omega), dig1 (show (O i 6).toNat % n < 10 by omega), tbN (c := 112) (show (O i 6).toNat % p < 16 by omega), tbN (c := 98) (show (O i 6).toNat % b < 16 by omega), tbN (c := 114) (show (O i 6).toNat % m < 16 by omega), tbN (c := 103) (show (O i 6).toNat % n < 16 by omega)]
      all_goals rfl
    rw [← eB]
    exact ⟨sf.1, sf.2.1, sf.2.2.1, sf.2.2.2.1, sf.2.2.2.2.mono (by omega)⟩
theorem test4 (hNm : Nm n m p b) {h : AH} (hs0 : Sm xA n m p b no O h g) (st0 : St h) {i : Nat} (hi : i < no) (hW : Wk n m p b (O i)) (hw5 : O i 5 = 4) {r19 r34 : Nat} (hp : Str h r19 (s76 ++ dig ((O i 6).toNat % p)) ∧ r19 < hN h ∧ hR h r19 0 < hN h) (hq : Str h r34 (s78 ++ dig ((O i 6).toNat % b)) ∧ r34 < hN h ∧ hR h r34 0 < hN h) :
    ∃ h' s, simTest3 h (338 + n + m + p + b + i) r19 r34 (iI (O i 6)) (iI (O i 7)) = some (h', s) ∧ Sr h h' s (fl [(28, 0, [32]), (47, 0, [32]), (56, 1, [32]), (54, 0, [32]), (56, (O i 7).toNat, [])]) 14 := by
  have hN' := hNm
  unfold Nm at hN'
  have hw := hW
  unfold Wk at hw
  have h200 : 200 ≤ hN h := by have := hs0.2.2.2.2.2.1; unfold tp at this; omega
  have Z6 : 0 ≤ O i 6 := by omega
  have Up : (O i 6).toNat % p < p := Nat.mod_lt _ (by omega)
  have Ub : (O i 6).toNat % b < b := Nat.mod_lt _ (by omega)
  have Um : (O i 6).toNat % m < m := Nat.mod_lt _ (by omega)
  have Un : (O i 6).toNat % n < n := Nat.mod_lt _ (by omega)
  have U4 : (O i 6).toNat % 4 < 4 := Nat.mod_lt _ (by omega)
  have gl := gS_len ((O i 6).toNat % 4)
  have Lp : s76.length = 2 := rfl
  have Dp := dig_len (n := (O i 6).toNat % p)
  have Lb : s78.length = 2 := rfl
  have Db := dig_len (n := (O i 6).toNat % b)
  have L90 : s90.length = 13 := rfl
  have D0 := dig_len (n := (O i 7).toNat)
  obtain ⟨hb, eb, tb0, t, c0⟩ := Tx.new (h := h) h200
  have hm0 := t.sm hNm hs0
  obtain ⟨h1, e1, t1, c1⟩ := t.s h200 (t.st h200 st0).k90 (by (try simp only [List.length_append, List.length_nil]); omega)
  have m1 := t1.sm hNm hs0
  obtain ⟨h2, e2, t2, c2⟩ := t1.i (t1.st h200 st0).1 (n := (O i 7).toNat) (by omega) (by (try simp only [List.length_append, List.length_nil]); omega)
  have m2 := t2.sm hNm hs0
  obtain ⟨hf, ef, sf⟩ := t2.fin ((c0.trans c1).trans c2)
  refine ⟨hf, hN h2, ?_, ?_⟩
  · unfold simTest3
    rw [gd_P (hs0.1.w2 hi (s := 5) (by omega)), hs0.w3 hi (s := 5) (by omega), hw5, show iI 4 = nI 4 from (nI_i 4).symm, lq_E, if_neg (nI_ne (a := 4) (b := 0) (by omega) (by omega) (by omega)), if_neg (nI_ne (a := 4) (b := 1) (by omega) (by omega) (by omega)), if_neg (nI_ne (a := 4) (b := 2) (by omega) (by omega) (by omega)), if_neg (nI_ne (a := 4) (b := 3) (by omega) (by omega) (by omega)), if_pos rfl, lq_E, gd_P tb0, eb, bv_S, gd_P t.1.1, bn_C e1, gd_P t1.1.1, bn_I (iI_N (by omega)) e2, gd_P t2.1.1, bn_C ef]
  · have eB : (([] : List Nat) ++ s90) ++ dig ((O i 7).toNat) = fl [(28, 0, [32]), (47, 0, [32]), (56, 1, [32]), (54, 0, [32]), (56, (O i 7).toNat, [])] := by
      simp only [List.append_assoc, List.nil_append, fl, List.append_nil, tbG U4, dig1 (show (O i 6).toNat % p < 10 by omega), dig1 (show (O i 6).toNat % b < 10 by omega), dig1 (show (O i 6).toNat % m < 10 by omega), dig1 (show (O i 6).toNat % n < 10 by omega), tbN (c := 112) (show (O i 6).toNat % p < 16 by omega), tbN (c := 98) (show (O i 6).toNat % b < 16 by omega), tbN (c := 114) (show (O i 6).toNat % m < 16 by omega), tbN (c := 103) (show (O i 6).toNat % n < 16 by omega)]
      all_goals rfl
    rw [← eB]
    exact ⟨sf.1, sf.2.1, sf.2.2.1, sf.2.2.2.1, sf.2.2.2.2.mono (by omega)⟩
theorem test5 (hNm : Nm n m p b) {h : AH} (hs0 : Sm xA n m p b no O h g) (st0 : St h) {i : Nat} (hi : i < no) (hW : Wk n m p b (O i)) (hw5 : O i 5 = 5) {r19 r34 : Nat} (hp : Str h r19 (s76 ++ dig ((O i 6).toNat % p)) ∧ r19 < hN h ∧ hR h r19 0 < hN h) (hq : Str h r34 (s78 ++ dig ((O i 6).toNat % b)) ∧ r34 < hN h ∧ hR h r34 0 < hN h) :
    ∃ h' s, simTest3 h (338 + n + m + p + b + i) r19 r34 (iI (O i 6)) (iI (O i 7)) = some (h', s) ∧ Sr h h' s (fl [(30, 0, [32]), (55, 114 * 16 + (O i 6).toNat % m, [32]), (51, 0, [32]), (56, (O i 7).toNat % 30, [32]), (37, 0, [32]), (31, 0, [32]), (18 + (O i 6).toNat % 4, 0, [32]), (50, 0, [32]), (56, (O i 7).toNat % 9, [])]) 14 := by
  have hN' := hNm
  unfold Nm at hN'
  have hw := hW
  unfold Wk at hw
  have h200 : 200 ≤ hN h := by have := hs0.2.2.2.2.2.1; unfold tp at this; omega
  have Z6 : 0 ≤ O i 6 := by omega
  have Up : (O i 6).toNat % p < p := Nat.mod_lt _ (by omega)
  have Ub : (O i 6).toNat % b < b := Nat.mod_lt _ (by omega)
  have Um : (O i 6).toNat % m < m := Nat.mod_lt _ (by omega)
  have Un : (O i 6).toNat % n < n := Nat.mod_lt _ (by omega)
  have U4 : (O i 6).toNat % 4 < 4 := Nat.mod_lt _ (by omega)
  have gl := gS_len ((O i 6).toNat % 4)
  have Lp : s76.length = 2 := rfl
  have Dp := dig_len (n := (O i 6).toNat % p)
  have Lb : s78.length = 2 := rfl
  have Db := dig_len (n := (O i 6).toNat % b)
  have L92 : s92.length = 6 := rfl
  have L94 : s94.length = 3 := rfl
  have L96 : s96.length = 10 := rfl
  have L98 : s98.length = 3 := rfl
  have D0 := dig_len (n := (O i 6).toNat % m)
  have D1 := dig_len (n := (O i 7).toNat % 30)
  have D2 := dig_len (n := (O i 7).toNat % 9)
  obtain ⟨hb, eb, tb0, t, c0⟩ := Tx.new (h := h) h200
  have hm0 := t.sm hNm hs0
  obtain ⟨h1, e1, t1, c1⟩ := t.s h200 (t.st h200 st0).k92 (by (try simp only [List.length_append, List.length_nil]); omega)
  have m1 := t1.sm hNm hs0
  obtain ⟨h2, e2, t2, c2⟩ := t1.i (t1.st h200 st0).1 (n := (O i 6).toNat % m) (by omega) (by (try simp only [List.length_append, List.length_nil]); omega)
  have m2 := t2.sm hNm hs0
  obtain ⟨h3, e3, t3, c3⟩ := t2.s h200 (t2.st h200 st0).k94 (by (try simp only [List.length_append, List.length_nil]); omega)
  have m3 := t3.sm hNm hs0
  obtain ⟨h4, e4, t4, c4⟩ := t3.i (t3.st h200 st0).1 (n := (O i 7).toNat % 30) (by omega) (by (try simp only [List.length_append, List.length_nil]); omega)
  have m4 := t4.sm hNm hs0
  obtain ⟨h5, e5, t5, c5⟩ := t4.s h200 (t4.st h200 st0).k96 (by (try simp only [List.length_append, List.length_nil]); omega)
  have m5 := t5.sm hNm hs0
  obtain ⟨h6, e6, t6, c6⟩ := t5.s h200 ((t5.st h200 st0).g U4) (by (try simp only [List.length_append, List.length_nil]); omega)
  have m6 := t6.sm hNm hs0
  obtain ⟨h7, e7, t7, c7⟩ := t6.s h200 (t6.st h200 st0).k98 (by (try simp only [List.length_append, List.length_nil]); omega)
  have m7 := t7.sm hNm hs0
  obtain ⟨h8, e8, t8, c8⟩ := t7.i (t7.st h200 st0).1 (n := (O i 7).toNat % 9) (by omega) (by (try simp only [List.length_append, List.length_nil]); omega)
  have m8 := t8.sm hNm hs0
  obtain ⟨hf, ef, sf⟩ := t8.fin ((((((((c0.trans c1).trans c2).trans c3).trans c4).trans c5).trans c6).trans c7).trans c8)
  refine ⟨hf, hN h8, ?_, ?_⟩
  · unfold simTest3
    rw [gd_P (hs0.1.w2 hi (s := 5) (by omega)), hs0.w3 hi (s := 5) (by omega), hw5, show iI 5 = nI 5 from (nI_i 5).symm, lq_E, if_neg (nI_ne (a := 5) (b := 0) (by omega) (by omega) (by omega)), if_neg (nI_ne (a := 5) (b := 1) (by omega) (by omega) (by omega)), if_neg (nI_ne (a := 5) (b := 2) (by omega) (by omega) (by omega)), if_neg (nI_ne (a := 5) (b := 3) (by omega) (by omega) (by omega)), if_neg (nI_ne (a := 5) (b := 4) (by omega) (by omega) (by omega)), if_pos rfl, lq_E, gd_P tb0, eb, bv_S, gd_P t.1.1, bn_C e1, gd_P ((m1).1.t), gd_P (by rw [(m1).1.r14]; exact (m1).1.tra), gd_P (by rw [(m1).1.r14, (m1).1.lra, nI_i, z_i, iI_eq (by omega) (by omega) (by omega) (by omega)]; omega), gd_P t1.1.1, bn_I (by rw [(m1).1.r14, (m1).1.lra]; exact modI (c := m) (by omega) (by omega) (by omega) (by omega)) e2, gd_P t2.1.1, bn_C e3, gd_P t3.1.1, bn_I (modI (c := 30) (by omega) (by omega) (by omega) (by omega)) e4, gd_P t4.1.1, bn_C e5, gd_P (⟨(t5.st h200 st0).2.1.1, by rw [modI (c := 4) (by omega) (by omega) (by omega) (by omega)]; exact inb_i (by have := (t5.st h200 st0).2.1.2.1; omega) (by omega)⟩), gd_P t5.1.1, bn_s (by rw [modI (c := 4) (by omega) (by omega) (by omega) (by omega), ix_i (by omega)]) e6, gd_P t6.1.1, bn_C e7, gd_P t7.1.1, bn_I (modI (c := 9) (by omega) (by omega) (by omega) (by omega)) e8, gd_P t8.1.1, bn_C ef]
  · have eB : (((((((([] : List Nat) ++ s92) ++ dig ((O i 6).toNat % m)) ++ s94) ++ dig ((O i 7).toNat % 30)) ++ s96) ++ gS ((O i 6).toNat % 4)) ++ s98) ++ dig ((O i 7).toNat % 9) = fl [(30, 0, [32]), (55, 114 * 16 + (O i 6).toNat % m, [32]), (51, 0, [32]), (56, (O i 7).toNat % 30, [32]), (37, 0, [32]), (31, 0, [32]), (18 + (O i 6).toNat % 4, 0, [32]), (50, 0, [32]), (56, (O i 7).toNat % 9, [])] := by
      simp only [List.append_assoc, List.nil_append, fl, List.append_nil, tbG U4, dig1 (show (O i 6).toNat % p < 10 by omega), dig1 (show (O i 6).toNat % b < 10 by omega), dig1 (show (O i 6).toNat % m < 10 by omega), dig1 (show (O i 6).toNat % n < 10 by omega), tbN (c := 112) (show (O i 6).toNat % p < 16 by omega), tbN (c := 98) (show (O i 6).toNat % b < 16 by omega), tbN (c := 114) (show (O i 6).toNat % m < 16 by omega), tbN (c := 103) (show (O i 6).toNat % n < 16 by omega)]
      all_goals rfl
    rw [← eB]
    exact ⟨sf.1, sf.2.1, sf.2.2.1, sf.2.2.2.1, sf.2.2.2.2.mono (by omega)⟩
theorem test6 (hNm : Nm n m p b) {h : AH} (hs0 : Sm xA n m p b no O h g) (st0 : St h) {i : Nat} (hi : i < no) (hW : Wk n m p b (O i)) (hw5 : O i 5 = 6) {r19 r34 : Nat} (hp : Str h r19 (s76 ++ dig ((O i 6).toNat % p)) ∧ r19 < hN h ∧ hR h r19 0 < hN h) (hq : Str h r34 (s78 ++ dig ((O i 6).toNat % b)) ∧ r34 < hN h ∧ hR h r34 0 < hN h) :
    ∃ h' s, simTest3 h (338 + n + m + p + b + i) r19 r34 (iI (O i 6)) (iI (O i 7)) = some (h', s) ∧ Sr h h' s (fl [(42, 0, []), (35, 0, [32]), (2, 0, [32]), (55, 103 * 16 + (O i 6).toNat % n, [32]), (50, 0, [32]), (56, (O i 7).toNat % 60, []), (43, 0, [32]), (36, 0, [32]), (17, 0, [32]), (18 + (O i 6).toNat % 4, 0, [32]), (54, 0, [32]), (56, 1, [])]) 14 := by
  have hN' := hNm
  unfold Nm at hN'
  have hw := hW
  unfold Wk at hw
  have h200 : 200 ≤ hN h := by have := hs0.2.2.2.2.2.1; unfold tp at this; omega
  have Z6 : 0 ≤ O i 6 := by omega
  have Up : (O i 6).toNat % p < p := Nat.mod_lt _ (by omega)
  have Ub : (O i 6).toNat % b < b := Nat.mod_lt _ (by omega)
  have Um : (O i 6).toNat % m < m := Nat.mod_lt _ (by omega)
  have Un : (O i 6).toNat % n < n := Nat.mod_lt _ (by omega)
  have U4 : (O i 6).toNat % 4 < 4 := Nat.mod_lt _ (by omega)
  have gl := gS_len ((O i 6).toNat % 4)
  have Lp : s76.length = 2 := rfl
  have Dp := dig_len (n := (O i 6).toNat % p)
  have Lb : s78.length = 2 := rfl
  have Db := dig_len (n := (O i 6).toNat % b)
  have L98 : s98.length = 3 := rfl
  have L100 : s100.length = 13 := rfl
  have L102 : s102.length = 12 := rfl
  have L104 : s104.length = 5 := rfl
  have D0 := dig_len (n := (O i 6).toNat % n)
  have D1 := dig_len (n := (O i 7).toNat % 60)
  obtain ⟨hb, eb, tb0, t, c0⟩ := Tx.new (h := h) h200
  have hm0 := t.sm hNm hs0
  obtain ⟨h1, e1, t1, c1⟩ := t.s h200 (t.st h200 st0).k100 (by (try simp only [List.length_append, List.length_nil]); omega)
  have m1 := t1.sm hNm hs0
  obtain ⟨h2, e2, t2, c2⟩ := t1.i (t1.st h200 st0).1 (n := (O i 6).toNat % n) (by omega) (by (try simp only [List.length_append, List.length_nil]); omega)
  have m2 := t2.sm hNm hs0
  obtain ⟨h3, e3, t3, c3⟩ := t2.s h200 (t2.st h200 st0).k98 (by (try simp only [List.length_append, List.length_nil]); omega)
  have m3 := t3.sm hNm hs0
  obtain ⟨h4, e4, t4, c4⟩ := t3.i (t3.st h200 st0).1 (n := (O i 7).toNat % 60) (by omega) (by (try simp only [List.length_append, List.length_nil]); omega)
  have m4 := t4.sm hNm hs0
  obtain ⟨h5, e5, t5, c5⟩ := t4.s h200 (t4.st h200 st0).k102 (by (try simp only [List.length_append, List.length_nil]); omega)
  have m5 := t5.sm hNm hs0
  obtain ⟨h6, e6, t6, c6⟩ := t5.s h200 ((t5.st h200 st0).g U4) (by (try simp only [List.length_append, List.length_nil]); omega)
  have m6 := t6.sm hNm hs0
  obtain ⟨h7, e7, t7, c7⟩ := t6.s h200 (t6.st h200 st0).k104 (by (try simp only [List.length_append, List.length_nil]); omega)
  have m7 := t7.sm hNm hs0
  obtain ⟨hf, ef, sf⟩ := t7.fin (((((((c0.trans c1).trans c2).trans c3).trans c4).trans c5).trans c6).trans c7)
  refine ⟨hf, hN h7, ?_, ?_⟩
  · unfold simTest3
    rw [gd_P (hs0.1.w2 hi (s := 5) (by omega)), hs0.w3 hi (s := 5) (by omega), hw5, show iI 6 = nI 6 from (nI_i 6).symm, lq_E, if_neg (nI_ne (a := 6) (b := 0) (by omega) (by omega) (by omega)), if_neg (nI_ne (a := 6) (b := 1) (by omega) (by omega) (by omega)), if_neg (nI_ne (a := 6) (b := 2) (by omega) (by omega) (by omega)), if_neg (nI_ne (a := 6) (b := 3) (by omega) (by omega) (by omega)), if_neg (nI_ne (a := 6) (b := 4) (by omega) (by omega) (by omega)), if_neg (nI_ne (a := 6) (b := 5) (by omega) (by omega) (by omega)), if_pos rfl, lq_E, gd_P tb0, eb, bv_S, gd_P t.1.1, bn_C e1, gd_P ((m1).1.t), gd_P (by rw [(m1).1.r12]; exact (m1).1.tga), gd_P (by rw [(m1).1.r12, (m1).1.lga, nI_i, z_i, iI_eq (by omega) (by omega) (by omega) (by omega)]; omega), gd_P t1.1.1, bn_I (by rw [(m1).1.r12, (m1).1.lga]; exact modI (c := n) (by omega) (by omega) (by omega) (by omega)) e2, gd_P t2.1.1, bn_C e3, gd_P t3.1.1, bn_I (modI (c := 60) (by omega) (by omega) (by omega) (by omega)) e4, gd_P t4.1.1, bn_C e5, gd_P (⟨(t5.st h200 st0).2.1.1, by rw [modI (c := 4) (by omega) (by omega) (by omega) (by omega)]; exact inb_i (by have := (t5.st h200 st0).2.1.2.1; omega) (by omega)⟩), gd_P t5.1.1, bn_s (by rw [modI (c := 4) (by omega) (by omega) (by omega) (by omega), ix_i (by omega)]) e6, gd_P t6.1.1, bn_C e7, gd_P t7.1.1, bn_C ef]
  · have eB : ((((((([] : List Nat) ++ s100) ++ dig ((O i 6).toNat % n)) ++ s98) ++ dig ((O i 7).toNat % 60)) ++ s102) ++ gS ((O i 6).toNat % 4)) ++ s104 = fl [(42, 0, []), (35, 0, [32]), (2, 0, [32]), (55, 103 * 16 + (O i 6).toNat % n, [32]), (50, 0, [32]), (56, (O i 7).toNat % 60, []), (43, 0, [32]), (36, 0, [32]), (17, 0, [32]), (18 + (O i 6).toNat % 4, 0, [32]), (54, 0, [32]), (56, 1, [])] := by
      simp only [List.append_assoc, List.nil_append, fl, List.append_nil, tbG U4, dig1 (show (O i 6).toNat % p < 10 by omega), dig1 (show (O i 6).toNat % b < 10 by omega), dig1 (show (O i 6).toNat % m < 10 by omega), dig1 (show (O i 6).toNat % n < 10 by omega), tbN (c := 112) (show (O i 6).toNat % p < 16 by omega), tbN (c := 98) (show (O i 6).toNat % b < 16 by omega), tbN (c := 114) (show (O i 6).toNat % m < 16 by omega), tbN (c := 103) (show (O i 6).toNat % n < 16 by omega)]
      all_goals rfl
    rw [← eB]
    exact ⟨sf.1, sf.2.1, sf.2.2.1, sf.2.2.2.1, sf.2.2.2.2.mono (by omega)⟩
theorem test7 (hNm : Nm n m p b) {h : AH} (hs0 : Sm xA n m p b no O h g) (st0 : St h) {i : Nat} (hi : i < no) (hW : Wk n m p b (O i)) (hw5 : O i 5 = 7) {r19 r34 : Nat} (hp : Str h r19 (s76 ++ dig ((O i 6).toNat % p)) ∧ r19 < hN h ∧ hR h r19 0 < hN h) (hq : Str h r34 (s78 ++ dig ((O i 6).toNat % b)) ∧ r34 < hN h ∧ hR h r34 0 < hN h) :
    ∃ h' s, simTest3 h (338 + n + m + p + b + i) r19 r34 (iI (O i 6)) (iI (O i 7)) = some (h', s) ∧ Sr h h' s (fl [(32, 0, [32]), (55, 98 * 16 + (O i 6).toNat % b, []), (53, 0, []), (56, (O i 7).toNat % 20, [])]) 14 := by
  have hN' := hNm
  unfold Nm at hN'
  have hw := hW
  unfold Wk at hw
  have h200 : 200 ≤ hN h := by have := hs0.2.2.2.2.2.1; unfold tp at this; omega
  have Z6 : 0 ≤ O i 6 := by omega
  have Up : (O i 6).toNat % p < p := Nat.mod_lt _ (by omega)
  have Ub : (O i 6).toNat % b < b := Nat.mod_lt _ (by omega)
  have Um : (O i 6).toNat % m < m := Nat.mod_lt _ (by omega)
  have Un : (O i 6).toNat % n < n := Nat.mod_lt _ (by omega)
  have U4 : (O i 6).toNat % 4 < 4 := Nat.mod_lt _ (by omega)
  have gl := gS_len ((O i 6).toNat % 4)
  have Lp : s76.length = 2 := rfl
  have Dp := dig_len (n := (O i 6).toNat % p)
  have Lb : s78.length = 2 := rfl
  have Db := dig_len (n := (O i 6).toNat % b)
  have L106 : s106.length = 4 := rfl
  have L108 : s108.length = 2 := rfl
  have D0 := dig_len (n := (O i 7).toNat % 20)
  obtain ⟨hb, eb, tb0, t, c0⟩ := Tx.new (h := h) h200
  have hm0 := t.sm hNm hs0
  obtain ⟨h1, e1, t1, c1⟩ := t.s h200 (t.st h200 st0).k106 (by (try simp only [List.length_append, List.length_nil]); omega)
  have m1 := t1.sm hNm hs0
  have x2 := t1.2.2.2 r34 hq.2.1
  have y2 := t1.2.2.2 (hR h r34 0) hq.2.2
  have z2 : hR h1 r34 0 = hR h r34 0 := congrFun x2.2.2.2 0
  obtain ⟨h2, e2, t2, c2⟩ := t1.d (hq.1.ext x2 y2) (by have := t1.2.2.1; have := hq.2.1; omega) (by rw [z2]; have := t1.2.2.1; have := hq.2.2; omega) (by rw [z2]; have := t1.1.2.2.2.1; have := t1.2.1; have := hq.2.2; omega) (by (try simp only [List.length_append, List.length_nil]); omega)
  have m2 := t2.sm hNm hs0
  obtain ⟨h3, e3, t3, c3⟩ := t2.s h200 (t2.st h200 st0).k108 (by (try simp only [List.length_append, List.length_nil]); omega)
  have m3 := t3.sm hNm hs0
  obtain ⟨h4, e4, t4, c4⟩ := t3.i (t3.st h200 st0).1 (n := (O i 7).toNat % 20) (by omega) (by (try simp only [List.length_append, List.length_nil]); omega)
  have m4 := t4.sm hNm hs0
  obtain ⟨hf, ef, sf⟩ := t4.fin ((((c0.trans c1).trans c2).trans c3).trans c4)
  refine ⟨hf, hN h4, ?_, ?_⟩
  · unfold simTest3
    rw [gd_P (hs0.1.w2 hi (s := 5) (by omega)), hs0.w3 hi (s := 5) (by omega), hw5, show iI 7 = nI 7 from (nI_i 7).symm, lq_E, if_neg (nI_ne (a := 7) (b := 0) (by omega) (by omega) (by omega)), if_neg (nI_ne (a := 7) (b := 1) (by omega) (by omega) (by omega)), if_neg (nI_ne (a := 7) (b := 2) (by omega) (by omega) (by omega)), if_neg (nI_ne (a := 7) (b := 3) (by omega) (by omega) (by omega)), if_neg (nI_ne (a := 7) (b := 4) (by omega) (by omega) (by omega)), if_neg (nI_ne (a := 7) (b := 5) (by omega) (by omega) (by omega)), if_neg (nI_ne (a := 7) (b := 6) (by omega) (by omega) (by omega)), if_pos rfl, lq_E, gd_P tb0, eb, bv_S, gd_P t.1.1, bn_C e1, gd_P t1.1.1, bn_C e2, gd_P t2.1.1, bn_C e3, gd_P t3.1.1, bn_I (modI (c := 20) (by omega) (by omega) (by omega) (by omega)) e4, gd_P t4.1.1, bn_C ef]
  · have eB : (((([] : List Nat) ++ s106) ++ (s78 ++ dig ((O i 6).toNat % b))) ++ s108) ++ dig ((O i 7).toNat % 20) = fl [(32, 0, [32]), (55, 98 * 16 + (O i 6).toNat % b, []), (53, 0, []), (56, (O i 7).toNat % 20, [])] := by
      simp only [List.append_assoc, List.nil_append, fl, List.append_nil, tbG U4, dig1 (show (O i 6).toNat % p < 10 by omega), dig1 (show (O i 6).toNat % b < 10 by omega), dig1 (show (O i 6).toNat % m < 10 by omega), dig1 (show (O i 6).toNat % n < 10 by omega), tbN (c := 112) (show (O i 6).toNat % p < 16 by omega), tbN (c := 98) (show (O i 6).toNat % b < 16 by omega), tbN (c := 114) (show (O i 6).toNat % m < 16 by omega), tbN (c := 103) (show (O i 6).toNat % n < 16 by omega)]
      all_goals rfl
    rw [← eB]
    exact ⟨sf.1, sf.2.1, sf.2.2.1, sf.2.2.2.1, sf.2.2.2.2.mono (by omega)⟩
end

/-! 98c L3: a test in words, whole -/
def Sq (h h' : AH) (s : Nat) (bs : List Nat) (c : Nat) : Prop := Str h' s bs ∧ s < hN h' ∧ (hN h ≤ hR h' s 0 ∨ hR h' s 0 < 200) ∧ hR h' s 0 < hN h' ∧ (∀ x, x < hN h → E4 h h' x) ∧ Co c h h'
theorem Sr.q {h h' : AH} {s c : Nat} {bs : List Nat} (k : Sr h h' s bs c) : Sq h h' s bs c := ⟨k.1, k.2.1.2, Or.inl k.2.2.1.1, k.2.2.1.2, k.2.2.2.1, k.2.2.2.2⟩
theorem Sq.pre {h h1 h' : AH} {s c d : Nat} {bs : List Nat} (k : Sq h1 h' s bs c) (n1 : hN h ≤ hN h1) (e : ∀ x, x < hN h → E4 h h1 x) (co : Co d h h1) : Sq h h' s bs (d + c) :=
  ⟨k.1, k.2.1, by rcases k.2.2.1 with q | q; exact Or.inl (by omega); exact Or.inr q, k.2.2.2.1, fun x hx => (e x hx).trans (k.2.2.2.2.1 x (by omega)), co.trans k.2.2.2.2.2⟩
section
variable {xA n m p b no : Nat} {O : Nat → Nat → Int} {g : GM}
theorem test_E (hNm : Nm n m p b) {h : AH} (hs0 : Sm xA n m p b no O h g) (st0 : St h) {i : Nat} (hi : i < no) (hW : Wk n m p b (O i)) :
    ∃ h' s, f_Sim_test h 320 (338 + n + m + p + b + i) = some (h', s) ∧ Sq h h' s (fl (tkT n m p b (O i 5).toNat (O i 6).toNat (O i 7).toNat [])) 26 := by
  have hN' := hNm
  unfold Nm at hN'
  have hw := hW
  unfold Wk at hw
  have h200 : 200 ≤ hN h := by have := hs0.2.2.2.2.2.1; unfold tp at this; omega
  have L76 : s76.length = 2 := rfl
  have L78 : s78.length = 2 := rfl
  have D0 := dig_len (n := (O i 6).toNat % p)
  have D1 := dig_len (n := (O i 6).toNat % b)
  have Up : (O i 6).toNat % p < p := Nat.mod_lt _ (by omega)
  have Ub : (O i 6).toNat % b < b := Nat.mod_lt _ (by omega)
  -- the peeler's words
  obtain ⟨hb, eb, tb0, t, c0⟩ := Tx.new (h := h) h200
  obtain ⟨h1, e1, t1, c1⟩ := t.s h200 (t.st h200 st0).k76 (by (try simp only [List.length_append, List.length_nil]); omega)
  have m1 := t1.sm hNm hs0
  obtain ⟨h2, e2, t2, c2⟩ := t1.i (t1.st h200 st0).1 (n := (O i 6).toNat % p) (by omega) (by (try simp only [List.length_append, List.length_nil]); omega)
  obtain ⟨h3, e3, f3⟩ := t2.fin ((c0.trans c1).trans c2)
  rw [List.nil_append] at f3
  have hs3 := f3.sm hNm hs0
  have st3 := f3.st h200 st0
  have h203 : 200 ≤ hN h3 := by have := f3.2.2.2.2.1; omega
  -- the boat's
  obtain ⟨hc, ec, tc0, u, d0⟩ := Tx.new (h := h3) h203
  obtain ⟨h4, e4, u1, d1⟩ := u.s h203 (u.st h203 st3).k78 (by (try simp only [List.length_append, List.length_nil]); omega)
  have m4 := u1.sm hNm hs3
  obtain ⟨h5, e5, u2, d2⟩ := u1.i (u1.st h203 st3).1 (n := (O i 6).toNat % b) (by omega) (by (try simp only [List.length_append, List.length_nil]); omega)
  obtain ⟨h6, e6, f6⟩ := u2.fin ((d0.trans d1).trans d2)
  rw [List.nil_append] at f6
  have hs6 := f6.sm hNm hs3
  have st6 := f6.st h203 st3
  have n3 := f3.2.2.2.2.1
  have n6 := f6.2.2.2.2.1
  have x1 := f6.2.2.2.1 _ f3.2.1.2
  have x2 := f6.2.2.2.1 _ f3.2.2.1.2
  have z1 : hR h6 (hN h2) 0 = hR h3 (hN h2) 0 := congrFun x1.2.2.2 0
  have hp : Str h6 (hN h2) (s76 ++ dig ((O i 6).toNat % p)) ∧ hN h2 < hN h6 ∧ hR h6 (hN h2) 0 < hN h6 := ⟨f3.1.ext x1 x2, by have := f3.2.1.2; omega, by rw [z1]; have := f3.2.2.1.2; omega⟩
  have hq : Str h6 (hN h5) (s78 ++ dig ((O i 6).toNat % b)) ∧ hN h5 < hN h6 ∧ hR h6 (hN h5) 0 < hN h6 := ⟨f6.1, f6.2.1.2, f6.2.2.1.2⟩
  have fe : ∀ x, x < hN h → E4 h h6 x := fun x hx => (f3.2.2.2.1 x hx).trans (f6.2.2.2.1 x (by omega))
  have fc : Co 12 h h6 := (f3.2.2.2.2.trans f6.2.2.2.2).mono (by omega)
  -- up to the cases
  have eA : f_Sim_test h 320 (338 + n + m + p + b + i) = simTest3 h6 (338 + n + m + p + b + i) (hN h2) (hN h5) (iI (O i 6)) (iI (O i 7)) := by
    unfold f_Sim_test
    rw [gd_P (hs0.1.w2 hi (s := 6) (by omega)), lq_E, gd_P (hs0.1.w2 hi (s := 7) (by omega)), lq_E, hs0.w3 hi (s := 6) (by omega), hs0.w3 hi (s := 7) (by omega), lq_E, gd_P tb0, eb, bv_S, gd_P t.1.1, bn_C e1, gd_P m1.1.t, gd_P (by rw [m1.1.r15]; exact m1.1.tpe), gd_P (by rw [m1.1.r15, m1.1.lpe, nI_i, z_i, iI_eq (by omega) (by omega) (by omega) (by omega)]; omega), gd_P t1.1.1, bn_I (by rw [m1.1.r15, m1.1.lpe]; exact modI (c := p) (by omega) (by omega) (by omega) (by omega)) e2, gd_P t2.1.1, bn_C e3]
    rw [lq_E, gd_P tc0, ec, bv_S, gd_P u.1.1, bn_C e4, gd_P m4.1.t, gd_P (by rw [m4.1.r16]; exact m4.1.tbo), gd_P (by rw [m4.1.r16, m4.1.lbo, nI_i, z_i, iI_eq (by omega) (by omega) (by omega) (by omega)]; omega), gd_P u1.1.1, bn_I (by rw [m4.1.r16, m4.1.lbo]; exact modI (c := b) (by omega) (by omega) (by omega) (by omega)) e5, gd_P u2.1.1, bn_C e6]
    rfl
  have go : ∀ {tk : List Tok}, (∃ h' s, simTest3 h6 (338 + n + m + p + b + i) (hN h2) (hN h5) (iI (O i 6)) (iI (O i 7)) = some (h', s) ∧ Sq h6 h' s (fl tk) 14) → tkT n m p b (O i 5).toNat (O i 6).toNat (O i 7).toNat [] = tk → ∃ h' s, f_Sim_test h 320 (338 + n + m + p + b + i) = some (h', s) ∧ Sq h h' s (fl (tkT n m p b (O i 5).toNat (O i 6).toNat (O i 7).toNat [])) 26 := by
    intro tk ⟨h', s, k1, k2⟩ k3
    exact ⟨h', s, eA.trans k1, by rw [k3]; exact k2.pre (by omega) fe fc⟩
  have sr : ∀ {tk : List Tok}, (∃ h' s, simTest3 h6 (338 + n + m + p + b + i) (hN h2) (hN h5) (iI (O i 6)) (iI (O i 7)) = some (h', s) ∧ Sr h6 h' s (fl tk) 14) → (∃ h' s, simTest3 h6 (338 + n + m + p + b + i) (hN h2) (hN h5) (iI (O i 6)) (iI (O i 7)) = some (h', s) ∧ Sq h6 h' s (fl tk) 14) := fun ⟨h', s, k1, k2⟩ => ⟨h', s, k1, k2.q⟩
  rcases (show O i 5 = 0 ∨ O i 5 = 1 ∨ O i 5 = 2 ∨ O i 5 = 3 ∨ O i 5 = 4 ∨ O i 5 = 5 ∨ O i 5 = 6 ∨ O i 5 = 7 ∨ O i 5 = 8 by omega) with c | c | c | c | c | c | c | c | c
  · exact go (sr (test0 hNm hs6 st6 hi hW c hp hq)) (by rw [c]; rfl)
  · exact go (sr (test1 hNm hs6 st6 hi hW c hp hq)) (by rw [c]; rfl)
  · exact go (sr (test2 hNm hs6 st6 hi hW c hp hq)) (by rw [c]; rfl)
  · exact go (sr (test3 hNm hs6 st6 hi hW c hp hq)) (by rw [c]; rfl)
  · exact go (sr (test4 hNm hs6 st6 hi hW c hp hq)) (by rw [c]; rfl)
  · exact go (sr (test5 hNm hs6 st6 hi hW c hp hq)) (by rw [c]; rfl)
  · exact go (sr (test6 hNm hs6 st6 hi hW c hp hq)) (by rw [c]; rfl)
  · exact go (sr (test7 hNm hs6 st6 hi hW c hp hq)) (by rw [c]; rfl)
  · refine go (tk := [(56, 1, [32]), (52, 0, [32]), (56, 1, [])]) ⟨h6, 110, ?_, st6.k110.1, by have := st6.k110.2.1; omega, Or.inr st6.k110.2.2, by have := st6.k110.2.2; omega, fun _ _ => ⟨rfl, rfl, rfl, rfl⟩, (Co.refl h6).mono (by omega)⟩ (by rw [c]; rfl)
    unfold simTest3
    rw [gd_P (hs6.1.w2 hi (s := 5) (by omega)), hs6.w3 hi (s := 5) (by omega), c, show iI 8 = nI 8 from (nI_i 8).symm, lq_E, if_neg (nI_ne (a := 8) (b := 0) (by omega) (by omega) (by omega)), if_neg (nI_ne (a := 8) (b := 1) (by omega) (by omega) (by omega)), if_neg (nI_ne (a := 8) (b := 2) (by omega) (by omega) (by omega)), if_neg (nI_ne (a := 8) (b := 3) (by omega) (by omega) (by omega)), if_neg (nI_ne (a := 8) (b := 4) (by omega) (by omega) (by omega)), if_neg (nI_ne (a := 8) (b := 5) (by omega) (by omega) (by omega)), if_neg (nI_ne (a := 8) (b := 6) (by omega) (by omega) (by omega)), if_neg (nI_ne (a := 8) (b := 7) (by omega) (by omega) (by omega))]
theorem sumOf_E (hNm : Nm n m p b) {h : AH} (hs0 : Sm xA n m p b no O h g) (st0 : St h) {i : Nat} (hi : i < no) (hW : Wk n m p b (O i)) :
    ∃ h' s, f_Sim_sumOf h (338 + n + m + p + b + i) = some (h', s) ∧ Sr h h' s (fl (tkS (O i 2).toNat (O i 3).toNat (O i 4).toNat [])) 14 := by
  have hw := hW
  unfold Wk at hw
  rcases (show O i 3 = 0 ∨ O i 3 = 1 ∨ O i 3 = 2 ∨ O i 3 = 3 by omega) with c | c | c | c
  · rw [c]; exact sumOf0 hNm hs0 st0 hi hW c
  · rw [c]; exact sumOf1 hNm hs0 st0 hi hW c
  · rw [c]; exact sumOf2 hNm hs0 st0 hi hW c
  · rw [c]; exact sumOf3 hNm hs0 st0 hi hW c
end

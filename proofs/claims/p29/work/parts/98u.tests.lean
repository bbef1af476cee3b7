/-! 98u L3: the grammar: choices, comparisons, tests (written by l3/gen98u.py) -/
section
variable {hb : AH} {K r : List Nat} {ds : List (Nat × Nat)} {ps : Nat} {h : AH} {k : Nat} {n : Nat} {x y : Int32}
theorem deep_y {h : AH} (hx : ¬ nI 8 ≤ x) : f_Grammar_mayGoDeeper h x = some (h, iI 1) := by
  unfold f_Grammar_mayGoDeeper
  rw [if_neg hx]
  rfl
theorem chMax {r1 r2 r3 : List Nat} {ds1 ds2 : List (Nat × Nat)} {ps1 ps2 : Nat} (hy : ¬ nI 8 ≤ y) (v : Rd hb K (fun h => gG n 3 h 254 (y + nI 1) (nI 0)) r1 ds (ps + 2) (45 :: r2) ds1 ps1) (v2 : Rd hb K (fun h => gG n 3 h 254 (y + nI 1) (nI 0)) r2 ds1 (ps1 + 1) (41 :: r3) ds2 ps2) (hd : ds2.length < 400) : Rd hb K (fun h => gG (n + 1) 6 h 254 (nI 39) y) (39 :: 40 :: r1) ds ps r3 (ds2 ++ [(39, ps2 + 1)]) (ps2 + 1) := by
  intro h g
  obtain ⟨h1, e1, g1⟩ := rdy g (by decide)
  obtain ⟨h2, e2, g2⟩ := rdy g1 (by decide)
  obtain ⟨h3, e3, g3⟩ := v h2 g2
  obtain ⟨h4, e4, g4⟩ := rdy g3 (by decide)
  obtain ⟨h5, e5, g5⟩ := v2 h4 g4
  obtain ⟨h6, e6, g6⟩ := rdy g5 (by decide)
  obtain ⟨h7, e7, g7⟩ := adn (k := 39) (v := ps2 + 1) g6 hd
  refine ⟨h7, ?_, g7⟩
  show f_Grammar_readsChoice (gG n) h 254 (nI 39) y = _
  unfold f_Grammar_readsChoice
  rw [gd_P g.t, bn_C e1, if_neg (by decide), bn_C (deep_y hy), if_neg (by decide), gd_P g1.t, bn_C e2, if_neg (by decide), gd_P g2.t, bn_C e3, if_pos (by decide), gd_P g3.t, bn_C e4, if_neg (by decide), gd_P g4.t, bn_C e5, if_neg (by decide), gd_P g5.t, bn_C e6, if_pos (by decide), gd_P g6.t, g6.r1, gd_P g6.tO, g6.pz, e7, bv_S]
  rfl
theorem vMax {r' : List Nat} {ds' : List (Nat × Nat)} {ps' : Nat} (v : Rd hb K (fun h => gG n 6 h 254 (nI 39) x) (39 :: r) ds ps r' ds' ps') : Rd hb K (fun h => gG (n + 1) 5 h 254 x y) (39 :: r) ds ps r' ds' ps' := by
  intro h g
  obtain ⟨h1, e1, g1⟩ := v h g
  refine ⟨h1, ?_, g1⟩
  show f_Grammar_readsValue (gG n) h 254 x = _
  unfold f_Grammar_readsValue
  rw [gd_P g.t, g.cu, lq_E, if_neg (by decide), if_neg (by decide), if_neg (by decide), if_neg (by decide), if_neg (by decide), if_neg (by decide), if_neg (by decide), if_neg (by decide), if_neg (by decide), if_neg (by decide), if_neg (by decide), if_neg (by decide), if_neg (by decide), if_neg (by decide), if_neg (by decide), if_neg (by decide), if_neg (by decide), if_neg (by decide), if_neg (by decide), if_neg (by decide), if_neg (by decide), if_neg (by decide), if_neg (by decide), if_neg (by decide), if_neg (by decide), if_neg (by decide), if_neg (by decide), if_neg (by decide), if_neg (by decide), if_neg (by decide), if_neg (by decide), if_neg (by decide), if_neg (by decide), if_neg (by decide), if_neg (by decide), if_neg (by decide), if_neg (by decide), if_pos rfl, bn_C e1, gd_P nrm3]
theorem tAfloat (hd : ds.length < 400) : Rd hb K (fun h => gG (n + 1) 2 h 254 x y) (33 :: 55 :: r) ds ps r (ds ++ [(33, ps + 1)]) (ps + 2) := by
  intro h g
  obtain ⟨h1, e1, g1⟩ := adn (k := 33) (v := ps + 1) g hd
  obtain ⟨h2, e2, g2⟩ := rdy g1 (by decide)
  obtain ⟨h3, e3, g3⟩ := rdy g2 (by decide)
  refine ⟨h3, ?_, g3⟩
  show f_Grammar_readsSingle (gG n) h 254 x = _
  unfold f_Grammar_readsSingle
  rw [gd_P g.t, g.cu, lq_E, if_pos rfl, g.r1, gd_P g.tO, g.p1, e1, bv_S, gd_P g1.t, g1.cu, bn_C e2, if_neg (by decide), gd_P g2.t, bn_C e3, if_neg (by decide)]
  rfl
theorem tBlunt (hd : ds.length < 400) : Rd hb K (fun h => gG (n + 1) 2 h 254 x y) (34 :: 55 :: r) ds ps r (ds ++ [(34, ps + 1)]) (ps + 2) := by
  intro h g
  obtain ⟨h1, e1, g1⟩ := adn (k := 34) (v := ps + 1) g hd
  obtain ⟨h2, e2, g2⟩ := rdy g1 (by decide)
  obtain ⟨h3, e3, g3⟩ := rdy g2 (by decide)
  refine ⟨h3, ?_, g3⟩
  show f_Grammar_readsSingle (gG n) h 254 x = _
  unfold f_Grammar_readsSingle
  rw [gd_P g.t, g.cu, lq_E, if_neg (by decide), if_pos rfl, g.r1, gd_P g.tO, g.p1, e1, bv_S, gd_P g1.t, g1.cu, bn_C e2, if_neg (by decide), gd_P g2.t, bn_C e3, if_neg (by decide)]
  rfl
theorem tNot {r' : List Nat} {ds' : List (Nat × Nat)} {ps' : Nat} (hx : ¬ nI 8 ≤ x) (v : Rd hb K (fun h => gG n 2 h 254 (x + nI 1) (nI 0)) r ds (ps + 1) r' ds' ps') (hd : ds'.length < 400) : Rd hb K (fun h => gG (n + 1) 2 h 254 x y) (35 :: r) ds ps r' (ds' ++ [(35, ps')]) ps' := by
  intro h g
  obtain ⟨h1, e1, g1⟩ := rdy g (by decide)
  obtain ⟨h2, e2, g2⟩ := v h1 g1
  obtain ⟨h3, e3, g3⟩ := adn (k := 35) (v := ps') g2 hd
  refine ⟨h3, ?_, g3⟩
  show f_Grammar_readsSingle (gG n) h 254 x = _
  unfold f_Grammar_readsSingle
  rw [gd_P g.t, g.cu, lq_E, if_neg (by decide), if_neg (by decide), if_pos rfl, bn_C (deep_y hx), if_neg (by decide), gd_P g.t, bn_C e1, if_neg (by decide), gd_P g1.t, bn_C e2, if_pos (by decide), gd_P g2.t, g2.r1, gd_P g2.tO, g2.pz, e3, bv_S]
  rfl
theorem tBrack {r' : List Nat} {ds' : List (Nat × Nat)} {ps' : Nat} (hx : ¬ nI 8 ≤ x) (v : Rd hb K (fun h => gG n 0 h 254 (x + nI 1) (nI 0)) r ds (ps + 1) (43 :: r') ds' ps') : Rd hb K (fun h => gG (n + 1) 2 h 254 x y) (42 :: r) ds ps r' ds' (ps' + 1) := by
  intro h g
  obtain ⟨h1, e1, g1⟩ := rdy g (by decide)
  obtain ⟨h2, e2, g2⟩ := v h1 g1
  obtain ⟨h3, e3, g3⟩ := rdy g2 (by decide)
  refine ⟨h3, ?_, g3⟩
  show f_Grammar_readsSingle (gG n) h 254 x = _
  unfold f_Grammar_readsSingle
  rw [gd_P g.t, g.cu, lq_E, if_neg (by decide), if_neg (by decide), if_neg (by decide), if_neg (by decide), if_neg (by decide), if_neg (by decide), if_neg (by decide), if_neg (by decide), if_neg (by decide), if_pos rfl, bn_C (deep_y hx), if_neg (by decide), gd_P g.t, bn_C e1, if_neg (by decide), gd_P g1.t, bn_C e2, if_neg (by decide), gd_P g2.t, bn_C e3, if_neg (by decide)]
  rfl
theorem isCmp_y {h : AH} {c : Nat} (hc : 50 ≤ c ∧ c ≤ 54) : f_Grammar_isComparison h (nI c) = some (h, iI 1) := by
  unfold f_Grammar_isComparison f_Grammar_isComparison_b30
  rcases (show c = 50 ∨ c = 51 ∨ c = 52 ∨ c = 53 ∨ c = 54 by omega) with rfl | rfl | rfl | rfl | rfl
  · rw [if_pos (by decide)]; rfl
  · rw [if_neg (by decide), if_pos (by decide)]; rfl
  · rw [if_neg (by decide), if_neg (by decide), if_pos (by decide)]; rfl
  · rw [if_neg (by decide), if_neg (by decide), if_neg (by decide), if_pos (by decide)]; rfl
  · rw [if_neg (by decide), if_neg (by decide), if_neg (by decide), if_neg (by decide), if_neg (by decide)]; rfl
theorem tCmp {k0 c : Nat} {r1 r2 : List Nat} {ds1 ds2 : List (Nat × Nat)} {ps1 ps2 : Nat} (hk : k0 < 33 ∨ 43 ≤ k0) (hk2 : k0 < 100) (v : Rd hb K (fun h => gG n 3 h 254 x (nI 0)) (k0 :: r) ds ps (c :: r1) ds1 ps1) (hc : 50 ≤ c ∧ c ≤ 54) (v2 : Rd hb K (fun h => gG n 3 h 254 x (nI 0)) r1 ds1 (ps1 + 1) r2 ds2 ps2) (hd : ds2.length < 400) : Rd hb K (fun h => gG (n + 1) 2 h 254 x y) (k0 :: r) ds ps r2 (ds2 ++ [(c, ps2)]) ps2 := by
  intro h g
  obtain ⟨h1, e1, g1⟩ := v h g
  obtain ⟨h2, e2, g2⟩ := rdy g1 (by omega)
  obtain ⟨h3, e3, g3⟩ := v2 h2 g2
  obtain ⟨h4, e4, g4⟩ := adn (k := c) (v := ps2) g3 hd
  have nk : ∀ j, 33 ≤ j → j ≤ 42 → ¬ nI k0 = nI j := fun j j1 j2 => nI_ne2 (by omega) (by omega) (by omega)
  refine ⟨h4, ?_, g4⟩
  show f_Grammar_readsSingle (gG n) h 254 x = _
  unfold f_Grammar_readsSingle
  rw [gd_P g.t, g.cu, lq_E, if_neg (nk 33 (by decide) (by decide)), if_neg (nk 34 (by decide) (by decide)), if_neg (nk 35 (by decide) (by decide)), if_neg (nk 36 (by decide) (by decide)), if_neg (nk 37 (by decide) (by decide)), if_neg (nk 38 (by decide) (by decide)), if_neg (nk 39 (by decide) (by decide)), if_neg (nk 40 (by decide) (by decide)), if_neg (nk 41 (by decide) (by decide)), if_neg (nk 42 (by decide) (by decide)), bn_C e1, if_pos (by decide), gd_P g1.t, g1.cu, lq_E, bn_C (isCmp_y hc), if_neg (by decide), gd_P g1.t, bn_C e2, if_neg (by decide), gd_P g2.t, bn_C e3, if_pos (by decide), gd_P g3.t, g3.r1, gd_P g3.tO, g3.pz, e4, bv_S]
  rfl
theorem bend (g : GSt hb K r ds ps h) (h1 : nth r 0 ≠ 36) (G : Nat → AH → Nat → Int32 → Int32 → Option (AH × Int32)) {a2 : Int32} (k12 : AH → Nat → Int32 → Int32 → Option (AH × Int32)) (ha : ¬ nI 400 ≤ a2) : f_Grammar_readsBoth_b12 G k12 h 254 x a2 = some (h, iI 1) := by
  unfold f_Grammar_readsBoth_b12
  rw [if_neg ha, gd_P g.t, bn_C (rdn g (by decide) h1), if_pos (by decide)]
  rfl
theorem b1 {r' : List Nat} {ds' : List (Nat × Nat)} {ps' : Nat} (v : Rd hb K (fun h => gG n 2 h 254 x (nI 0)) r ds ps r' ds' ps') (h1 : nth r' 0 ≠ 36) : Rd hb K (fun h => gG (n + 1) 1 h 254 x y) r ds ps r' ds' ps' := by
  intro h g
  obtain ⟨h', e, g'⟩ := v h g
  refine ⟨h', ?_, g'⟩
  show f_Grammar_readsBoth (gG n) h 254 x = _
  unfold f_Grammar_readsBoth
  rw [gd_P g.t, bn_C e, if_pos (by decide)]
  exact bend g' h1 (gG n) _ (by decide)
theorem b2 {r1 r2 : List Nat} {ds1 ds2 : List (Nat × Nat)} {ps1 ps2 : Nat} (v : Rd hb K (fun h => gG n 2 h 254 x (nI 0)) r ds ps (36 :: r1) ds1 ps1) (v2 : Rd hb K (fun h => gG n 2 h 254 x (nI 0)) r1 ds1 (ps1 + 1) r2 ds2 ps2) (hd : ds2.length < 400) (h1 : nth r2 0 ≠ 36) : Rd hb K (fun h => gG (n + 1) 1 h 254 x y) r ds ps r2 (ds2 ++ [(36, ps2)]) ps2 := by
  intro h g
  obtain ⟨ha, e, ga⟩ := v h g
  obtain ⟨hc, ec, gc⟩ := rdy ga (by decide)
  obtain ⟨hd', ed, gd'⟩ := v2 hc gc
  obtain ⟨he, ee, ge⟩ := adn (k := 36) (v := ps2) gd' hd
  refine ⟨he, ?_, ge⟩
  show f_Grammar_readsBoth (gG n) h 254 x = _
  unfold f_Grammar_readsBoth
  rw [gd_P g.t, bn_C e, if_pos (by decide)]
  show f_Grammar_readsBoth_b12 (gG n) (f_Grammar_readsBoth_l12 (gG n) 99999) ha 254 x (nI 0) = _
  unfold f_Grammar_readsBoth_b12
  rw [if_neg (by decide), gd_P ga.t, bn_C ec, if_neg (by decide), gd_P gc.t, bn_C ed, if_pos (by decide), gd_P gd'.t, gd'.r1, gd_P gd'.tO, gd'.pz, ee, bv_S, lq_E]
  exact bend ge h1 (gG n) _ (by decide)
theorem tend (g : GSt hb K r ds ps h) (h1 : nth r 0 ≠ 37) (G : Nat → AH → Nat → Int32 → Int32 → Option (AH × Int32)) {a2 : Int32} (k12 : AH → Nat → Int32 → Int32 → Option (AH × Int32)) (ha : ¬ nI 400 ≤ a2) : f_Grammar_readsTest_b12 G k12 h 254 x a2 = some (h, iI 1) := by
  unfold f_Grammar_readsTest_b12
  rw [if_neg ha, gd_P g.t, bn_C (rdn g (by decide) h1), if_pos (by decide)]
  rfl
theorem t1 {r' : List Nat} {ds' : List (Nat × Nat)} {ps' : Nat} (v : Rd hb K (fun h => gG n 1 h 254 x (nI 0)) r ds ps r' ds' ps') (h1 : nth r' 0 ≠ 37) : Rd hb K (fun h => gG (n + 1) 0 h 254 x y) r ds ps r' ds' ps' := by
  intro h g
  obtain ⟨h', e, g'⟩ := v h g
  refine ⟨h', ?_, g'⟩
  show f_Grammar_readsTest (gG n) h 254 x = _
  unfold f_Grammar_readsTest
  rw [gd_P g.t, bn_C e, if_pos (by decide)]
  exact tend g' h1 (gG n) _ (by decide)
theorem t2 {r1 r2 : List Nat} {ds1 ds2 : List (Nat × Nat)} {ps1 ps2 : Nat} (v : Rd hb K (fun h => gG n 1 h 254 x (nI 0)) r ds ps (37 :: r1) ds1 ps1) (v2 : Rd hb K (fun h => gG n 1 h 254 x (nI 0)) r1 ds1 (ps1 + 1) r2 ds2 ps2) (hd : ds2.length < 400) (h1 : nth r2 0 ≠ 37) : Rd hb K (fun h => gG (n + 1) 0 h 254 x y) r ds ps r2 (ds2 ++ [(37, ps2)]) ps2 := by
  intro h g
  obtain ⟨ha, e, ga⟩ := v h g
  obtain ⟨hc, ec, gc⟩ := rdy ga (by decide)
  obtain ⟨hd', ed, gd'⟩ := v2 hc gc
  obtain ⟨he, ee, ge⟩ := adn (k := 37) (v := ps2) gd' hd
  refine ⟨he, ?_, ge⟩
  show f_Grammar_readsTest (gG n) h 254 x = _
  unfold f_Grammar_readsTest
  rw [gd_P g.t, bn_C e, if_pos (by decide)]
  show f_Grammar_readsTest_b12 (gG n) (f_Grammar_readsTest_l12 (gG n) 99999) ha 254 x (nI 0) = _
  unfold f_Grammar_readsTest_b12
  rw [if_neg (by decide), gd_P ga.t, bn_C ec, if_neg (by decide), gd_P gc.t, bn_C ed, if_pos (by decide), gd_P gd'.t, gd'.r1, gd_P gd'.tO, gd'.pz, ee, bv_S, lq_E]
  exact tend ge h1 (gG n) _ (by decide)
end

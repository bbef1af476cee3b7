/-! 98t L3: the grammar: names, numbers, values (written by l3/gen98t.py) -/
def Rd (hb : AH) (K : List Nat) (f : AH → Option (AH × Int32)) (r : List Nat) (ds : List (Nat × Nat)) (ps : Nat) (r' : List Nat) (ds' : List (Nat × Nat)) (ps' : Nat) : Prop := ∀ h, GSt hb K r ds ps h → ∃ h', f h = some (h', iI 1) ∧ GSt hb K r' ds' ps' h'
theorem nrm3 : nrm 3 (iI 1) := by
  refine ⟨?_, ?_, ?_⟩ <;> decide
def isGr (k : Nat) : Prop := k = 18 ∨ k = 19 ∨ k = 20 ∨ k = 21
theorem isGrade_y {h : AH} {k : Nat} (hk : isGr k) : f_Grammar_isGrade h (nI k) = some (h, iI 1) := by
  unfold f_Grammar_isGrade f_Grammar_isGrade_b24
  rcases hk with rfl | rfl | rfl | rfl
  · rw [if_pos (by decide)]; rfl
  · rw [if_neg (by decide), if_pos (by decide)]; rfl
  · rw [if_neg (by decide), if_neg (by decide), if_pos (by decide)]; rfl
  · rw [if_neg (by decide), if_neg (by decide), if_neg (by decide), if_neg (by decide)]; rfl
section
variable {hb : AH} {K r : List Nat} {ds : List (Nat × Nat)} {ps : Nat} {h : AH} {k : Nat}
theorem rdy (g : GSt hb K (k :: r) ds ps h) (hk : k ≠ 57) : ∃ h', f_Grammar_reads h 254 (nI k) = some (h', iI 1) ∧ GSt hb K r ds (ps + 1) h' := by
  rw [nI_i k]
  exact reads_y g hk
theorem rdn (g : GSt hb K r ds ps h) (hk : k < 100) (hn : nth r 0 ≠ k) : f_Grammar_reads h 254 (nI k) = some (h, iI 0) := by
  rw [nI_i k]
  exact reads_n g hk hn
theorem adn (g : GSt hb K r ds ps h) (hd : ds.length < 400) {v : Nat} : ∃ h', f_Orders_add h 261 (nI k) (iI (v : Int)) = some h' ∧ GSt hb K r (ds ++ [(k, v)]) ps h' := by
  rw [nI_i k]
  exact add_E g hd
theorem GSt.cu (g : GSt hb K (k :: r) ds ps h) : hI h 254 3 = nI k := by
  rw [nI_i k]
  exact g.cur
theorem GSt.cuN (g : GSt hb K r ds ps h) : hI h 254 3 = nI (nth r 0) := by
  rw [nI_i (nth r 0)]
  exact g.cur
theorem GSt.p1 (g : GSt hb K r ds ps h) : hI h 254 2 + nI 1 = iI ((ps + 1 : Nat) : Int) := by
  rw [g.pz, nI_L, iI_add]
  rfl
theorem nI_ne2 {a b : Nat} (ha : a < 1000) (hb : b < 1000) (h : a ≠ b) : ¬ nI a = nI b := by
  rw [nI_i a, nI_i b, iI_eq (by omega) (by omega) (by omega) (by omega)]
  omega
theorem nameOf_E (g : GSt hb K (k :: 55 :: r) ds ps h) (hk : k ≠ 57) : ∃ h', f_Grammar_readsNameOf h 254 (nI k) = some (h', iI 1) ∧ GSt hb K r ds (ps + 2) h' := by
  obtain ⟨h1, e1, g1⟩ := rdy g hk
  obtain ⟨h2, e2, g2⟩ := rdy g1 (by decide)
  refine ⟨h2, ?_, g2⟩
  unfold f_Grammar_readsNameOf
  rw [gd_P g.t, bn_C e1, if_neg (by decide), gd_P g1.t, bn_C e2, if_neg (by decide)]
  rfl
theorem numberOf_E (g : GSt hb K (k :: 56 :: r) ds ps h) (hk : k ≠ 57) : ∃ h', f_Grammar_readsNumberOf h 254 (nI k) = some (h', iI 1) ∧ GSt hb K r ds (ps + 2) h' := by
  obtain ⟨h1, e1, g1⟩ := rdy g hk
  obtain ⟨h2, e2, g2⟩ := rdy g1 (by decide)
  refine ⟨h2, ?_, g2⟩
  unfold f_Grammar_readsNumberOf
  rw [gd_P g.t, bn_C e1, if_neg (by decide), gd_P g1.t, bn_C e2, if_neg (by decide)]
  rfl
variable {n : Nat} {x y : Int32}
theorem vHour (hd : ds.length < 400) : Rd hb K (fun h => gG (n + 1) 5 h 254 x y) (27 :: r) ds ps r (ds ++ [(27, ps)]) (ps + 1) := by
  intro h g
  obtain ⟨h1, e1, g1⟩ := adn (k := 27) (v := ps) g hd
  obtain ⟨h2, e2, g2⟩ := rdy g1 (by decide)
  refine ⟨h2, ?_, g2⟩
  show f_Grammar_readsValue (gG n) h 254 x = _
  unfold f_Grammar_readsValue
  rw [gd_P g.t, g.cu, lq_E, if_neg (by decide), if_neg (by decide), if_neg (by decide), if_neg (by decide), if_neg (by decide), if_neg (by decide), if_neg (by decide), if_neg (by decide), if_neg (by decide), if_neg (by decide), if_neg (by decide), if_neg (by decide), if_neg (by decide), if_neg (by decide), if_neg (by decide), if_neg (by decide), if_neg (by decide), if_neg (by decide), if_neg (by decide), if_neg (by decide), if_neg (by decide), if_neg (by decide), if_neg (by decide), if_neg (by decide), if_neg (by decide), if_pos rfl, g.r1, gd_P g.tO, g.pz, e1, bv_S, gd_P g1.t, bn_C e2, gd_P nrm3]
theorem vCoins (hd : ds.length < 400) : Rd hb K (fun h => gG (n + 1) 5 h 254 x y) (28 :: r) ds ps r (ds ++ [(28, ps)]) (ps + 1) := by
  intro h g
  obtain ⟨h1, e1, g1⟩ := adn (k := 28) (v := ps) g hd
  obtain ⟨h2, e2, g2⟩ := rdy g1 (by decide)
  refine ⟨h2, ?_, g2⟩
  show f_Grammar_readsValue (gG n) h 254 x = _
  unfold f_Grammar_readsValue
  rw [gd_P g.t, g.cu, lq_E, if_neg (by decide), if_neg (by decide), if_neg (by decide), if_neg (by decide), if_neg (by decide), if_neg (by decide), if_neg (by decide), if_neg (by decide), if_neg (by decide), if_neg (by decide), if_neg (by decide), if_neg (by decide), if_neg (by decide), if_neg (by decide), if_neg (by decide), if_neg (by decide), if_neg (by decide), if_neg (by decide), if_neg (by decide), if_neg (by decide), if_neg (by decide), if_neg (by decide), if_neg (by decide), if_neg (by decide), if_neg (by decide), if_neg (by decide), if_pos rfl, g.r1, gd_P g.tO, g.pz, e1, bv_S, gd_P g1.t, bn_C e2, gd_P nrm3]
theorem vNum (hd : ds.length < 400) : Rd hb K (fun h => gG (n + 1) 5 h 254 x y) (56 :: r) ds ps r (ds ++ [(56, ps)]) (ps + 1) := by
  intro h g
  obtain ⟨h1, e1, g1⟩ := adn (k := 56) (v := ps) g hd
  obtain ⟨h2, e2, g2⟩ := rdy g1 (by decide)
  refine ⟨h2, ?_, g2⟩
  show f_Grammar_readsValue (gG n) h 254 x = _
  unfold f_Grammar_readsValue
  rw [gd_P g.t, g.cu, lq_E, if_neg (by decide), if_neg (by decide), if_neg (by decide), if_neg (by decide), if_neg (by decide), if_neg (by decide), if_neg (by decide), if_neg (by decide), if_neg (by decide), if_neg (by decide), if_neg (by decide), if_neg (by decide), if_neg (by decide), if_neg (by decide), if_neg (by decide), if_neg (by decide), if_neg (by decide), if_neg (by decide), if_neg (by decide), if_neg (by decide), if_neg (by decide), if_neg (by decide), if_neg (by decide), if_neg (by decide), if_neg (by decide), if_neg (by decide), if_neg (by decide), if_neg (by decide), if_neg (by decide), if_neg (by decide), if_neg (by decide), if_neg (by decide), if_neg (by decide), if_neg (by decide), if_neg (by decide), if_neg (by decide), if_neg (by decide), if_neg (by decide), if_neg (by decide), if_neg (by decide), if_neg (by decide), if_neg (by decide), if_neg (by decide), if_neg (by decide), if_neg (by decide), if_neg (by decide), if_neg (by decide), if_neg (by decide), if_neg (by decide), if_neg (by decide), if_neg (by decide), if_neg (by decide), if_neg (by decide), if_neg (by decide), if_pos rfl, g.r1, gd_P g.tO, g.pz, e1, bv_S, gd_P g1.t, bn_C e2, gd_P nrm3]
theorem vEdge (hd : ds.length < 400) : Rd hb K (fun h => gG (n + 1) 5 h 254 x y) (29 :: 55 :: r) ds ps r (ds ++ [(29, ps + 1)]) (ps + 2) := by
  intro h g
  obtain ⟨h1, e1, g1⟩ := adn (k := 29) (v := ps + 1) g hd
  obtain ⟨h2, e2, g2⟩ := rdy g1 (by decide)
  obtain ⟨h3, e3, g3⟩ := rdy g2 (by decide)
  refine ⟨h3, ?_, g3⟩
  show f_Grammar_readsValue (gG n) h 254 x = _
  unfold f_Grammar_readsValue
  rw [gd_P g.t, g.cu, lq_E, if_neg (by decide), if_neg (by decide), if_neg (by decide), if_neg (by decide), if_neg (by decide), if_neg (by decide), if_neg (by decide), if_neg (by decide), if_neg (by decide), if_neg (by decide), if_neg (by decide), if_neg (by decide), if_neg (by decide), if_neg (by decide), if_neg (by decide), if_neg (by decide), if_neg (by decide), if_neg (by decide), if_neg (by decide), if_neg (by decide), if_neg (by decide), if_neg (by decide), if_neg (by decide), if_neg (by decide), if_neg (by decide), if_neg (by decide), if_neg (by decide), if_pos rfl, g.r1, gd_P g.tO, g.p1, e1, bv_S, gd_P g1.t, bn_C e2, if_neg (by decide), gd_P g2.t, bn_C e3, if_neg (by decide)]
  rfl
theorem vRoom (hd : ds.length < 400) : Rd hb K (fun h => gG (n + 1) 5 h 254 x y) (30 :: 55 :: r) ds ps r (ds ++ [(30, ps + 1)]) (ps + 2) := by
  intro h g
  obtain ⟨h1, e1, g1⟩ := adn (k := 30) (v := ps + 1) g hd
  obtain ⟨h2, e2, g2⟩ := rdy g1 (by decide)
  obtain ⟨h3, e3, g3⟩ := rdy g2 (by decide)
  refine ⟨h3, ?_, g3⟩
  show f_Grammar_readsValue (gG n) h 254 x = _
  unfold f_Grammar_readsValue
  rw [gd_P g.t, g.cu, lq_E, if_neg (by decide), if_neg (by decide), if_neg (by decide), if_neg (by decide), if_neg (by decide), if_neg (by decide), if_neg (by decide), if_neg (by decide), if_neg (by decide), if_neg (by decide), if_neg (by decide), if_neg (by decide), if_neg (by decide), if_neg (by decide), if_neg (by decide), if_neg (by decide), if_neg (by decide), if_neg (by decide), if_neg (by decide), if_neg (by decide), if_neg (by decide), if_neg (by decide), if_neg (by decide), if_neg (by decide), if_neg (by decide), if_neg (by decide), if_neg (by decide), if_neg (by decide), if_pos rfl, g.r1, gd_P g.tO, g.p1, e1, bv_S, gd_P g1.t, bn_C e2, if_neg (by decide), gd_P g2.t, bn_C e3, if_neg (by decide)]
  rfl
theorem vMile (hd : ds.length < 400) : Rd hb K (fun h => gG (n + 1) 5 h 254 x y) (32 :: 55 :: r) ds ps r (ds ++ [(32, ps + 1)]) (ps + 2) := by
  intro h g
  obtain ⟨h1, e1, g1⟩ := adn (k := 32) (v := ps + 1) g hd
  obtain ⟨h2, e2, g2⟩ := rdy g1 (by decide)
  obtain ⟨h3, e3, g3⟩ := rdy g2 (by decide)
  refine ⟨h3, ?_, g3⟩
  show f_Grammar_readsValue (gG n) h 254 x = _
  unfold f_Grammar_readsValue
  rw [gd_P g.t, g.cu, lq_E, if_neg (by decide), if_neg (by decide), if_neg (by decide), if_neg (by decide), if_neg (by decide), if_neg (by decide), if_neg (by decide), if_neg (by decide), if_neg (by decide), if_neg (by decide), if_neg (by decide), if_neg (by decide), if_neg (by decide), if_neg (by decide), if_neg (by decide), if_neg (by decide), if_neg (by decide), if_neg (by decide), if_neg (by decide), if_neg (by decide), if_neg (by decide), if_neg (by decide), if_neg (by decide), if_neg (by decide), if_neg (by decide), if_neg (by decide), if_neg (by decide), if_neg (by decide), if_neg (by decide), if_neg (by decide), if_pos rfl, g.r1, gd_P g.tO, g.p1, e1, bv_S, gd_P g1.t, bn_C e2, if_neg (by decide), gd_P g2.t, bn_C e3, if_neg (by decide)]
  rfl
theorem vSticks (hd : ds.length < 400) : Rd hb K (fun h => gG (n + 1) 5 h 254 x y) (2 :: 55 :: r) ds ps r (ds ++ [(2, ps + 1)]) (ps + 2) := by
  intro h g
  obtain ⟨h1, e1, g1⟩ := adn (k := 2) (v := ps + 1) g hd
  obtain ⟨h2, e2, g2⟩ := rdy g1 (by decide)
  obtain ⟨h3, e3, g3⟩ := rdy g2 (by decide)
  refine ⟨h3, ?_, g3⟩
  show f_Grammar_readsValue (gG n) h 254 x = _
  unfold f_Grammar_readsValue
  rw [gd_P g.t, g.cu, lq_E, if_pos rfl, g.r1, gd_P g.tO, g.p1, e1, bv_S, gd_P g1.t, bn_C e2, if_neg (by decide), gd_P g2.t, bn_C e3, if_neg (by decide)]
  rfl
theorem vStore (hd : ds.length < 400) (hk : isGr k) : Rd hb K (fun h => gG (n + 1) 5 h 254 x y) (31 :: k :: r) ds ps r (ds ++ [(31, ps + 1)]) (ps + 2) := by
  intro h g
  obtain ⟨h1, e1, g1⟩ := adn (k := 31) (v := ps + 1) g hd
  obtain ⟨h2, e2, g2⟩ := rdy g1 (by decide)
  obtain ⟨h3, e3, g3⟩ := rdy g2 (by unfold isGr at hk; omega)
  refine ⟨h3, ?_, g3⟩
  show f_Grammar_readsValue (gG n) h 254 x = _
  unfold f_Grammar_readsValue
  rw [gd_P g.t, g.cu, lq_E, if_neg (by decide), if_neg (by decide), if_neg (by decide), if_neg (by decide), if_neg (by decide), if_neg (by decide), if_neg (by decide), if_neg (by decide), if_neg (by decide), if_neg (by decide), if_neg (by decide), if_neg (by decide), if_neg (by decide), if_neg (by decide), if_neg (by decide), if_neg (by decide), if_neg (by decide), if_neg (by decide), if_neg (by decide), if_neg (by decide), if_neg (by decide), if_neg (by decide), if_neg (by decide), if_neg (by decide), if_neg (by decide), if_neg (by decide), if_neg (by decide), if_neg (by decide), if_neg (by decide), if_pos rfl, g.r1, gd_P g.tO, g.p1, e1, bv_S, gd_P g1.t, bn_C e2, if_neg (by decide), gd_P g2.t, g2.cu, bn_C (isGrade_y hk), if_neg (by decide), gd_P g2.t, g2.cu, bn_C e3, if_neg (by decide)]
  rfl
theorem vPrice (hd : ds.length < 400) (hk : isGr k) : Rd hb K (fun h => gG (n + 1) 5 h 254 x y) (17 :: k :: r) ds ps r (ds ++ [(17, ps + 1)]) (ps + 2) := by
  intro h g
  obtain ⟨h1, e1, g1⟩ := adn (k := 17) (v := ps + 1) g hd
  obtain ⟨h2, e2, g2⟩ := rdy g1 (by decide)
  obtain ⟨h3, e3, g3⟩ := rdy g2 (by unfold isGr at hk; omega)
  refine ⟨h3, ?_, g3⟩
  show f_Grammar_readsValue (gG n) h 254 x = _
  unfold f_Grammar_readsValue
  rw [gd_P g.t, g.cu, lq_E, if_neg (by decide), if_neg (by decide), if_neg (by decide), if_neg (by decide), if_neg (by decide), if_neg (by decide), if_neg (by decide), if_neg (by decide), if_neg (by decide), if_neg (by decide), if_neg (by decide), if_neg (by decide), if_neg (by decide), if_neg (by decide), if_neg (by decide), if_pos rfl, g.r1, gd_P g.tO, g.p1, e1, bv_S, gd_P g1.t, bn_C e2, if_neg (by decide), gd_P g2.t, g2.cu, bn_C (isGrade_y hk), if_neg (by decide), gd_P g2.t, g2.cu, bn_C e3, if_neg (by decide)]
  rfl
theorem pend (g : GSt hb K r ds ps h) (h1 : nth r 0 ≠ 48) (h2 : nth r 0 ≠ 49) (G : Nat → AH → Nat → Int32 → Int32 → Option (AH × Int32)) {a2 : Int32} (k12 : AH → Nat → Int32 → Int32 → Option (AH × Int32)) (ha : ¬ nI 400 ≤ a2) : f_Grammar_readsProduct_b12 G k12 h 254 x a2 = some (h, iI 1) := by
  have := g.k100
  unfold f_Grammar_readsProduct_b12
  rw [if_neg ha, gd_P g.t, g.cuN, if_neg (nI_ne2 (by omega) (by omega) h1), if_pos (nI_ne2 (by omega) (by omega) h2), nI_L]
theorem p1 {r' : List Nat} {ds' : List (Nat × Nat)} {ps' : Nat} (v : Rd hb K (fun h => gG n 5 h 254 x (nI 0)) r ds ps r' ds' ps') (h1 : nth r' 0 ≠ 48) (h2 : nth r' 0 ≠ 49) : Rd hb K (fun h => gG (n + 1) 4 h 254 x y) r ds ps r' ds' ps' := by
  intro h g
  obtain ⟨h', e, g'⟩ := v h g
  refine ⟨h', ?_, g'⟩
  show f_Grammar_readsProduct (gG n) h 254 x = _
  unfold f_Grammar_readsProduct
  rw [gd_P g.t, bn_C e, if_pos (by decide)]
  exact pend g' h1 h2 (gG n) _ (by decide)
theorem p2 {r1 r2 : List Nat} {ds1 ds2 : List (Nat × Nat)} {ps1 ps2 : Nat} (v : Rd hb K (fun h => gG n 5 h 254 x (nI 0)) r ds ps (k :: r1) ds1 ps1) (hk : k = 48 ∨ k = 49) (v2 : Rd hb K (fun h => gG n 5 h 254 x (nI 0)) r1 ds1 (ps1 + 1) r2 ds2 ps2) (hd : ds2.length < 400) (h1 : nth r2 0 ≠ 48) (h2 : nth r2 0 ≠ 49) : Rd hb K (fun h => gG (n + 1) 4 h 254 x y) r ds ps r2 (ds2 ++ [(k, ps2)]) ps2 := by
  intro h g
  obtain ⟨ha, e, ga⟩ := v h g
  obtain ⟨hc, ec, gc⟩ := rdy ga (by omega)
  obtain ⟨hd', ed, gd'⟩ := v2 hc gc
  obtain ⟨he, ee, ge⟩ := adn (k := k) (v := ps2) gd' hd
  refine ⟨he, ?_, ge⟩
  show f_Grammar_readsProduct (gG n) h 254 x = _
  unfold f_Grammar_readsProduct
  rw [gd_P g.t, bn_C e, if_pos (by decide)]
  have e37 : f_Grammar_readsProduct_b37 (gG n) (f_Grammar_readsProduct_l12 (gG n) 99999) ha 254 x (nI 0) = some (he, iI 1) := by
    unfold f_Grammar_readsProduct_b37
    rw [gd_P ga.t, ga.cu, lq_E, bn_C ec, if_neg (by decide), gd_P gc.t, bn_C ed, if_pos (by decide), gd_P gd'.t, gd'.r1, gd_P gd'.tO, gd'.pz, ee, bv_S, lq_E]
    exact pend ge h1 h2 (gG n) _ (by decide)
  show f_Grammar_readsProduct_b12 (gG n) (f_Grammar_readsProduct_l12 (gG n) 99999) ha 254 x (nI 0) = _
  unfold f_Grammar_readsProduct_b12
  rw [if_neg (by decide), gd_P ga.t, ga.cu]
  rcases hk with rfl | rfl
  · rw [if_pos rfl, e37]
  · rw [if_neg (by decide), if_neg (by decide), e37]
theorem send (g : GSt hb K r ds ps h) (h1 : nth r 0 ≠ 46) (h2 : nth r 0 ≠ 47) (G : Nat → AH → Nat → Int32 → Int32 → Option (AH × Int32)) {a2 : Int32} (k12 : AH → Nat → Int32 → Int32 → Option (AH × Int32)) (ha : ¬ nI 400 ≤ a2) : f_Grammar_readsSum_b12 G k12 h 254 x a2 = some (h, iI 1) := by
  have := g.k100
  unfold f_Grammar_readsSum_b12
  rw [if_neg ha, gd_P g.t, g.cuN, if_neg (nI_ne2 (by omega) (by omega) h1), if_pos (nI_ne2 (by omega) (by omega) h2), nI_L]
theorem s1 {r' : List Nat} {ds' : List (Nat × Nat)} {ps' : Nat} (v : Rd hb K (fun h => gG n 4 h 254 x (nI 0)) r ds ps r' ds' ps') (h1 : nth r' 0 ≠ 46) (h2 : nth r' 0 ≠ 47) : Rd hb K (fun h => gG (n + 1) 3 h 254 x y) r ds ps r' ds' ps' := by
  intro h g
  obtain ⟨h', e, g'⟩ := v h g
  refine ⟨h', ?_, g'⟩
  show f_Grammar_readsSum (gG n) h 254 x = _
  unfold f_Grammar_readsSum
  rw [gd_P g.t, bn_C e, if_pos (by decide)]
  exact send g' h1 h2 (gG n) _ (by decide)
theorem s2 {r1 r2 : List Nat} {ds1 ds2 : List (Nat × Nat)} {ps1 ps2 : Nat} (v : Rd hb K (fun h => gG n 4 h 254 x (nI 0)) r ds ps (k :: r1) ds1 ps1) (hk : k = 46 ∨ k = 47) (v2 : Rd hb K (fun h => gG n 4 h 254 x (nI 0)) r1 ds1 (ps1 + 1) r2 ds2 ps2) (hd : ds2.length < 400) (h1 : nth r2 0 ≠ 46) (h2 : nth r2 0 ≠ 47) : Rd hb K (fun h => gG (n + 1) 3 h 254 x y) r ds ps r2 (ds2 ++ [(k, ps2)]) ps2 := by
  intro h g
  obtain ⟨ha, e, ga⟩ := v h g
  obtain ⟨hc, ec, gc⟩ := rdy ga (by omega)
  obtain ⟨hd', ed, gd'⟩ := v2 hc gc
  obtain ⟨he, ee, ge⟩ := adn (k := k) (v := ps2) gd' hd
  refine ⟨he, ?_, ge⟩
  show f_Grammar_readsSum (gG n) h 254 x = _
  unfold f_Grammar_readsSum
  rw [gd_P g.t, bn_C e, if_pos (by decide)]
  have e37 : f_Grammar_readsSum_b37 (gG n) (f_Grammar_readsSum_l12 (gG n) 99999) ha 254 x (nI 0) = some (he, iI 1) := by
    unfold f_Grammar_readsSum_b37
    rw [gd_P ga.t, ga.cu, lq_E, bn_C ec, if_neg (by decide), gd_P gc.t, bn_C ed, if_pos (by decide), gd_P gd'.t, gd'.r1, gd_P gd'.tO, gd'.pz, ee, bv_S, lq_E]
    exact send ge h1 h2 (gG n) _ (by decide)
  show f_Grammar_readsSum_b12 (gG n) (f_Grammar_readsSum_l12 (gG n) 99999) ha 254 x (nI 0) = _
  unfold f_Grammar_readsSum_b12
  rw [if_neg (by decide), gd_P ga.t, ga.cu]
  rcases hk with rfl | rfl
  · rw [if_pos rfl, e37]
  · rw [if_neg (by decide), if_neg (by decide), e37]
end

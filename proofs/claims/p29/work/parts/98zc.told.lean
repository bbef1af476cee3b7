/-! 98zc L3: what a name or a number told does (written by l3/gen98zc.py) -/
section
variable {hb : AH} {ts : List Tok} {L0 : Nat} {M : GM} {i : Nat} {h : AH}
def mA0 (x : Nat) (M : GM) : GM := up2 M 0 (6 + 0) ((x + 1 : Nat) : Int)
def mA1 (x : Nat) (M : GM) : GM := up2 (up2 (up2 M 0 (6 + 1) ((x + 1 : Nat) : Int)) (11 + 5 * x) 1 0) (11 + 5 * x) 2 0
def mA2 (x : Nat) (M : GM) : GM := up2 (up2 (up2 (up2 (up2 M 0 (6 + 2) ((x + 1 : Nat) : Int)) (31 + x) 3 20) (31 + x) 4 0) (31 + x) 5 0) (31 + x) 6 0
def mA3 (x : Nat) (M : GM) : GM := up2 (up2 (up2 (up2 (up2 (up2 M 0 (6 + 3) ((x + 1 : Nat) : Int)) (39 + x) 2 0) (39 + x) 3 0) (39 + x) 4 0) (39 + x) 5 (-1)) (39 + x) 6 0
theorem at_H (g : NSt hb ts L0 M i h) (a x : Nat) (ha : a < 4) : hT (wI (wJ h (313 + 2 * a) x (nmw a x)) (312 + 2 * a) 1 (iI ((x + 1 : Nat) : Int))) 265 = 3 ∧ ∀ s, hI (wI (wJ h (313 + 2 * a) x (nmw a x)) (312 + 2 * a) 1 (iI ((x + 1 : Nat) : Int))) 265 s = hI h 265 s := ⟨g.tr, fun s => (hI_wn _ _ _ _ _ _ (by omega)).trans rfl⟩
theorem hT_wi (h : AH) (a k : Nat) (v : Int32) : hT (wI h a k v) = hT h := rfl
theorem hR_wi (h : AH) (a k : Nat) (v : Int32) : hR (wI h a k v) = hR h := rfl
theorem clear5 {h : AH} {c : Nat} (t : hT h c = 5) : f_Rack_clear h c = some (wI (wI h c 1 (iI 0)) c 2 (iI 0)) := by
  unfold f_Rack_clear
  rw [gd_P t, lq_E, gd_P (by rw [hT_wi]; exact t), lq_E, nI_L]
theorem clear7 {h : AH} {c : Nat} (t : hT h c = 6) : f_Peeler_clear h c = some (wI (wI (wI (wI h c 3 (iI 20)) c 4 (iI 0)) c 5 (iI 0)) c 6 (iI 0)) := by
  have n0 : nI 0 = iI 0 := rfl
  have n20 : nI 20 = iI 20 := rfl
  unfold f_Peeler_clear
  rw [gd_P t, lq_E, n0, n20, gd_P (by rw [hT_wi]; exact t), lq_E, gd_P (by rw [hT_wi, hT_wi]; exact t), lq_E, gd_P ⟨by rw [hT_wi, hT_wi, hT_wi]; exact t, Or.inl rfl⟩, lq_E]
theorem clear11 {h : AH} {c : Nat} (t : hT h c = 7) : f_Boat_clear h c = some (wI (wI (wI (wI (wI h c 2 (iI 0)) c 3 (iI 0)) c 4 (iI 0)) c 5 (iI (-1))) c 6 (iI 0)) := by
  have n0 : nI 0 = iI 0 := rfl
  have n1 : -nI 1 = iI (-1) := by rw [nI_L, iI_neg]
  unfold f_Boat_clear
  rw [gd_P t, lq_E, n0, n1, gd_P (by rw [hT_wi]; exact t), lq_E, gd_P (by rw [hT_wi, hT_wi]; exact t), lq_E, gd_P (by rw [hT_wi, hT_wi, hT_wi]; exact t), lq_E, gd_P (by rw [hT_wi, hT_wi, hT_wi, hT_wi]; exact t), lq_E]
theorem one1 {H : AH} {x : Nat} (H3 : hT H 265 = 3) (e0 : hI H 265 6 = iI (x : Int)) (hx2 : x < 4) : f_River_addOne H 265 (nI 1) = some (wI H 265 6 (iI ((x + 1 : Nat) : Int))) := by
  have e1 : hI H 265 6 + nI 1 = iI ((x + 1 : Nat) : Int) := by rw [e0, nI_L, iI_add]; rfl
  have nx : ¬ nI 4 ≤ hI H 265 6 := by rw [e0, nI_L, iI_le (by omega) (by omega) (by omega) (by omega)]; omega
  unfold f_River_addOne
  rw [if_neg (by decide), gd_P H3, if_neg nx, e1, lq_E]
theorem laA1 {t0 u : Tok} {j x : Nat} (q0 : ts[i]? = some t0) (hj : j + 1 = i) (qj : ts[j]? = some u) (tk : t0.1 = 55) (uk : u.1 = 1) (tv : t0.2.1 = lt 0 * 16 + x) (hx : M 0 (6 + 0) = (x : Int)) (hx2 : x < 4) (hL : i < L0) : LA ts L0 M i (mA0 x M) := by
  intro hb h t q g e7
  rw [q0] at q
  obtain rfl := Option.some.inj q
  obtain ⟨H3, HI⟩ := at_H g 0 x (by omega)
  have g1 := g.add (a := 0) (by omega) hx (by show x < 4; omega)
  have en0 : ∀ h', f_River_addOne (wI (wJ h (313 + 2 * 0) x (nmw 0 x)) (312 + 2 * 0) 1 (iI ((x + 1 : Nat) : Int))) 265 (nI 1) = some h' → f_Names_addName h 253 (312 + 2 * 0) (nI 1) = some (h', iI 0) := fun h' ea => addName_E (a := 0) g (by omega) hx (by show x < 4; omega) e7 q0 tk tv ea
  have er : hR h 253 3 = 312 + 2 * 0 := g.rr (k := 0) (by omega)
  generalize eH : (wI (wJ h (313 + 2 * 0) x (nmw 0 x)) (312 + 2 * 0) 1 (iI ((x + 1 : Nat) : Int))) = H at *
  obtain ⟨H2, eH2⟩ : ∃ H2, H2 = wI H 265 (6 + 0) (iI ((x + 1 : Nat) : Int)) := ⟨_, rfl⟩
  rw [← eH2] at g1
  have g2 : NSt hb ts L0 (mA0 x M) i H2 := g1
  have ea : f_River_addOne H 265 (nI 1) = some H2 := one1 H3 ((HI 6).trans (g.m hx)) hx2 |>.trans (by rw [eH2])
  have en : f_Names_lookAtName h 253 (nI u.1) = some (H2, iI 0) := by
    unfold f_Names_lookAtName
    rw [uk, if_pos rfl, gd_P g.t, er, bn_C (en0 _ ea)]
  exact ⟨_, atName g e7 q0 tk hj qj en, g2.next q0 fun q => by omega⟩
theorem one5 {H H2 : AH} {x : Nat} (H3 : hT H 265 = 3) (e0 : hI H 265 7 = iI (x : Int)) (hx2 : x < 4) (g1 : NSt hb ts L0 M i H2) (hm : M 0 7 = ((x + 1 : Nat) : Int)) (eH : H2 = wI H 265 7 (iI ((x + 1 : Nat) : Int))) : f_River_addOne H 265 (nI 5) = some (wI (wI H2 (265 + (11 + 5 * x)) 1 (iI 0)) (265 + (11 + 5 * x)) 2 (iI 0)) := by
  have e1 : hI H 265 7 + nI 1 = iI ((x + 1 : Nat) : Int) := by rw [e0, nI_L, iI_add]; rfl
  have nx : ¬ nI 4 ≤ hI H 265 7 := by rw [e0, nI_L, iI_le (by omega) (by omega) (by omega) (by omega)]; omega
  unfold f_River_addOne
  rw [if_pos (by decide)]
  unfold f_River_addOne_b26
  rw [if_neg (by decide), gd_P H3, if_neg nx, e1, lq_E, ← eH, gd_P g1.tr, bn_C (latestRack_E g1 hm hx2), gd_P (g1.skr.kT hx2), clear5 (g1.skr.kT hx2), bv_S]
theorem laA5 {t0 u : Tok} {j x : Nat} (q0 : ts[i]? = some t0) (hj : j + 1 = i) (qj : ts[j]? = some u) (tk : t0.1 = 55) (uk : u.1 = 5) (tv : t0.2.1 = lt 1 * 16 + x) (hx : M 0 (6 + 1) = (x : Int)) (hx2 : x < 4) (hL : i < L0) : LA ts L0 M i (mA1 x M) := by
  intro hb h t q g e7
  rw [q0] at q
  obtain rfl := Option.some.inj q
  obtain ⟨H3, HI⟩ := at_H g 1 x (by omega)
  have g1 := g.add (a := 1) (by omega) hx (by show x < 4; omega)
  have en0 : ∀ h', f_River_addOne (wI (wJ h (313 + 2 * 1) x (nmw 1 x)) (312 + 2 * 1) 1 (iI ((x + 1 : Nat) : Int))) 265 (nI 5) = some h' → f_Names_addName h 253 (312 + 2 * 1) (nI 5) = some (h', iI 0) := fun h' ea => addName_E (a := 1) g (by omega) hx (by show x < 4; omega) e7 q0 tk tv ea
  have er : hR h 253 4 = 312 + 2 * 1 := g.rr (k := 1) (by omega)
  generalize eH : (wI (wJ h (313 + 2 * 1) x (nmw 1 x)) (312 + 2 * 1) 1 (iI ((x + 1 : Nat) : Int))) = H at *
  obtain ⟨H2, eH2⟩ : ∃ H2, H2 = wI H 265 (6 + 1) (iI ((x + 1 : Nat) : Int)) := ⟨_, rfl⟩
  rw [← eH2] at g1
  have g2 : NSt hb ts L0 (mA1 x M) i (wI (wI H2 (265 + (11 + 5 * x)) 1 (iI 0)) (265 + (11 + 5 * x)) 2 (iI 0)) := ((g1).w (c := 11 + 5 * x) (s := 1) (v := 0) (by omega) (by omega)).w (c := 11 + 5 * x) (s := 2) (v := 0) (by omega) (by omega)
  have ea : f_River_addOne H 265 (nI 5) = some (wI (wI H2 (265 + (11 + 5 * x)) 1 (iI 0)) (265 + (11 + 5 * x)) 2 (iI 0)) := one5 H3 ((HI 7).trans (g.m hx)) hx2 g1 (up2_e _ _ _ _) eH2
  have en : f_Names_lookAtName h 253 (nI u.1) = some ((wI (wI H2 (265 + (11 + 5 * x)) 1 (iI 0)) (265 + (11 + 5 * x)) 2 (iI 0)), iI 0) := by
    unfold f_Names_lookAtName
    rw [uk, if_neg (by decide), if_neg (by decide), if_neg (by decide), if_neg (by decide), if_pos rfl, gd_P g.t, er, bn_C (en0 _ ea)]
  exact ⟨_, atName g e7 q0 tk hj qj en, g2.next q0 fun q => by omega⟩
theorem one7 {H H2 : AH} {x : Nat} (H3 : hT H 265 = 3) (e0 : hI H 265 8 = iI (x : Int)) (hx2 : x < 8) (g1 : NSt hb ts L0 M i H2) (hm : M 0 8 = ((x + 1 : Nat) : Int)) (eH : H2 = wI H 265 8 (iI ((x + 1 : Nat) : Int))) : f_River_addOne H 265 (nI 7) = some (wI (wI (wI (wI H2 (265 + (31 + x)) 3 (iI 20)) (265 + (31 + x)) 4 (iI 0)) (265 + (31 + x)) 5 (iI 0)) (265 + (31 + x)) 6 (iI 0)) := by
  have e1 : hI H 265 8 + nI 1 = iI ((x + 1 : Nat) : Int) := by rw [e0, nI_L, iI_add]; rfl
  have nx : ¬ nI 8 ≤ hI H 265 8 := by rw [e0, nI_L, iI_le (by omega) (by omega) (by omega) (by omega)]; omega
  unfold f_River_addOne
  rw [if_pos (by decide)]
  unfold f_River_addOne_b26
  rw [if_pos (by decide)]
  unfold f_River_addOne_b59
  rw [if_neg (by decide), gd_P H3, if_neg nx, e1, lq_E, ← eH, gd_P g1.tr, bn_C (latestPeeler_E g1 hm hx2), gd_P (g1.skr.pT hx2), clear7 (g1.skr.pT hx2), bv_S]
theorem laA7 {t0 u : Tok} {j x : Nat} (q0 : ts[i]? = some t0) (hj : j + 1 = i) (qj : ts[j]? = some u) (tk : t0.1 = 55) (uk : u.1 = 7) (tv : t0.2.1 = lt 2 * 16 + x) (hx : M 0 (6 + 2) = (x : Int)) (hx2 : x < 8) (hL : i < L0) : LA ts L0 M i (mA2 x M) := by
  intro hb h t q g e7
  rw [q0] at q
  obtain rfl := Option.some.inj q
  obtain ⟨H3, HI⟩ := at_H g 2 x (by omega)
  have g1 := g.add (a := 2) (by omega) hx (by show x < 8; omega)
  have en0 : ∀ h', f_River_addOne (wI (wJ h (313 + 2 * 2) x (nmw 2 x)) (312 + 2 * 2) 1 (iI ((x + 1 : Nat) : Int))) 265 (nI 7) = some h' → f_Names_addName h 253 (312 + 2 * 2) (nI 7) = some (h', iI 0) := fun h' ea => addName_E (a := 2) g (by omega) hx (by show x < 8; omega) e7 q0 tk tv ea
  have er : hR h 253 5 = 312 + 2 * 2 := g.rr (k := 2) (by omega)
  generalize eH : (wI (wJ h (313 + 2 * 2) x (nmw 2 x)) (312 + 2 * 2) 1 (iI ((x + 1 : Nat) : Int))) = H at *
  obtain ⟨H2, eH2⟩ : ∃ H2, H2 = wI H 265 (6 + 2) (iI ((x + 1 : Nat) : Int)) := ⟨_, rfl⟩
  rw [← eH2] at g1
  have g2 : NSt hb ts L0 (mA2 x M) i (wI (wI (wI (wI H2 (265 + (31 + x)) 3 (iI 20)) (265 + (31 + x)) 4 (iI 0)) (265 + (31 + x)) 5 (iI 0)) (265 + (31 + x)) 6 (iI 0)) := ((((g1).w (c := 31 + x) (s := 3) (v := 20) (by omega) (by omega)).w (c := 31 + x) (s := 4) (v := 0) (by omega) (by omega)).w (c := 31 + x) (s := 5) (v := 0) (by omega) (by omega)).w (c := 31 + x) (s := 6) (v := 0) (by omega) (by omega)
  have ea : f_River_addOne H 265 (nI 7) = some (wI (wI (wI (wI H2 (265 + (31 + x)) 3 (iI 20)) (265 + (31 + x)) 4 (iI 0)) (265 + (31 + x)) 5 (iI 0)) (265 + (31 + x)) 6 (iI 0)) := one7 H3 ((HI 8).trans (g.m hx)) hx2 g1 (up2_e _ _ _ _) eH2
  have en : f_Names_lookAtName h 253 (nI u.1) = some ((wI (wI (wI (wI H2 (265 + (31 + x)) 3 (iI 20)) (265 + (31 + x)) 4 (iI 0)) (265 + (31 + x)) 5 (iI 0)) (265 + (31 + x)) 6 (iI 0)), iI 0) := by
    unfold f_Names_lookAtName
    rw [uk, if_neg (by decide), if_neg (by decide), if_neg (by decide), if_neg (by decide), if_neg (by decide), if_neg (by decide), if_pos rfl, gd_P g.t, er, bn_C (en0 _ ea)]
  exact ⟨_, atName g e7 q0 tk hj qj en, g2.next q0 fun q => by omega⟩
theorem one11 {H H2 : AH} {x : Nat} (H3 : hT H 265 = 3) (e0 : hI H 265 9 = iI (x : Int)) (hx2 : x < 4) (g1 : NSt hb ts L0 M i H2) (hm : M 0 9 = ((x + 1 : Nat) : Int)) (eH : H2 = wI H 265 9 (iI ((x + 1 : Nat) : Int))) : f_River_addOne H 265 (nI 11) = some (wI (wI (wI (wI (wI H2 (265 + (39 + x)) 2 (iI 0)) (265 + (39 + x)) 3 (iI 0)) (265 + (39 + x)) 4 (iI 0)) (265 + (39 + x)) 5 (iI (-1))) (265 + (39 + x)) 6 (iI 0)) := by
  have e1 : hI H 265 9 + nI 1 = iI ((x + 1 : Nat) : Int) := by rw [e0, nI_L, iI_add]; rfl
  have nx : ¬ nI 4 ≤ hI H 265 9 := by rw [e0, nI_L, iI_le (by omega) (by omega) (by omega) (by omega)]; omega
  unfold f_River_addOne
  rw [if_pos (by decide)]
  unfold f_River_addOne_b26
  rw [if_pos (by decide)]
  unfold f_River_addOne_b59
  rw [if_pos (by decide)]
  unfold f_River_addOne_b94
  rw [if_neg (by decide), gd_P H3, if_neg nx, e1, lq_E, ← eH, gd_P g1.tr, bn_C (latestBoat_E g1 hm hx2), gd_P (g1.skr.bT hx2), clear11 (g1.skr.bT hx2), bv_S]
theorem laA11 {t0 u : Tok} {j x : Nat} (q0 : ts[i]? = some t0) (hj : j + 1 = i) (qj : ts[j]? = some u) (tk : t0.1 = 55) (uk : u.1 = 11) (tv : t0.2.1 = lt 3 * 16 + x) (hx : M 0 (6 + 3) = (x : Int)) (hx2 : x < 4) (hL : i < L0) : LA ts L0 M i (mA3 x M) := by
  intro hb h t q g e7
  rw [q0] at q
  obtain rfl := Option.some.inj q
  obtain ⟨H3, HI⟩ := at_H g 3 x (by omega)
  have g1 := g.add (a := 3) (by omega) hx (by show x < 4; omega)
  have en0 : ∀ h', f_River_addOne (wI (wJ h (313 + 2 * 3) x (nmw 3 x)) (312 + 2 * 3) 1 (iI ((x + 1 : Nat) : Int))) 265 (nI 11) = some h' → f_Names_addName h 253 (312 + 2 * 3) (nI 11) = some (h', iI 0) := fun h' ea => addName_E (a := 3) g (by omega) hx (by show x < 4; omega) e7 q0 tk tv ea
  have er : hR h 253 6 = 312 + 2 * 3 := g.rr (k := 3) (by omega)
  generalize eH : (wI (wJ h (313 + 2 * 3) x (nmw 3 x)) (312 + 2 * 3) 1 (iI ((x + 1 : Nat) : Int))) = H at *
  obtain ⟨H2, eH2⟩ : ∃ H2, H2 = wI H 265 (6 + 3) (iI ((x + 1 : Nat) : Int)) := ⟨_, rfl⟩
  rw [← eH2] at g1
  have g2 : NSt hb ts L0 (mA3 x M) i (wI (wI (wI (wI (wI H2 (265 + (39 + x)) 2 (iI 0)) (265 + (39 + x)) 3 (iI 0)) (265 + (39 + x)) 4 (iI 0)) (265 + (39 + x)) 5 (iI (-1))) (265 + (39 + x)) 6 (iI 0)) := (((((g1).w (c := 39 + x) (s := 2) (v := 0) (by omega) (by omega)).w (c := 39 + x) (s := 3) (v := 0) (by omega) (by omega)).w (c := 39 + x) (s := 4) (v := 0) (by omega) (by omega)).w (c := 39 + x) (s := 5) (v := (-1)) (by omega) (by omega)).w (c := 39 + x) (s := 6) (v := 0) (by omega) (by omega)
  have ea : f_River_addOne H 265 (nI 11) = some (wI (wI (wI (wI (wI H2 (265 + (39 + x)) 2 (iI 0)) (265 + (39 + x)) 3 (iI 0)) (265 + (39 + x)) 4 (iI 0)) (265 + (39 + x)) 5 (iI (-1))) (265 + (39 + x)) 6 (iI 0)) := one11 H3 ((HI 9).trans (g.m hx)) hx2 g1 (up2_e _ _ _ _) eH2
  have en : f_Names_lookAtName h 253 (nI u.1) = some ((wI (wI (wI (wI (wI H2 (265 + (39 + x)) 2 (iI 0)) (265 + (39 + x)) 3 (iI 0)) (265 + (39 + x)) 4 (iI 0)) (265 + (39 + x)) 5 (iI (-1))) (265 + (39 + x)) 6 (iI 0)), iI 0) := by
    unfold f_Names_lookAtName
    rw [uk, if_neg (by decide), if_neg (by decide), if_neg (by decide), if_neg (by decide), if_neg (by decide), if_neg (by decide), if_neg (by decide), if_neg (by decide), if_neg (by decide), if_neg (by decide), if_pos rfl, gd_P g.t, er, bn_C (en0 _ ea)]
  exact ⟨_, atName g e7 q0 tk hj qj en, g2.next q0 fun q => by omega⟩
theorem laP8 {t0 u : Tok} {j x v y : Nat} (q0 : ts[i]? = some t0) (hj : j + 1 = i) (qj : ts[j]? = some u) (tk : t0.1 = 55) (uk : u.1 = 8) (tv : t0.2.1 = lt 0 * 16 + v) (hx : M 0 (6 + 0) = (x : Int)) (hv : v < x) (hv2 : v < 16) (hy : M 0 8 = ((y + 1 : Nat) : Int)) (hy2 : y < 8) : LA ts L0 M i (up2 M (31 + y) 0 (v : Int)) := by
  intro hb h t q g e7
  rw [q0] at q
  obtain rfl := Option.some.inj q
  have hl := g.len
  have q2 := (nth_ks q0).2
  have ef := findName_E (a := 0) g (by omega) hx hv e7 q0 tk tv
  have er : hR h 253 3 = 312 + 2 * 0 := g.rr (k := 0) (by omega)
  have g1 := g.num q0 (by omega) (iI (v : Int))
  have g2 := g1.w (c := 31 + y) (s := 0) (v := (v : Int)) (by omega) (by omega)
  have e7' : hI (wI h 259 i (iI (v : Int))) 253 7 = iI (i : Int) := (hI_wn _ _ _ _ _ _ (by omega)).trans e7
  have enb : f_Tokens_numberOf (wI h 259 i (iI (v : Int))) 255 (iI (i : Int)) = some (wI h 259 i (iI (v : Int)), iI (v : Int)) := by rw [numberOf_T g1.skt (by omega), hI_we]
  have es : f_Names_setGardenOfPeeler h 253 = some (wI (wI h 259 i (iI (v : Int))) (265 + (31 + y)) 0 (iI (v : Int)), iI 0) := by
    unfold f_Names_setGardenOfPeeler
    rw [gd_P g.t, er, bn_C ef, gd_P g1.t, g1.r2, gd_P g1.tr, bn_C (latestPeeler_E g1 hy hy2), gd_P g1.t, g1.r1, gd_P g1.tt, e7', bn_C enb, gd_P (g1.skr.pT hy2), lq_E]
  have en : f_Names_lookAtName h 253 (nI u.1) = some (wI (wI h 259 i (iI (v : Int))) (265 + (31 + y)) 0 (iI (v : Int)), iI 0) := by
    unfold f_Names_lookAtName
    rw [uk, if_neg (by decide), if_neg (by decide), if_neg (by decide), if_neg (by decide), if_neg (by decide), if_neg (by decide), if_neg (by decide), if_pos rfl, gd_P g.t, bn_C es]
  refine ⟨_, atName g e7 q0 tk hj qj en, g2.next q0 fun _ => ⟨fun _ => ?_, fun q => by omega⟩⟩
  rw [hI_wn _ _ _ _ _ _ (by omega), hI_we, tv, show (lt 0 * 16 + v) % 16 = v by omega]
theorem laP9 {t0 u : Tok} {j x v y : Nat} (q0 : ts[i]? = some t0) (hj : j + 1 = i) (qj : ts[j]? = some u) (tk : t0.1 = 55) (uk : u.1 = 9) (tv : t0.2.1 = lt 1 * 16 + v) (hx : M 0 (6 + 1) = (x : Int)) (hv : v < x) (hv2 : v < 16) (hy : M 0 8 = ((y + 1 : Nat) : Int)) (hy2 : y < 8) : LA ts L0 M i (up2 M (31 + y) 1 (v : Int)) := by
  intro hb h t q g e7
  rw [q0] at q
  obtain rfl := Option.some.inj q
  have hl := g.len
  have q2 := (nth_ks q0).2
  have ef := findName_E (a := 1) g (by omega) hx hv e7 q0 tk tv
  have er : hR h 253 4 = 312 + 2 * 1 := g.rr (k := 1) (by omega)
  have g1 := g.num q0 (by omega) (iI (v : Int))
  have g2 := g1.w (c := 31 + y) (s := 1) (v := (v : Int)) (by omega) (by omega)
  have e7' : hI (wI h 259 i (iI (v : Int))) 253 7 = iI (i : Int) := (hI_wn _ _ _ _ _ _ (by omega)).trans e7
  have enb : f_Tokens_numberOf (wI h 259 i (iI (v : Int))) 255 (iI (i : Int)) = some (wI h 259 i (iI (v : Int)), iI (v : Int)) := by rw [numberOf_T g1.skt (by omega), hI_we]
  have es : f_Names_setRackOfPeeler h 253 = some (wI (wI h 259 i (iI (v : Int))) (265 + (31 + y)) 1 (iI (v : Int)), iI 0) := by
    unfold f_Names_setRackOfPeeler
    rw [gd_P g.t, er, bn_C ef, gd_P g1.t, g1.r2, gd_P g1.tr, bn_C (latestPeeler_E g1 hy hy2), gd_P g1.t, g1.r1, gd_P g1.tt, e7', bn_C enb, gd_P (g1.skr.pT hy2), lq_E]
  have en : f_Names_lookAtName h 253 (nI u.1) = some (wI (wI h 259 i (iI (v : Int))) (265 + (31 + y)) 1 (iI (v : Int)), iI 0) := by
    unfold f_Names_lookAtName
    rw [uk, if_neg (by decide), if_neg (by decide), if_neg (by decide), if_neg (by decide), if_neg (by decide), if_neg (by decide), if_neg (by decide), if_neg (by decide), if_pos rfl, gd_P g.t, bn_C es]
  refine ⟨_, atName g e7 q0 tk hj qj en, g2.next q0 fun _ => ⟨fun _ => ?_, fun q => by omega⟩⟩
  rw [hI_wn _ _ _ _ _ _ (by omega), hI_we, tv, show (lt 1 * 16 + v) % 16 = v by omega]
theorem outside_E (g : NSt hb ts L0 M i h) (e7 : hI h 253 7 = iI (i : Int)) {t0 : Tok} (q0 : ts[i]? = some t0) (tk : t0.1 = 56) {lo hi : Int} (h1 : lo ≤ (t0.2.1 : Int)) (h2 : (t0.2.1 : Int) ≤ hi) (h3 : -1000000 ≤ lo) (h4 : hi ≤ 1000000) : f_Names_errorOutside h 253 (iI lo) (iI hi) = some (h, iI 0) := by
  unfold f_Names_errorOutside
  rw [gd_P g.t, g.r1, gd_P g.tt, e7, bn_C (g.numb q0 tk), bn_C (isWithin_E h1 h2 h3 h4), if_neg (by decide)]
  rfl
theorem laN2 {t0 u : Tok} {j : Nat} {x : Nat} (hx : M 0 6 = ((x + 1 : Nat) : Int)) (hx2 : x < 4) (q0 : ts[i]? = some t0) (hj : j + 1 = i) (qj : ts[j]? = some u) (tk : t0.1 = 56) (uk : u.1 = 2) (h1 : 0 ≤ t0.2.1) (h2 : t0.2.1 ≤ 99) : LA ts L0 M i (up2 M (7 + x) 0 (t0.2.1 : Int)) := by
  intro hb h t q g e7
  rw [q0] at q
  obtain rfl := Option.some.inj q
  have g1 := g.w (c := 7 + x) (s := 0) (v := (t0.2.1 : Int)) (by omega) (by omega)
  have e7' : hI (wI h (265 + (7 + x)) 0 (iI (t0.2.1 : Int))) 253 7 = iI (i : Int) := (hI_wn _ _ _ _ _ _ (by omega)).trans e7
  have eo := outside_E g1 e7' q0 tk (lo := 0) (hi := 99) (by omega) (by omega) (by decide) (by decide)
  have en : f_Names_lookAtNumber h 253 (nI u.1) (iI (t0.2.1 : Int)) = some (wI h (265 + (7 + x)) 0 (iI (t0.2.1 : Int)), iI 0) := by
    unfold f_Names_lookAtNumber
    rw [uk, if_pos rfl, gd_P g.t, g.r2, gd_P g.tr, bn_C (latestGarden_E g hx hx2), gd_P (g.skr.gT hx2), lq_E, gd_P g1.t, nI_L, nI_L, bn_C eo]
  exact ⟨_, atNum g e7 q0 tk hj qj en, g1.next q0 fun _ => RN.o (by omega) (by omega)⟩
theorem laN3 {t0 u : Tok} {j : Nat} {x : Nat} (hx : M 0 6 = ((x + 1 : Nat) : Int)) (hx2 : x < 4) (q0 : ts[i]? = some t0) (hj : j + 1 = i) (qj : ts[j]? = some u) (tk : t0.1 = 56) (uk : u.1 = 3) (h1 : 0 ≤ t0.2.1) (h2 : t0.2.1 ≤ 20) : LA ts L0 M i (up2 M (7 + x) 1 (t0.2.1 : Int)) := by
  intro hb h t q g e7
  rw [q0] at q
  obtain rfl := Option.some.inj q
  have g1 := g.w (c := 7 + x) (s := 1) (v := (t0.2.1 : Int)) (by omega) (by omega)
  have e7' : hI (wI h (265 + (7 + x)) 1 (iI (t0.2.1 : Int))) 253 7 = iI (i : Int) := (hI_wn _ _ _ _ _ _ (by omega)).trans e7
  have eo := outside_E g1 e7' q0 tk (lo := 0) (hi := 20) (by omega) (by omega) (by decide) (by decide)
  have en : f_Names_lookAtNumber h 253 (nI u.1) (iI (t0.2.1 : Int)) = some (wI h (265 + (7 + x)) 1 (iI (t0.2.1 : Int)), iI 0) := by
    unfold f_Names_lookAtNumber
    rw [uk, if_neg (by decide), if_pos rfl, gd_P g.t, g.r2, gd_P g.tr, bn_C (latestGarden_E g hx hx2), gd_P (g.skr.gT hx2), lq_E, gd_P g1.t, nI_L, nI_L, bn_C eo]
  exact ⟨_, atNum g e7 q0 tk hj qj en, g1.next q0 fun _ => RN.o (by omega) (by omega)⟩
theorem laN4 {t0 u : Tok} {j : Nat} {x : Nat} (hx : M 0 6 = ((x + 1 : Nat) : Int)) (hx2 : x < 4) (q0 : ts[i]? = some t0) (hj : j + 1 = i) (qj : ts[j]? = some u) (tk : t0.1 = 56) (uk : u.1 = 4) (h1 : 1 ≤ t0.2.1) (h2 : t0.2.1 ≤ 9) : LA ts L0 M i (up2 M (7 + x) 2 (t0.2.1 : Int)) := by
  intro hb h t q g e7
  rw [q0] at q
  obtain rfl := Option.some.inj q
  have g1 := g.w (c := 7 + x) (s := 2) (v := (t0.2.1 : Int)) (by omega) (by omega)
  have e7' : hI (wI h (265 + (7 + x)) 2 (iI (t0.2.1 : Int))) 253 7 = iI (i : Int) := (hI_wn _ _ _ _ _ _ (by omega)).trans e7
  have eo := outside_E g1 e7' q0 tk (lo := 1) (hi := 9) (by omega) (by omega) (by decide) (by decide)
  have en : f_Names_lookAtNumber h 253 (nI u.1) (iI (t0.2.1 : Int)) = some (wI h (265 + (7 + x)) 2 (iI (t0.2.1 : Int)), iI 0) := by
    unfold f_Names_lookAtNumber
    rw [uk, if_neg (by decide), if_neg (by decide), if_pos rfl, gd_P g.t, g.r2, gd_P g.tr, bn_C (latestGarden_E g hx hx2), gd_P (g.skr.gT hx2), lq_E, gd_P g1.t, nI_L, nI_L, bn_C eo]
  exact ⟨_, atNum g e7 q0 tk hj qj en, g1.next q0 fun _ => RN.o (by omega) (by omega)⟩
theorem laN10 {t0 u : Tok} {j : Nat} {x : Nat} (hx : M 0 8 = ((x + 1 : Nat) : Int)) (hx2 : x < 8) (q0 : ts[i]? = some t0) (hj : j + 1 = i) (qj : ts[j]? = some u) (tk : t0.1 = 56) (uk : u.1 = 10) (h1 : 1 ≤ t0.2.1) (h2 : t0.2.1 ≤ 9) : LA ts L0 M i (up2 M (31 + x) 2 (t0.2.1 : Int)) := by
  intro hb h t q g e7
  rw [q0] at q
  obtain rfl := Option.some.inj q
  have g1 := g.w (c := 31 + x) (s := 2) (v := (t0.2.1 : Int)) (by omega) (by omega)
  have e7' : hI (wI h (265 + (31 + x)) 2 (iI (t0.2.1 : Int))) 253 7 = iI (i : Int) := (hI_wn _ _ _ _ _ _ (by omega)).trans e7
  have eo := outside_E g1 e7' q0 tk (lo := 1) (hi := 9) (by omega) (by omega) (by decide) (by decide)
  have en : f_Names_lookAtNumber h 253 (nI u.1) (iI (t0.2.1 : Int)) = some (wI h (265 + (31 + x)) 2 (iI (t0.2.1 : Int)), iI 0) := by
    unfold f_Names_lookAtNumber
    rw [uk, if_neg (by decide), if_neg (by decide), if_neg (by decide), if_neg (by decide), if_neg (by decide), if_neg (by decide), if_neg (by decide), if_neg (by decide), if_pos rfl, gd_P g.t, g.r2, gd_P g.tr, bn_C (latestPeeler_E g hx hx2), gd_P (g.skr.pT hx2), lq_E, gd_P g1.t, nI_L, nI_L, bn_C eo]
  exact ⟨_, atNum g e7 q0 tk hj qj en, g1.next q0 fun _ => RN.o (by omega) (by omega)⟩
theorem laN12 {t0 u : Tok} {j : Nat} {x : Nat} (hx : M 0 9 = ((x + 1 : Nat) : Int)) (hx2 : x < 4) (q0 : ts[i]? = some t0) (hj : j + 1 = i) (qj : ts[j]? = some u) (tk : t0.1 = 56) (uk : u.1 = 12) (h1 : 1 ≤ t0.2.1) (h2 : t0.2.1 ≤ 9) : LA ts L0 M i (up2 M (39 + x) 1 (t0.2.1 : Int)) := by
  intro hb h t q g e7
  rw [q0] at q
  obtain rfl := Option.some.inj q
  have g1 := g.w (c := 39 + x) (s := 1) (v := (t0.2.1 : Int)) (by omega) (by omega)
  have e7' : hI (wI h (265 + (39 + x)) 1 (iI (t0.2.1 : Int))) 253 7 = iI (i : Int) := (hI_wn _ _ _ _ _ _ (by omega)).trans e7
  have eo := outside_E g1 e7' q0 tk (lo := 1) (hi := 9) (by omega) (by omega) (by decide) (by decide)
  have en : f_Names_lookAtNumber h 253 (nI u.1) (iI (t0.2.1 : Int)) = some (wI h (265 + (39 + x)) 1 (iI (t0.2.1 : Int)), iI 0) := by
    unfold f_Names_lookAtNumber
    rw [uk, if_neg (by decide), if_neg (by decide), if_neg (by decide), if_neg (by decide), if_neg (by decide), if_neg (by decide), if_neg (by decide), if_neg (by decide), if_neg (by decide), if_neg (by decide), if_pos rfl, gd_P g.t, g.r2, gd_P g.tr, bn_C (latestBoat_E g hx hx2), gd_P (g.skr.bT hx2), lq_E, gd_P g1.t, nI_L, nI_L, bn_C eo]
  exact ⟨_, atNum g e7 q0 tk hj qj en, g1.next q0 fun _ => RN.o (by omega) (by omega)⟩
theorem laN13 {t0 u : Tok} {j : Nat}  (q0 : ts[i]? = some t0) (hj : j + 1 = i) (qj : ts[j]? = some u) (tk : t0.1 = 56) (uk : u.1 = 13) (h1 : 1 ≤ t0.2.1) (h2 : t0.2.1 ≤ 60) : LA ts L0 M i (up2 M (0) 13 (t0.2.1 : Int)) := by
  intro hb h t q g e7
  rw [q0] at q
  obtain rfl := Option.some.inj q
  have g1 := g.w (c := 0) (s := 13) (v := (t0.2.1 : Int)) (by omega) (by omega)
  have e7' : hI (wI h (265 + (0)) 13 (iI (t0.2.1 : Int))) 253 7 = iI (i : Int) := (hI_wn _ _ _ _ _ _ (by omega)).trans e7
  have eo := outside_E g1 e7' q0 tk (lo := 1) (hi := 60) (by omega) (by omega) (by decide) (by decide)
  have en : f_Names_lookAtNumber h 253 (nI u.1) (iI (t0.2.1 : Int)) = some (wI h (265 + (0)) 13 (iI (t0.2.1 : Int)), iI 0) := by
    unfold f_Names_lookAtNumber
    rw [uk, if_neg (by decide), if_neg (by decide), if_neg (by decide), if_neg (by decide), if_neg (by decide), if_neg (by decide), if_neg (by decide), if_neg (by decide), if_neg (by decide), if_neg (by decide), if_neg (by decide), if_pos rfl, gd_P g.t, g.r2, gd_P g.tr, lq_E, gd_P g1.t, nI_L, nI_L, bn_C eo]
  exact ⟨_, atNum g e7 q0 tk hj qj en, g1.next q0 fun _ => RN.o (by omega) (by omega)⟩
theorem laN14 {t0 u : Tok} {j : Nat}  (q0 : ts[i]? = some t0) (hj : j + 1 = i) (qj : ts[j]? = some u) (tk : t0.1 = 56) (uk : u.1 = 14) (h1 : 0 ≤ t0.2.1) (h2 : t0.2.1 ≤ 5) : LA ts L0 M i (up2 M (0) 14 (t0.2.1 : Int)) := by
  intro hb h t q g e7
  rw [q0] at q
  obtain rfl := Option.some.inj q
  have g1 := g.w (c := 0) (s := 14) (v := (t0.2.1 : Int)) (by omega) (by omega)
  have e7' : hI (wI h (265 + (0)) 14 (iI (t0.2.1 : Int))) 253 7 = iI (i : Int) := (hI_wn _ _ _ _ _ _ (by omega)).trans e7
  have eo := outside_E g1 e7' q0 tk (lo := 0) (hi := 5) (by omega) (by omega) (by decide) (by decide)
  have en : f_Names_lookAtNumber h 253 (nI u.1) (iI (t0.2.1 : Int)) = some (wI h (265 + (0)) 14 (iI (t0.2.1 : Int)), iI 0) := by
    unfold f_Names_lookAtNumber
    rw [uk, if_neg (by decide), if_neg (by decide), if_neg (by decide), if_neg (by decide), if_neg (by decide), if_neg (by decide), if_neg (by decide), if_neg (by decide), if_neg (by decide), if_neg (by decide), if_neg (by decide), if_neg (by decide), if_pos rfl, gd_P g.t, g.r2, gd_P g.tr, lq_E, gd_P g1.t, nI_L, nI_L, bn_C eo]
  exact ⟨_, atNum g e7 q0 tk hj qj en, g1.next q0 fun _ => RN.o (by omega) (by omega)⟩
end

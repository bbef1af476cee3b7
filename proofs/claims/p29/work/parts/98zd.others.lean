/-! 98zd L3: numbers of racks and boats, shades, prices, others (written by l3/gen98zd.py) -/
section
variable {hb : AH} {ts : List Tok} {L0 : Nat} {M : GM} {i : Nat} {h : AH}
theorem laN6R {t0 u u3 : Tok} {j j3 x : Nat} (hx : M 0 7 = ((x + 1 : Nat) : Int)) (hx2 : x < 4) (q0 : ts[i]? = some t0) (hj : j + 1 = i) (qj : ts[j]? = some u) (hj3 : j3 + 3 = i) (qj3 : ts[j3]? = some u3) (tk : t0.1 = 56) (uk : u.1 = 6) (uk3 : u3.1 = 5) (h1 : 1 ≤ t0.2.1) (h2 : t0.2.1 ≤ 60) : LA ts L0 M i (up2 M (11 + 5 * x) 0 (t0.2.1 : Int)) := by
  intro hb h t q g e7
  rw [q0] at q
  obtain rfl := Option.some.inj q
  have hl := g.len
  have q2 := (nth_ks q0).2
  have g1 := g.w (c := 11 + 5 * x) (s := 0) (v := (t0.2.1 : Int)) (by omega) (by omega)
  have e7' : hI (wI h (265 + (11 + 5 * x)) 0 (iI (t0.2.1 : Int))) 253 7 = iI (i : Int) := (hI_wn _ _ _ _ _ _ (by omega)).trans e7
  have eo := outside_E g1 e7' q0 tk (lo := 1) (hi := 60) (by omega) (by omega) (by decide) (by decide)
  have e3 : iI (i : Int) - nI 3 = iI (j3 : Int) := by rw [nI_L, iI_sub]; congr 1; omega
  have es : f_Names_setHolds h 253 (iI (t0.2.1 : Int)) = some (wI h (265 + (11 + 5 * x)) 0 (iI (t0.2.1 : Int)), iI 0) := by
    unfold f_Names_setHolds
    rw [gd_P g.t, g.r1, gd_P g.tt, e7, e3, bn_C (g.kind qj3), if_neg (by rw [uk3]; decide), gd_P g.t, g.r2, gd_P g.tr, bn_C (latestRack_E g hx hx2), gd_P (g.skr.kT hx2), lq_E, gd_P g1.t, nI_L, nI_L, bn_C eo]
  have en : f_Names_lookAtNumber h 253 (nI u.1) (iI (t0.2.1 : Int)) = some (wI h (265 + (11 + 5 * x)) 0 (iI (t0.2.1 : Int)), iI 0) := by
    unfold f_Names_lookAtNumber
    rw [uk, if_neg (by decide), if_neg (by decide), if_neg (by decide), if_neg (by decide), if_pos rfl, gd_P g.t, bn_C es]
  exact ⟨_, atNum g e7 q0 tk hj qj en, g1.next q0 fun _ => RN.o (by omega) (by omega)⟩
theorem laN6B {t0 u u3 : Tok} {j j3 x : Nat} (hx : M 0 9 = ((x + 1 : Nat) : Int)) (hx2 : x < 4) (q0 : ts[i]? = some t0) (hj : j + 1 = i) (qj : ts[j]? = some u) (hj3 : j3 + 3 = i) (qj3 : ts[j3]? = some u3) (tk : t0.1 = 56) (uk : u.1 = 6) (uk3 : u3.1 = 11) (h1 : 1 ≤ t0.2.1) (h2 : t0.2.1 ≤ 40) : LA ts L0 M i (up2 M (39 + x) 0 (t0.2.1 : Int)) := by
  intro hb h t q g e7
  rw [q0] at q
  obtain rfl := Option.some.inj q
  have hl := g.len
  have q2 := (nth_ks q0).2
  have g1 := g.w (c := 39 + x) (s := 0) (v := (t0.2.1 : Int)) (by omega) (by omega)
  have e7' : hI (wI h (265 + (39 + x)) 0 (iI (t0.2.1 : Int))) 253 7 = iI (i : Int) := (hI_wn _ _ _ _ _ _ (by omega)).trans e7
  have eo := outside_E g1 e7' q0 tk (lo := 1) (hi := 40) (by omega) (by omega) (by decide) (by decide)
  have e3 : iI (i : Int) - nI 3 = iI (j3 : Int) := by rw [nI_L, iI_sub]; congr 1; omega
  have es : f_Names_setHolds h 253 (iI (t0.2.1 : Int)) = some (wI h (265 + (39 + x)) 0 (iI (t0.2.1 : Int)), iI 0) := by
    unfold f_Names_setHolds
    rw [gd_P g.t, g.r1, gd_P g.tt, e7, e3, bn_C (g.kind qj3), if_pos (by rw [uk3]; decide), gd_P g.t, g.r2, gd_P g.tr, bn_C (latestBoat_E g hx hx2), gd_P (g.skr.bT hx2), lq_E, gd_P g1.t, nI_L, nI_L, bn_C eo]
  have en : f_Names_lookAtNumber h 253 (nI u.1) (iI (t0.2.1 : Int)) = some (wI h (265 + (39 + x)) 0 (iI (t0.2.1 : Int)), iI 0) := by
    unfold f_Names_lookAtNumber
    rw [uk, if_neg (by decide), if_neg (by decide), if_neg (by decide), if_neg (by decide), if_pos rfl, gd_P g.t, bn_C es]
  exact ⟨_, atNum g e7 q0 tk hj qj en, g1.next q0 fun _ => RN.o (by omega) (by omega)⟩
theorem laN15 {t0 u : Tok} {j : Nat} (q0 : ts[i]? = some t0) (hj : j + 1 = i) (qj : ts[j]? = some u) (tk : t0.1 = 56) (uk : u.1 = 15) (h2 : t0.2.1 ≤ 11) : LA ts L0 M i M := by
  intro hb h t q g e7
  rw [q0] at q
  obtain rfl := Option.some.inj q
  have eo := outside_E g e7 q0 tk (lo := 0) (hi := 11) (by omega) (by omega) (by decide) (by decide)
  have en : f_Names_lookAtNumber h 253 (nI u.1) (iI (t0.2.1 : Int)) = some (h, iI 0) := by
    unfold f_Names_lookAtNumber
    rw [uk, if_neg (by decide), if_neg (by decide), if_neg (by decide), if_neg (by decide), if_neg (by decide), if_neg (by decide), if_neg (by decide), if_neg (by decide), if_neg (by decide), if_neg (by decide), if_neg (by decide), if_neg (by decide), if_neg (by decide), if_pos rfl, gd_P g.t, nI_L, nI_L, bn_C eo]
  exact ⟨_, atNum g e7 q0 tk hj qj en, g.next q0 fun _ => RN.o (by omega) (by omega)⟩
theorem laN16 {t0 u u2 : Tok} {j j2 : Nat} (q0 : ts[i]? = some t0) (hj : j + 1 = i) (qj : ts[j]? = some u) (hj2 : j2 + 2 = i) (qj2 : ts[j2]? = some u2) (tk : t0.1 = 56) (uk : u.1 = 16) (uk2 : u2.1 = 56) (u2v : u2.2.1 < 12) (h2 : t0.2.1 ≤ 3) : LA ts L0 M i (up2 M 6 u2.2.1 (t0.2.1 : Int)) := by
  intro hb h t q g e7
  rw [q0] at q
  obtain rfl := Option.some.inj q
  have hl := g.len
  have q2 := (nth_ks q0).2
  have g1 := g.w (c := 6) (s := u2.2.1) (v := (t0.2.1 : Int)) (by omega) (by omega)
  have e7' : hI (wI h (265 + 6) u2.2.1 (iI (t0.2.1 : Int))) 253 7 = iI (i : Int) := (hI_wn _ _ _ _ _ _ (by omega)).trans e7
  have eo := outside_E g1 e7' q0 tk (lo := 0) (hi := 3) (by omega) (by omega) (by decide) (by decide)
  have e2 : iI (i : Int) - nI 2 = iI (j2 : Int) := by rw [nI_L, iI_sub]; congr 1; omega
  have es : f_River_setShadeOf h 265 (iI (u2.2.1 : Int)) (iI (t0.2.1 : Int)) = some (wI h (265 + 6) u2.2.1 (iI (t0.2.1 : Int))) := by
    unfold f_River_setShadeOf
    rw [nI_L, nI_L, bn_C (isWithin_E (by omega) (by omega) (by decide) (by decide)), if_neg (by decide), gd_P g.tr, g.skr.f5, gd_P ⟨g.skr.at6, by rw [g.skr.al6]; exact inb_i u2v (by omega)⟩, ix_i (by omega), lq_E]
  have en : f_Names_lookAtNumber h 253 (nI u.1) (iI (t0.2.1 : Int)) = some (wI h (265 + 6) u2.2.1 (iI (t0.2.1 : Int)), iI 0) := by
    unfold f_Names_lookAtNumber
    rw [uk, if_neg (by decide), if_neg (by decide), if_neg (by decide), if_neg (by decide), if_neg (by decide), if_neg (by decide), if_neg (by decide), if_neg (by decide), if_neg (by decide), if_neg (by decide), if_neg (by decide), if_neg (by decide), if_neg (by decide), if_neg (by decide), if_pos rfl, gd_P g.t, g.r1, gd_P g.tt, e7, e2, bn_C (g.numb qj2 uk2), g.r2, gd_P g.tr, es, bv_S, gd_P g1.t, nI_L, nI_L, bn_C eo]
  exact ⟨_, atNum g e7 q0 tk hj qj en, g1.next q0 fun _ => RN.o (by omega) (by omega)⟩
theorem laNq {t0 u : Tok} {j d : Nat} (q0 : ts[i]? = some t0) (hj : j + 1 = i) (qj : ts[j]? = some u) (tk : t0.1 = 56) (uk : u.1 = 18 + d) (hd : d < 4) (h2 : t0.2.1 ≤ 50) : LA ts L0 M i (up2 M (43 + d) 1 (t0.2.1 : Int)) := by
  intro hb h t q g e7
  rw [q0] at q
  obtain rfl := Option.some.inj q
  have g1 := g.w (c := 43 + d) (s := 1) (v := (t0.2.1 : Int)) (by omega) (by omega)
  have e7' : hI (wI h (265 + (43 + d)) 1 (iI (t0.2.1 : Int))) 253 7 = iI (i : Int) := (hI_wn _ _ _ _ _ _ (by omega)).trans e7
  have eo := outside_E g1 e7' q0 tk (lo := 0) (hi := 50) (by omega) (by omega) (by decide) (by decide)
  have ed : nI (18 + d) - nI 18 = iI (d : Int) := by rw [nI_i (18 + d), nI_L, iI_sub]; congr 1; omega
  have er : hR h (265 + 5) d = 265 + (43 + d) := g.skr.qR hd
  have body : (gd (hT h 253 = 9) <| gd (hT h (hR h 253 2) = 3) <| gd (hT h (hR h (hR h 253 2) 4) = 108 ∧ inb (nI (18 + d) - (nI 18)) (hL h (hR h (hR h 253 2) 4))) <| gd (hT h (hR h (hR h (hR h 253 2) 4) (ix (nI (18 + d) - (nI 18)))) = 8) <| lq (wI h (hR h (hR h (hR h 253 2) 4) (ix (nI (18 + d) - (nI 18)))) 1 (iI (t0.2.1 : Int))) fun h94 => gd (hT h94 253 = 9) <| bn (f_Names_errorOutside h94 253 (nI 0) (nI 50)) fun h96 r97 => some (h96, r97)) = some (wI h (265 + (43 + d)) 1 (iI (t0.2.1 : Int)), iI 0) := by
    rw [ed, gd_P g.t, g.r2, gd_P g.tr, g.skr.f4, gd_P ⟨g.skr.at5, by rw [g.skr.al5]; exact inb_i hd (by omega)⟩, ix_i (by omega), er, gd_P (g.skr.qT hd), lq_E, gd_P g1.t, show nI 0 = iI 0 from rfl, show nI 50 = iI 50 from rfl, bn_C eo]
  have en : f_Names_lookAtNumber h 253 (nI u.1) (iI (t0.2.1 : Int)) = some (wI h (265 + (43 + d)) 1 (iI (t0.2.1 : Int)), iI 0) := by
    unfold f_Names_lookAtNumber
    rw [uk]
    rcases (show d = 0 ∨ d = 1 ∨ d = 2 ∨ d = 3 by omega) with rfl | rfl | rfl | rfl
    · rw [if_neg (by decide), if_neg (by decide), if_neg (by decide), if_neg (by decide), if_neg (by decide), if_neg (by decide), if_neg (by decide), if_neg (by decide), if_neg (by decide), if_neg (by decide), if_neg (by decide), if_neg (by decide), if_neg (by decide), if_neg (by decide), if_neg (by decide), if_neg (by decide), if_pos rfl]; exact body
    · rw [if_neg (by decide), if_neg (by decide), if_neg (by decide), if_neg (by decide), if_neg (by decide), if_neg (by decide), if_neg (by decide), if_neg (by decide), if_neg (by decide), if_neg (by decide), if_neg (by decide), if_neg (by decide), if_neg (by decide), if_neg (by decide), if_neg (by decide), if_neg (by decide), if_neg (by decide), if_pos rfl]; exact body
    · rw [if_neg (by decide), if_neg (by decide), if_neg (by decide), if_neg (by decide), if_neg (by decide), if_neg (by decide), if_neg (by decide), if_neg (by decide), if_neg (by decide), if_neg (by decide), if_neg (by decide), if_neg (by decide), if_neg (by decide), if_neg (by decide), if_neg (by decide), if_neg (by decide), if_neg (by decide), if_neg (by decide), if_pos rfl]; exact body
    · rw [if_neg (by decide), if_neg (by decide), if_neg (by decide), if_neg (by decide), if_neg (by decide), if_neg (by decide), if_neg (by decide), if_neg (by decide), if_neg (by decide), if_neg (by decide), if_neg (by decide), if_neg (by decide), if_neg (by decide), if_neg (by decide), if_neg (by decide), if_neg (by decide), if_neg (by decide), if_neg (by decide), if_neg (by decide), if_pos rfl]; exact body
  exact ⟨_, atNum g e7 q0 tk hj qj en, g1.next q0 fun _ => RN.o (by omega) (by omega)⟩
theorem laNo {t0 u : Tok} {j : Nat} (q0 : ts[i]? = some t0) (hj : j + 1 = i) (qj : ts[j]? = some u) (tk : t0.1 = 56) (uk : 22 ≤ u.1) (uk2 : u.1 < 100) : LA ts L0 M i M := by
  intro hb h t q g e7
  rw [q0] at q
  obtain rfl := Option.some.inj q
  have nk : ∀ k, k ≤ 21 → ¬ nI u.1 = nI k := fun k hk => nI_ne2 (by omega) (by omega) (by omega)
  have en : f_Names_lookAtNumber h 253 (nI u.1) (iI (t0.2.1 : Int)) = some (h, iI 0) := by
    unfold f_Names_lookAtNumber
    rw [if_neg (nk 2 (by decide)), if_neg (nk 3 (by decide)), if_neg (nk 4 (by decide)), if_neg (nk 5 (by decide)), if_neg (nk 6 (by decide)), if_neg (nk 7 (by decide)), if_neg (nk 8 (by decide)), if_neg (nk 9 (by decide)), if_neg (nk 10 (by decide)), if_neg (nk 11 (by decide)), if_neg (nk 12 (by decide)), if_neg (nk 13 (by decide)), if_neg (nk 14 (by decide)), if_neg (nk 15 (by decide)), if_neg (nk 16 (by decide)), if_neg (nk 17 (by decide)), if_neg (nk 18 (by decide)), if_neg (nk 19 (by decide)), if_neg (nk 20 (by decide)), if_neg (nk 21 (by decide))]
    rfl
  exact ⟨_, atNum g e7 q0 tk hj qj en, g.next q0 fun _ => RN.o (by omega) (by omega)⟩
end

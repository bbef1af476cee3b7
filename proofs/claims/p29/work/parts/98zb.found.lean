/-! 98zb L3: names added and found (written by l3/gen98zb.py) -/
section
variable {hb : AH} {ts : List Tok} {L0 : Nat} {M : GM} {i : Nat} {h : AH}
theorem NSt.m (g : NSt hb ts L0 M i h) {s x : Nat} (hx : M 0 s = (x : Int)) : hI h 265 s = iI (x : Int) := by
  rw [← hx]
  exact g.mi 0 s (by omega)
theorem latestGarden_E (g : NSt hb ts L0 M i h) {x : Nat} (hx : M 0 6 = ((x + 1 : Nat) : Int)) (hx2 : x < 4) : f_River_latestGarden h 265 = some (h, 265 + (7 + x)) := by
  have e0 := g.m hx
  have e1 : hI h 265 6 - nI 1 = iI (x : Int) := by rw [e0, nI_L, iI_sub]; congr 1; omega
  have n0 : ¬ iI (x : Int) < 0 := by rw [z_i, iI_lt (by omega) (by omega) (by omega) (by omega)]; omega
  have eh : f_River_hasGarden h 265 (iI (x : Int)) = some (h, iI 1) := by
    unfold f_River_hasGarden
    rw [if_neg n0, gd_P g.tr, e0, if_neg (by rw [iI_le (by omega) (by omega) (by omega) (by omega)]; omega), if_neg (by rw [nI_L, iI_le (by omega) (by omega) (by omega) (by omega)]; omega)]
    rfl
  have er : hR h (265 + 1) x = 265 + (7 + x) := g.skr.gR hx2
  unfold f_River_latestGarden
  rw [gd_P g.tr, e1, bn_C eh, if_neg (by decide), gd_P g.tr, e1]
  unfold f_River_latestGarden_b27
  rw [g.skr.f0, gd_P ⟨g.skr.at1, by rw [g.skr.al1]; exact inb_i hx2 (by omega)⟩, ix_i (by omega), er]
theorem latestRack_E (g : NSt hb ts L0 M i h) {x : Nat} (hx : M 0 7 = ((x + 1 : Nat) : Int)) (hx2 : x < 4) : f_River_latestRack h 265 = some (h, 265 + (11 + 5 * x)) := by
  have e0 := g.m hx
  have e1 : hI h 265 7 - nI 1 = iI (x : Int) := by rw [e0, nI_L, iI_sub]; congr 1; omega
  have n0 : ¬ iI (x : Int) < 0 := by rw [z_i, iI_lt (by omega) (by omega) (by omega) (by omega)]; omega
  have eh : f_River_hasRack h 265 (iI (x : Int)) = some (h, iI 1) := by
    unfold f_River_hasRack
    rw [if_neg n0, gd_P g.tr, e0, if_neg (by rw [iI_le (by omega) (by omega) (by omega) (by omega)]; omega), if_neg (by rw [nI_L, iI_le (by omega) (by omega) (by omega) (by omega)]; omega)]
    rfl
  have er : hR h (265 + 2) x = 265 + (11 + 5 * x) := g.skr.kR hx2
  unfold f_River_latestRack
  rw [gd_P g.tr, e1, bn_C eh, if_neg (by decide), gd_P g.tr, e1]
  unfold f_River_latestRack_b27
  rw [g.skr.f1, gd_P ⟨g.skr.at2, by rw [g.skr.al2]; exact inb_i hx2 (by omega)⟩, ix_i (by omega), er]
theorem latestPeeler_E (g : NSt hb ts L0 M i h) {x : Nat} (hx : M 0 8 = ((x + 1 : Nat) : Int)) (hx2 : x < 8) : f_River_latestPeeler h 265 = some (h, 265 + (31 + x)) := by
  have e0 := g.m hx
  have e1 : hI h 265 8 - nI 1 = iI (x : Int) := by rw [e0, nI_L, iI_sub]; congr 1; omega
  have n0 : ¬ iI (x : Int) < 0 := by rw [z_i, iI_lt (by omega) (by omega) (by omega) (by omega)]; omega
  have eh : f_River_hasPeeler h 265 (iI (x : Int)) = some (h, iI 1) := by
    unfold f_River_hasPeeler
    rw [if_neg n0, gd_P g.tr, e0, if_neg (by rw [iI_le (by omega) (by omega) (by omega) (by omega)]; omega), if_neg (by rw [nI_L, iI_le (by omega) (by omega) (by omega) (by omega)]; omega)]
    rfl
  have er : hR h (265 + 3) x = 265 + (31 + x) := g.skr.pR hx2
  unfold f_River_latestPeeler
  rw [gd_P g.tr, e1, bn_C eh, if_neg (by decide), gd_P g.tr, e1]
  unfold f_River_latestPeeler_b27
  rw [g.skr.f2, gd_P ⟨g.skr.at3, by rw [g.skr.al3]; exact inb_i hx2 (by omega)⟩, ix_i (by omega), er]
theorem latestBoat_E (g : NSt hb ts L0 M i h) {x : Nat} (hx : M 0 9 = ((x + 1 : Nat) : Int)) (hx2 : x < 4) : f_River_latestBoat h 265 = some (h, 265 + (39 + x)) := by
  have e0 := g.m hx
  have e1 : hI h 265 9 - nI 1 = iI (x : Int) := by rw [e0, nI_L, iI_sub]; congr 1; omega
  have n0 : ¬ iI (x : Int) < 0 := by rw [z_i, iI_lt (by omega) (by omega) (by omega) (by omega)]; omega
  have eh : f_River_hasBoat h 265 (iI (x : Int)) = some (h, iI 1) := by
    unfold f_River_hasBoat
    rw [if_neg n0, gd_P g.tr, e0, if_neg (by rw [iI_le (by omega) (by omega) (by omega) (by omega)]; omega), if_neg (by rw [nI_L, iI_le (by omega) (by omega) (by omega) (by omega)]; omega)]
    rfl
  have er : hR h (265 + 4) x = 265 + (39 + x) := g.skr.bR hx2
  unfold f_River_latestBoat
  rw [gd_P g.tr, e1, bn_C eh, if_neg (by decide), gd_P g.tr, e1]
  unfold f_River_latestBoat_b27
  rw [g.skr.f3, gd_P ⟨g.skr.at4, by rw [g.skr.al4]; exact inb_i hx2 (by omega)⟩, ix_i (by omega), er]
theorem NSt.add (g : NSt hb ts L0 M i h) {a x : Nat} (ha : a < 4) (hx : M 0 (6 + a) = (x : Int)) (hx2 : x < rl a) : NSt hb ts L0 (up2 M 0 (6 + a) ((x + 1 : Nat) : Int)) i (wI (wI (wJ h (313 + 2 * a) x (nmw a x)) (312 + 2 * a) 1 (iI ((x + 1 : Nat) : Int))) 265 (6 + a) (iI ((x + 1 : Nat) : Int))) := by
  refine ⟨g.sk, g.kd, g.wd, ((g.fn.trans (Fn.wj (by omega))).trans (Fn.wi (by omega))).trans (Fn.wi (by omega)), fun c' s' hc' => ?_, fun k hk => ?_, fun j t q k => ?_, fun j t q a' b => ?_⟩
  · by_cases e : c' = 0 ∧ s' = 6 + a
    · obtain ⟨rfl, rfl⟩ := e
      rw [up2_e]
      exact hI_we _ _ _ _
    · rw [hI_wn _ _ _ _ _ _ (by omega), hI_wn _ _ _ _ _ _ (by omega), up2_n _ _ _ _ _ _ e]
      exact g.mi c' s' hc'
  · obtain ⟨y, y1, y2, y3, y4⟩ := g.ro k hk
    by_cases e : k = a
    · subst e
      have : y = x := by rw [hx] at y1; omega
      subst this
      refine ⟨y + 1, by rw [up2_e], by omega, ?_, fun j hj => ?_⟩
      · rw [hI_wn _ _ _ _ _ _ (by omega), hI_we]
      · show up2 (hJ h) (313 + 2 * k) y (nmw k y) (313 + 2 * k) j = nmw k j
        by_cases c : j = y
        · rw [c, up2_e]
        · rw [up2_n _ _ _ _ _ _ (by omega)]; exact y4 j (by omega)
    · refine ⟨y, by rw [up2_n _ _ _ _ _ _ (by omega)]; exact y1, y2, ?_, fun j hj => ?_⟩
      · rw [hI_wn _ _ _ _ _ _ (by omega), hI_wn _ _ _ _ _ _ (by omega)]; exact y3
      · show up2 (hJ h) (313 + 2 * a) x (nmw a x) (313 + 2 * k) j = nmw k j
        rw [up2_n _ _ _ _ _ _ (by omega)]; exact y4 j hj
  · rw [hI_wn _ _ _ _ _ _ (by omega), hI_wn _ _ _ _ _ _ (by omega)]; exact g.nu j t q k
  · obtain ⟨r1, r2⟩ := g.rn j t q a' b
    unfold RN
    rw [hI_wn _ _ _ _ _ _ (by omega), hI_wn _ _ _ _ _ _ (by omega)]
    exact ⟨r1, r2⟩
theorem rl8 (k : Nat) : rl k ≤ 8 := by unfold rl; split <;> omega
theorem tbW {a x : Nat} (hx : x < 16) : wj (Int64.ofNat 0) (tkb 55 (lt a * 16 + x)) = nmw a x := by
  rw [tbN hx]
  rfl
theorem addName_E (g : NSt hb ts L0 M i h) {a x k : Nat} (ha : a < 4) (hx : M 0 (6 + a) = (x : Int)) (hx2 : x < rl a) (e7 : hI h 253 7 = iI (i : Int)) {t : Tok} (q : ts[i]? = some t) (tk : t.1 = 55) (tv : t.2.1 = lt a * 16 + x) {h' : AH} (e : f_River_addOne (wI (wJ h (313 + 2 * a) x (nmw a x)) (312 + 2 * a) 1 (iI ((x + 1 : Nat) : Int))) 265 (nI k) = some h') : f_Names_addName h 253 (312 + 2 * a) (nI k) = some (h', iI 0) := by
  have r8 := rl8 a
  obtain ⟨y, y1, y2, y3⟩ := g.ro a ha
  have yx : y = x := by rw [hx] at y1; omega
  subst yx
  have ew := g.word q tk
  rw [tv, tbW (by omega)] at ew
  have S := g.sk'.2.2.2.2.2.1
  have tR := (S a ha).1
  have ep := place_n ha S y3 y2
  have et := takes_E ha S y3 hx2 (nmw a y)
  have n1 : iI (-1) < 0 := by decide
  have g9 : hT (wI (wJ h (313 + 2 * a) y (nmw a y)) (312 + 2 * a) 1 (iI ((y + 1 : Nat) : Int))) 253 = 9 := g.t
  have g2 : hR (wI (wJ h (313 + 2 * a) y (nmw a y)) (312 + 2 * a) 1 (iI ((y + 1 : Nat) : Int))) 253 2 = 265 := g.r2
  have g3 : hT (wI (wJ h (313 + 2 * a) y (nmw a y)) (312 + 2 * a) 1 (iI ((y + 1 : Nat) : Int))) 265 = 3 := g.tr
  unfold f_Names_addName
  rw [gd_P g.t, g.r1, gd_P g.tt, e7, bn_C ew, gd_P tR, bn_C ep, if_pos n1, gd_P g.t, g.r1, gd_P g.tt, e7, bn_C ew, gd_P tR, bn_C et, if_pos (by decide), gd_P g9, g2, gd_P g3, e, bv_S]
  rfl
theorem findName_E (g : NSt hb ts L0 M i h) {a x v : Nat} (ha : a < 4) (hx : M 0 (6 + a) = (x : Int)) (hv : v < x) (e7 : hI h 253 7 = iI (i : Int)) {t : Tok} (q : ts[i]? = some t) (tk : t.1 = 55) (tv : t.2.1 = lt a * 16 + v) : f_Names_findName h 253 (312 + 2 * a) = some (wI h 259 i (iI (v : Int)), iI 0) := by
  have r8 := rl8 a
  obtain ⟨y, y1, y2, y3⟩ := g.ro a ha
  have yx : y = x := by rw [hx] at y1; omega
  subst yx
  have ew := g.word q tk
  rw [tv, tbW (by omega)] at ew
  have S := g.sk'.2.2.2.2.2.1
  have tR := (S a ha).1
  have ep := place_y ha S y3 y2 hv
  have hl := g.len
  have q2 := (nth_ks q).2
  have n1 : 0 ≤ iI (v : Int) := by rw [z_i, iI_le (by omega) (by omega) (by omega) (by omega)]; omega
  unfold f_Names_findName
  rw [gd_P g.t, g.r1, gd_P g.tt, e7, bn_C ew, gd_P tR, bn_C ep, gd_P g.t, g.r1, gd_P g.tt, e7, setNumber_E g.skt (by omega), bv_S, if_pos n1]
  rfl
theorem atName (g : NSt hb ts L0 M i h) (e7 : hI h 253 7 = iI (i : Int)) {t u : Tok} (q : ts[i]? = some t) (tk : t.1 = 55) {j : Nat} (hj : j + 1 = i) (qj : ts[j]? = some u) {h' : AH} (e : f_Names_lookAtName h 253 (nI u.1) = some (h', iI 0)) : f_Names_lookAt h 253 (nI t.1) = some (h', iI 0) := by
  have hl := g.len
  have q2 := (nth_ks q).2
  have ei : iI (i : Int) - nI 1 = iI (j : Int) := by rw [nI_L, iI_sub]; congr 1; omega
  unfold f_Names_lookAt
  rw [tk, if_neg (by decide), if_neg (by decide), if_neg (by decide), if_neg (by decide), if_neg (by decide), if_neg (by decide), if_neg (by decide), if_pos rfl, gd_P g.t, g.r1, gd_P g.tt, e7, ei, bn_C (g.kind qj), gd_P g.t, bn_C e]
theorem atNum (g : NSt hb ts L0 M i h) (e7 : hI h 253 7 = iI (i : Int)) {t u : Tok} (q : ts[i]? = some t) (tk : t.1 = 56) {j : Nat} (hj : j + 1 = i) (qj : ts[j]? = some u) {h' : AH} (e : f_Names_lookAtNumber h 253 (nI u.1) (iI (t.2.1 : Int)) = some (h', iI 0)) : f_Names_lookAt h 253 (nI t.1) = some (h', iI 0) := by
  have hl := g.len
  have q2 := (nth_ks q).2
  have ei : iI (i : Int) - nI 1 = iI (j : Int) := by rw [nI_L, iI_sub]; congr 1; omega
  unfold f_Names_lookAt
  rw [tk, if_neg (by decide), if_neg (by decide), if_neg (by decide), if_neg (by decide), if_neg (by decide), if_neg (by decide), if_neg (by decide), if_neg (by decide), if_pos rfl, gd_P g.t, g.r1, gd_P g.tt, e7, ei, bn_C (g.kind qj), gd_P g.t, g.r1, gd_P g.tt, e7, bn_C (g.numb q tk), gd_P g.t, bn_C e]
theorem laF2 {t0 u : Tok} {j x v : Nat} (q0 : ts[i]? = some t0) (hj : j + 1 = i) (qj : ts[j]? = some u) (tk : t0.1 = 55) (uk : u.1 = 2) (tv : t0.2.1 = lt 0 * 16 + v) (hx : M 0 (6 + 0) = (x : Int)) (hv : v < x) (hv2 : v < 16) : LA ts L0 M i M := by
  intro hb h t q g e7
  rw [q0] at q
  obtain rfl := Option.some.inj q
  have ef := findName_E (a := 0) g (by omega) hx hv e7 q0 tk tv
  have er : hR h 253 3 = 312 + 2 * 0 := g.rr (k := 0) (by omega)
  have en : f_Names_lookAtName h 253 (nI u.1) = some (wI h 259 i (iI (v : Int)), iI 0) := by
    unfold f_Names_lookAtName
    rw [uk, if_neg (by decide), if_pos rfl, gd_P g.t, er, bn_C ef]
  refine ⟨wI h 259 i (iI (v : Int)), atName g e7 q0 tk hj qj en, (g.num q0 (by omega) _).next q0 fun _ => ⟨fun _ => ?_, fun q => by omega⟩⟩
  rw [hI_we, tv, show (lt 0 * 16 + v) % 16 = v by omega]
theorem laF22 {t0 u : Tok} {j x v : Nat} (q0 : ts[i]? = some t0) (hj : j + 1 = i) (qj : ts[j]? = some u) (tk : t0.1 = 55) (uk : u.1 = 22) (tv : t0.2.1 = lt 2 * 16 + v) (hx : M 0 (6 + 2) = (x : Int)) (hv : v < x) (hv2 : v < 16) : LA ts L0 M i M := by
  intro hb h t q g e7
  rw [q0] at q
  obtain rfl := Option.some.inj q
  have ef := findName_E (a := 2) g (by omega) hx hv e7 q0 tk tv
  have er : hR h 253 5 = 312 + 2 * 2 := g.rr (k := 2) (by omega)
  have en : f_Names_lookAtName h 253 (nI u.1) = some (wI h 259 i (iI (v : Int)), iI 0) := by
    unfold f_Names_lookAtName
    rw [uk, if_neg (by decide), if_neg (by decide), if_neg (by decide), if_neg (by decide), if_neg (by decide), if_neg (by decide), if_neg (by decide), if_neg (by decide), if_neg (by decide), if_neg (by decide), if_neg (by decide), if_neg (by decide), if_neg (by decide), if_neg (by decide), if_neg (by decide), if_neg (by decide), if_neg (by decide), if_neg (by decide), if_neg (by decide), if_neg (by decide), if_neg (by decide), if_pos rfl, gd_P g.t, er, bn_C ef]
  refine ⟨wI h 259 i (iI (v : Int)), atName g e7 q0 tk hj qj en, (g.num q0 (by omega) _).next q0 fun _ => ⟨fun _ => ?_, fun q => by omega⟩⟩
  rw [hI_we, tv, show (lt 2 * 16 + v) % 16 = v by omega]
theorem laF25 {t0 u : Tok} {j x v : Nat} (q0 : ts[i]? = some t0) (hj : j + 1 = i) (qj : ts[j]? = some u) (tk : t0.1 = 55) (uk : u.1 = 25) (tv : t0.2.1 = lt 2 * 16 + v) (hx : M 0 (6 + 2) = (x : Int)) (hv : v < x) (hv2 : v < 16) : LA ts L0 M i M := by
  intro hb h t q g e7
  rw [q0] at q
  obtain rfl := Option.some.inj q
  have ef := findName_E (a := 2) g (by omega) hx hv e7 q0 tk tv
  have er : hR h 253 5 = 312 + 2 * 2 := g.rr (k := 2) (by omega)
  have en : f_Names_lookAtName h 253 (nI u.1) = some (wI h 259 i (iI (v : Int)), iI 0) := by
    unfold f_Names_lookAtName
    rw [uk, if_neg (by decide), if_neg (by decide), if_neg (by decide), if_neg (by decide), if_neg (by decide), if_neg (by decide), if_neg (by decide), if_neg (by decide), if_neg (by decide), if_neg (by decide), if_neg (by decide), if_neg (by decide), if_neg (by decide), if_neg (by decide), if_neg (by decide), if_neg (by decide), if_neg (by decide), if_neg (by decide), if_neg (by decide), if_neg (by decide), if_neg (by decide), if_neg (by decide), if_neg (by decide), if_neg (by decide), if_pos rfl, gd_P g.t, er, bn_C ef]
  refine ⟨wI h 259 i (iI (v : Int)), atName g e7 q0 tk hj qj en, (g.num q0 (by omega) _).next q0 fun _ => ⟨fun _ => ?_, fun q => by omega⟩⟩
  rw [hI_we, tv, show (lt 2 * 16 + v) % 16 = v by omega]
theorem laF29 {t0 u : Tok} {j x v : Nat} (q0 : ts[i]? = some t0) (hj : j + 1 = i) (qj : ts[j]? = some u) (tk : t0.1 = 55) (uk : u.1 = 29) (tv : t0.2.1 = lt 2 * 16 + v) (hx : M 0 (6 + 2) = (x : Int)) (hv : v < x) (hv2 : v < 16) : LA ts L0 M i M := by
  intro hb h t q g e7
  rw [q0] at q
  obtain rfl := Option.some.inj q
  have ef := findName_E (a := 2) g (by omega) hx hv e7 q0 tk tv
  have er : hR h 253 5 = 312 + 2 * 2 := g.rr (k := 2) (by omega)
  have en : f_Names_lookAtName h 253 (nI u.1) = some (wI h 259 i (iI (v : Int)), iI 0) := by
    unfold f_Names_lookAtName
    rw [uk, if_neg (by decide), if_neg (by decide), if_neg (by decide), if_neg (by decide), if_neg (by decide), if_neg (by decide), if_neg (by decide), if_neg (by decide), if_neg (by decide), if_neg (by decide), if_neg (by decide), if_neg (by decide), if_neg (by decide), if_neg (by decide), if_neg (by decide), if_neg (by decide), if_neg (by decide), if_neg (by decide), if_neg (by decide), if_neg (by decide), if_neg (by decide), if_neg (by decide), if_neg (by decide), if_neg (by decide), if_neg (by decide), if_neg (by decide), if_neg (by decide), if_neg (by decide), if_pos rfl, gd_P g.t, er, bn_C ef]
  refine ⟨wI h 259 i (iI (v : Int)), atName g e7 q0 tk hj qj en, (g.num q0 (by omega) _).next q0 fun _ => ⟨fun _ => ?_, fun q => by omega⟩⟩
  rw [hI_we, tv, show (lt 2 * 16 + v) % 16 = v by omega]
theorem laF30 {t0 u : Tok} {j x v : Nat} (q0 : ts[i]? = some t0) (hj : j + 1 = i) (qj : ts[j]? = some u) (tk : t0.1 = 55) (uk : u.1 = 30) (tv : t0.2.1 = lt 1 * 16 + v) (hx : M 0 (6 + 1) = (x : Int)) (hv : v < x) (hv2 : v < 16) : LA ts L0 M i M := by
  intro hb h t q g e7
  rw [q0] at q
  obtain rfl := Option.some.inj q
  have ef := findName_E (a := 1) g (by omega) hx hv e7 q0 tk tv
  have er : hR h 253 4 = 312 + 2 * 1 := g.rr (k := 1) (by omega)
  have en : f_Names_lookAtName h 253 (nI u.1) = some (wI h 259 i (iI (v : Int)), iI 0) := by
    unfold f_Names_lookAtName
    rw [uk, if_neg (by decide), if_neg (by decide), if_neg (by decide), if_neg (by decide), if_neg (by decide), if_neg (by decide), if_neg (by decide), if_neg (by decide), if_neg (by decide), if_neg (by decide), if_neg (by decide), if_neg (by decide), if_neg (by decide), if_neg (by decide), if_neg (by decide), if_neg (by decide), if_neg (by decide), if_neg (by decide), if_neg (by decide), if_neg (by decide), if_neg (by decide), if_neg (by decide), if_neg (by decide), if_neg (by decide), if_neg (by decide), if_neg (by decide), if_neg (by decide), if_neg (by decide), if_neg (by decide), if_pos rfl, gd_P g.t, er, bn_C ef]
  refine ⟨wI h 259 i (iI (v : Int)), atName g e7 q0 tk hj qj en, (g.num q0 (by omega) _).next q0 fun _ => ⟨fun _ => ?_, fun q => by omega⟩⟩
  rw [hI_we, tv, show (lt 1 * 16 + v) % 16 = v by omega]
theorem laF34 {t0 u : Tok} {j x v : Nat} (q0 : ts[i]? = some t0) (hj : j + 1 = i) (qj : ts[j]? = some u) (tk : t0.1 = 55) (uk : u.1 = 34) (tv : t0.2.1 = lt 2 * 16 + v) (hx : M 0 (6 + 2) = (x : Int)) (hv : v < x) (hv2 : v < 16) : LA ts L0 M i M := by
  intro hb h t q g e7
  rw [q0] at q
  obtain rfl := Option.some.inj q
  have ef := findName_E (a := 2) g (by omega) hx hv e7 q0 tk tv
  have er : hR h 253 5 = 312 + 2 * 2 := g.rr (k := 2) (by omega)
  have en : f_Names_lookAtName h 253 (nI u.1) = some (wI h 259 i (iI (v : Int)), iI 0) := by
    unfold f_Names_lookAtName
    rw [uk, if_neg (by decide), if_neg (by decide), if_neg (by decide), if_neg (by decide), if_neg (by decide), if_neg (by decide), if_neg (by decide), if_neg (by decide), if_neg (by decide), if_neg (by decide), if_neg (by decide), if_neg (by decide), if_neg (by decide), if_neg (by decide), if_neg (by decide), if_neg (by decide), if_neg (by decide), if_neg (by decide), if_neg (by decide), if_neg (by decide), if_neg (by decide), if_neg (by decide), if_neg (by decide), if_neg (by decide), if_neg (by decide), if_neg (by decide), if_neg (by decide), if_neg (by decide), if_neg (by decide), if_neg (by decide), if_neg (by decide), if_neg (by decide), if_neg (by decide), if_pos rfl, gd_P g.t, er, bn_C ef]
  refine ⟨wI h 259 i (iI (v : Int)), atName g e7 q0 tk hj qj en, (g.num q0 (by omega) _).next q0 fun _ => ⟨fun _ => ?_, fun q => by omega⟩⟩
  rw [hI_we, tv, show (lt 2 * 16 + v) % 16 = v by omega]
theorem laF23 {t0 u : Tok} {j x v : Nat} (q0 : ts[i]? = some t0) (hj : j + 1 = i) (qj : ts[j]? = some u) (tk : t0.1 = 55) (uk : u.1 = 23) (tv : t0.2.1 = lt 3 * 16 + v) (hx : M 0 (6 + 3) = (x : Int)) (hv : v < x) (hv2 : v < 16) : LA ts L0 M i M := by
  intro hb h t q g e7
  rw [q0] at q
  obtain rfl := Option.some.inj q
  have ef := findName_E (a := 3) g (by omega) hx hv e7 q0 tk tv
  have er : hR h 253 6 = 312 + 2 * 3 := g.rr (k := 3) (by omega)
  have en : f_Names_lookAtName h 253 (nI u.1) = some (wI h 259 i (iI (v : Int)), iI 0) := by
    unfold f_Names_lookAtName
    rw [uk, if_neg (by decide), if_neg (by decide), if_neg (by decide), if_neg (by decide), if_neg (by decide), if_neg (by decide), if_neg (by decide), if_neg (by decide), if_neg (by decide), if_neg (by decide), if_neg (by decide), if_neg (by decide), if_neg (by decide), if_neg (by decide), if_neg (by decide), if_neg (by decide), if_neg (by decide), if_neg (by decide), if_neg (by decide), if_neg (by decide), if_neg (by decide), if_neg (by decide), if_pos rfl, gd_P g.t, er, bn_C ef]
  refine ⟨wI h 259 i (iI (v : Int)), atName g e7 q0 tk hj qj en, (g.num q0 (by omega) _).next q0 fun _ => ⟨fun _ => ?_, fun q => by omega⟩⟩
  rw [hI_we, tv, show (lt 3 * 16 + v) % 16 = v by omega]
theorem laF32 {t0 u : Tok} {j x v : Nat} (q0 : ts[i]? = some t0) (hj : j + 1 = i) (qj : ts[j]? = some u) (tk : t0.1 = 55) (uk : u.1 = 32) (tv : t0.2.1 = lt 3 * 16 + v) (hx : M 0 (6 + 3) = (x : Int)) (hv : v < x) (hv2 : v < 16) : LA ts L0 M i M := by
  intro hb h t q g e7
  rw [q0] at q
  obtain rfl := Option.some.inj q
  have ef := findName_E (a := 3) g (by omega) hx hv e7 q0 tk tv
  have er : hR h 253 6 = 312 + 2 * 3 := g.rr (k := 3) (by omega)
  have en : f_Names_lookAtName h 253 (nI u.1) = some (wI h 259 i (iI (v : Int)), iI 0) := by
    unfold f_Names_lookAtName
    rw [uk, if_neg (by decide), if_neg (by decide), if_neg (by decide), if_neg (by decide), if_neg (by decide), if_neg (by decide), if_neg (by decide), if_neg (by decide), if_neg (by decide), if_neg (by decide), if_neg (by decide), if_neg (by decide), if_neg (by decide), if_neg (by decide), if_neg (by decide), if_neg (by decide), if_neg (by decide), if_neg (by decide), if_neg (by decide), if_neg (by decide), if_neg (by decide), if_neg (by decide), if_neg (by decide), if_neg (by decide), if_neg (by decide), if_neg (by decide), if_neg (by decide), if_neg (by decide), if_neg (by decide), if_neg (by decide), if_neg (by decide), if_pos rfl, gd_P g.t, er, bn_C ef]
  refine ⟨wI h 259 i (iI (v : Int)), atName g e7 q0 tk hj qj en, (g.num q0 (by omega) _).next q0 fun _ => ⟨fun _ => ?_, fun q => by omega⟩⟩
  rw [hI_we, tv, show (lt 3 * 16 + v) % 16 = v by omega]
theorem laF33 {t0 u : Tok} {j x v : Nat} (q0 : ts[i]? = some t0) (hj : j + 1 = i) (qj : ts[j]? = some u) (tk : t0.1 = 55) (uk : u.1 = 33) (tv : t0.2.1 = lt 3 * 16 + v) (hx : M 0 (6 + 3) = (x : Int)) (hv : v < x) (hv2 : v < 16) : LA ts L0 M i M := by
  intro hb h t q g e7
  rw [q0] at q
  obtain rfl := Option.some.inj q
  have ef := findName_E (a := 3) g (by omega) hx hv e7 q0 tk tv
  have er : hR h 253 6 = 312 + 2 * 3 := g.rr (k := 3) (by omega)
  have en : f_Names_lookAtName h 253 (nI u.1) = some (wI h 259 i (iI (v : Int)), iI 0) := by
    unfold f_Names_lookAtName
    rw [uk, if_neg (by decide), if_neg (by decide), if_neg (by decide), if_neg (by decide), if_neg (by decide), if_neg (by decide), if_neg (by decide), if_neg (by decide), if_neg (by decide), if_neg (by decide), if_neg (by decide), if_neg (by decide), if_neg (by decide), if_neg (by decide), if_neg (by decide), if_neg (by decide), if_neg (by decide), if_neg (by decide), if_neg (by decide), if_neg (by decide), if_neg (by decide), if_neg (by decide), if_neg (by decide), if_neg (by decide), if_neg (by decide), if_neg (by decide), if_neg (by decide), if_neg (by decide), if_neg (by decide), if_neg (by decide), if_neg (by decide), if_neg (by decide), if_pos rfl, gd_P g.t, er, bn_C ef]
  refine ⟨wI h 259 i (iI (v : Int)), atName g e7 q0 tk hj qj en, (g.num q0 (by omega) _).next q0 fun _ => ⟨fun _ => ?_, fun q => by omega⟩⟩
  rw [hI_we, tv, show (lt 3 * 16 + v) % 16 = v by omega]
end

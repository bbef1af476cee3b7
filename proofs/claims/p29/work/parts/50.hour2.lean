/-! 50 L3: a whole hour, in the class -/
theorem IvR1.mono {k : Nat} {T T' : Int} {g : GM} (h : IvR1 k T g) (hT : T ≤ T') : IvR1 k T' g := by
  obtain ⟨r1, r2, r3, r4, r5, r6, r7⟩ := h
  refine ⟨r1, r2, r3, r4, r5, r6, fun j hj => ?_⟩
  have := r7 j hj
  omega
theorem IvSc.mono {n m p b : Nat} {T T' C C' Pb Pb' : Int} {g : GM} (h : IvSc n m p b T C Pb g) (h1 : T ≤ T') (h2 : C ≤ C') (h3 : Pb ≤ Pb') : IvSc n m p b T' C' Pb' g := by
  unfold IvSc at h ⊢
  omega
theorem Iv.mono {n m p b : Nat} {T T' C C' Pb Pb' : Int} {g : GM} (h : Iv n m p b T C Pb g) (h1 : T ≤ T') (h2 : C ≤ C') (h3 : Pb ≤ Pb') : Iv n m p b T' C' Pb' g := by
  obtain ⟨hS, hH, hG, hR, h⟩ := h
  exact ⟨hS.mono h1 h2 h3, hH, hG, fun k hk => (hR k hk).mono h1, h⟩
-- racks below i dried in this hour
def IvD (n m p b i : Nat) (T C Pb : Int) (g : GM) : Prop := IvSc n m p b T C Pb g ∧ IvH g ∧ IvG n g ∧ (∀ k, k < m → IvR1 k (if k < i then T + 1 else T) g) ∧ IvP n m p g ∧ IvB b g ∧ IvQ g ∧ IvE m p b g
theorem IvD.dry {n m p b i : Nat} (hN : Nm n m p b) (hi : i < m) {T C Pb sh : Int} (hs0 : 0 ≤ sh) (hs3 : sh ≤ 3) {g : GM} (h : IvD n m p b i T C Pb g) : IvD n m p b (i + 1) T C Pb (mDry1 sh i g) := by
  obtain ⟨hS, hH, hG, hR, hP, hB, hQ, hE⟩ := h
  have hRi := hR i hi
  rw [if_neg (by omega)] at hRi
  obtain ⟨r1, r2, r3, r4, r5, r6, r7⟩ := hRi
  have k := dry_keep hN hi (Ts := fun k => if k < i + 1 then T + 1 else T) (T := T) (C := C) (Pb := Pb) hs0 hs3 (mct g i).toNat 0 0 g ⟨hS, hH, hG, fun k hk hne => by
      have h1 := hR k hk
      by_cases q : k < i
      · rw [if_pos q] at h1
        show IvR1 k (if k < i + 1 then T + 1 else T) g
        rw [if_pos (by omega)]; exact h1
      · rw [if_neg q] at h1
        show IvR1 k (if k < i + 1 then T + 1 else T) g
        rw [if_neg (by omega)]; exact h1, hP, hB, hQ, hE⟩
    ⟨r1, r2, r5, Nat.le_refl _, by omega, by
      rw [r6]
      show _ = 0 + _
      rw [Int.zero_add]
      exact sumF_congr _ (fun x _ => by rw [Nat.zero_add]), fun x hx => by omega, fun x _ hx => r7 x (by omega)⟩
  obtain ⟨⟨kS, kH, kG, kR, kP, kB, kQ, kE⟩, k2⟩ := k
  refine ⟨kS, kH, kG, fun x hx => ?_, kP, kB, kQ, kE⟩
  by_cases q : x = i
  · subst q
    rw [if_pos (by omega)]
    exact k2
  · exact kR x hx q
theorem mDry2_11 {K : Nat} (c s : Nat) (hc : c < 11) : ∀ (e j t : Nat) (sh : Int) (g : GM), mDry2 K e j t sh g c s = g c s := by
  intro e
  induction e with
  | zero => intro j t sh g; exact up2_n _ _ _ _ _ _ (by omega)
  | succ e ih =>
    intro j t sh g
    have a : mAge K sh j g c s = g c s := by unfold mAge; split <;> exact up2_n _ _ _ _ _ _ (by omega)
    rw [show mDry2 K (e + 1) j t sh g = if 3 * mAge K sh j g (13 + 5 * K) j ≤ mAge K sh j g (14 + 5 * K) j then mDry2 K e (j + 1) t sh (mStore K j (mAge K sh j g)) else mDry2 K e (j + 1) (t + 1) sh (mMove K t j (mAge K sh j g)) from rfl]
    split
    · rw [ih]
      unfold mStore
      rw [up2_n _ _ _ _ _ _ (by omega), up2_n _ _ _ _ _ _ (by omega)]
      exact a
    · rw [ih]
      unfold mMove
      rw [up2_n _ _ _ _ _ _ (by omega), up2_n _ _ _ _ _ _ (by omega), up2_n _ _ _ _ _ _ (by omega), up2_n _ _ _ _ _ _ (by omega)]
      exact a
theorem racks_E {n m p b r : Nat} {T C Pb : Int} {h : AH} {g : GM} (hN : Nm n m p b) (hS : SkR h r) (hP : RP n m p b r (hI h) g) (hv : Iv n m p b T C Pb g) (hT0 : 0 ≤ T) (hT : T ≤ 9000) (hC : C ≤ 900000) (hPb : Pb ≤ 900000) :
    ∃ F, f_River_letHourGo_b80 h r = some (sI h F) ∧ RP n m p b r F (mEnd (mIt mGlut1 4 0 (mIt mBoat1 b 0 (mIt (mDry1 (g 6 (g 0 11 % 12).toNat)) m 0 g)))) ∧ Fm r (hI h) F ∧ Iv n m p b (T + 1) 99999 Pb (mEnd (mIt mGlut1 4 0 (mIt mBoat1 b 0 (mIt (mDry1 (g 6 (g 0 11 % 12).toNat)) m 0 g)))) := by
  have hm : m ≤ 4 := by unfold Nm at hN; omega
  have hS4 := hv.1
  unfold IvSc at hS4
  have f1 := hourOfDay_E hS hP (by omega) (by omega)
  have hd : (g 0 11 % 12).toNat < 12 := by omega
  have hsh := hv.2.1 _ hd
  have e6 := hP.sh _ hd
  generalize hsv : g 6 (g 0 11 % 12).toNat = sh at *
  have key := loopF (n := n) (m := m) (p := p) (b := b) (r := r) (fun fu h x => f_River_letHourGo_l92 fu h r (iI sh) x) (fun h => f_River_letHourGo_b125 h r) (mDry1 sh) m
    (fun i g => IvD n m p b i T C Pb g) ?_ ?_ m 0 FU h g (by omega) (by unfold FU; omega) ⟨hv.1, hv.2.1, hv.2.2.1, fun k hk => by rw [if_neg (by omega)]; exact hv.2.2.2.1 k hk, hv.2.2.2.2⟩ hS hP
  · obtain ⟨F, e1, e2, e3, kS, kH, kG, kR, kP, kB, kQ, kE⟩ := key
    have kv : Iv n m p b (T + 1) C Pb (mIt (mDry1 sh) m 0 g) := ⟨kS.mono (by omega) (Int.le_refl _) (Int.le_refl _), kH, kG, fun k hk => by have := kR k hk; rw [if_pos hk] at this; exact this, kP, kB, kQ, kE⟩
    obtain ⟨F', d1, d2, d3, d4⟩ := boats_E (h := sI h F) hN hS e2 kv hC hPb (by unfold IvSc at kS; omega)
    refine ⟨F', ?_, d2, e3.trans d3, d4⟩
    refine Eq.trans ?_ (e1.trans d1)
    simp (disch := first | decide | omega) only [f_River_letHourGo_b80, Nat.add_zero, true_and, and_true, gd_T, bn_S, bv_S, lq_E, wI_s, sI_s, hI_s, hT_s, hL_s, hR_s, hJ_s, hN_s, hU_s, nI_L, z_i, o_i, iI_add, iI_sub, iI_mul, iI_neg, iI_lt, iI_le, iI_eq, iI_ix, Int.toNat_natCast, if_neg, if_pos, gd_P, inb, ix, hS.t, hS.f5, hS.at6, hS.al6, f1, e6]
    rfl
  · intro fu i h g hi hv hS hP
    have hS4 := hv.1
    unfold IvSc at hS4
    have hRi := hv.2.2.2.1 i hi
    rw [if_neg (by omega)] at hRi
    obtain ⟨r1, r2, r3, r4, r5, r6, r7⟩ := hRi
    obtain ⟨F, d1, d2, d3⟩ := letDry_l hm hi hsh.1 hsh.2 (mct g i).toNat 0 0 FU h g (by omega) (by unfold FU; omega) (Nat.le_refl _) r3 (by omega) (fun x _ hx => by have := r7 x hx; omega) hS hP
    refine ⟨F, ?_, d2, d3, hv.dry hN hi hsh.1 hsh.2⟩
    show f_River_letHourGo_b92 (f_River_letHourGo_l92 fu) h r (iI sh) (iI (i : Int)) = _
    have s7 := hP.sc 7 (by decide) (by decide)
    rw [hS4.2.1] at s7
    have d0 : f_Rack_letDry h (r + (11 + 5 * i)) (iI sh) (r + 5) = some (sI h F) := d1
    simp (disch := first | decide | omega) only [f_River_letHourGo_b92, Nat.add_zero, true_and, and_true, gd_T, bn_S, bv_S, lq_E, wI_s, sI_s, hI_s, hT_s, hL_s, hR_s, hJ_s, hN_s, hU_s, nI_L, z_i, o_i, iI_add, iI_sub, iI_mul, iI_neg, iI_lt, iI_le, iI_eq, iI_ix, Int.toNat_natCast, if_neg, if_pos, gd_P, inb, ix, hS.t, hS.f0, hS.f1, hS.f2, hS.f3, hS.f4, hS.f5, hS.at1, hS.al1, hS.at2, hS.al2, hS.at3, hS.al3, hS.at4, hS.al4, hS.at5, hS.al5, hS.at6, hS.al6, hS.gR, hS.gT, hS.kR, hS.kT, hS.k3, hS.k4, hS.k5, hS.k6, hS.kt1, hS.kt2, hS.kt3, hS.kt4, hS.kl1, hS.kl2, hS.kl3, hS.kl4, hS.pR, hS.pT, hS.bR, hS.bT, hS.qR, hS.qT, s7, d0]
    rfl
  · intro fu h g hv hS hP
    have hS4 := hv.1
    unfold IvSc at hS4
    show f_River_letHourGo_b92 (f_River_letHourGo_l92 fu) h r (iI sh) (iI (m : Int)) = _
    have s7 := hP.sc 7 (by decide) (by decide)
    rw [hS4.2.1] at s7
    simp (disch := first | decide | omega) only [f_River_letHourGo_b92, Nat.add_zero, true_and, and_true, gd_T, bn_S, bv_S, lq_E, wI_s, sI_s, hI_s, hT_s, hL_s, hR_s, hJ_s, hN_s, hU_s, iI_lt, iI_le, iI_eq, iI_ix, Int.toNat_natCast, nI_L, if_neg, if_pos, gd_P, inb, ix, hS.t, s7]
theorem mIt_same {f : Nat → GM → GM} {c s : Nat} (h : ∀ i g, f i g c s = g c s) : ∀ (k i : Nat) (g : GM), mIt f k i g c s = g c s := by
  intro k
  induction k with
  | zero => intro i g; rfl
  | succ k ih => intro i g; rw [show mIt f (k + 1) i g = mIt f k (i + 1) (f i g) from rfl, ih, h]
theorem peels_E {n m p b r : Nat} {T C Pb : Int} {h : AH} {g : GM} (hN : Nm n m p b) (hS : SkR h r) (hP : RP n m p b r (hI h) g) (hv : Iv n m p b T C Pb g) (hT0 : 0 ≤ T) (hT : T ≤ 9000) (hC : C ≤ 900000) (hPb : Pb ≤ 800000) :
    ∃ F, f_River_letHourGo_b48 h r = some (sI h F) ∧ RP n m p b r F (mEnd (mIt mGlut1 4 0 (mIt mBoat1 b 0 (mIt (mDry1 (mIt mPeel1 p 0 g 6 (mIt mPeel1 p 0 g 0 11 % 12).toNat)) m 0 (mIt mPeel1 p 0 g))))) ∧ Fm r (hI h) F ∧ Iv n m p b (T + 1) 99999 (Pb + 36) (mEnd (mIt mGlut1 4 0 (mIt mBoat1 b 0 (mIt (mDry1 (mIt mPeel1 p 0 g 6 (mIt mPeel1 p 0 g 0 11 % 12).toNat)) m 0 (mIt mPeel1 p 0 g))))) := by
  have hp : p ≤ 4 := by unfold Nm at hN; omega
  have key := loopF (n := n) (m := m) (p := p) (b := b) (r := r) (fun fu h x => f_River_letHourGo_l50 fu h r x) (fun h => f_River_letHourGo_b80 h r) mPeel1 p
    (fun i g => Iv n m p b T C (Pb + 9 * (i : Int)) g) ?_ ?_ p 0 FU h g (by omega) (by unfold FU; omega) (hv.mono (Int.le_refl _) (Int.le_refl _) (by omega)) hS hP
  · obtain ⟨F, e1, e2, e3, e4⟩ := key
    obtain ⟨F', d1, d2, d3, d4⟩ := racks_E (h := sI h F) hN hS e2 e4 hT0 hT hC (by omega)
    exact ⟨F', e1.trans d1, d2, e3.trans d3, d4.mono (Int.le_refl _) (Int.le_refl _) (by omega)⟩
  · intro fu i h g hi hv hS hP
    have hS4 := hv.1
    unfold IvSc at hS4
    obtain ⟨F, d1, d2, d3⟩ := letPeel_E hN hS hP hv hi
    refine ⟨F, ?_, d2, d3, (hv.peel hN hT0 hi).mono (Int.le_refl _) (Int.le_refl _) (by omega)⟩
    show f_River_letHourGo_b50 (f_River_letHourGo_l50 fu) h r (iI (i : Int)) = _
    have s8 := hP.sc 8 (by decide) (by decide)
    rw [hS4.2.2.1] at s8
    simp (disch := first | decide | omega) only [f_River_letHourGo_b50, Nat.add_zero, true_and, and_true, gd_T, bn_S, bv_S, lq_E, wI_s, sI_s, hI_s, hT_s, hL_s, hR_s, hJ_s, hN_s, hU_s, nI_L, z_i, o_i, iI_add, iI_sub, iI_mul, iI_neg, iI_lt, iI_le, iI_eq, iI_ix, Int.toNat_natCast, if_neg, if_pos, gd_P, inb, ix, hS.t, hS.f0, hS.f1, hS.f2, hS.f3, hS.f4, hS.f5, hS.at1, hS.al1, hS.at2, hS.al2, hS.at3, hS.al3, hS.at4, hS.al4, hS.at5, hS.al5, hS.at6, hS.al6, hS.gR, hS.gT, hS.kR, hS.kT, hS.k3, hS.k4, hS.k5, hS.k6, hS.kt1, hS.kt2, hS.kt3, hS.kt4, hS.kl1, hS.kl2, hS.kl3, hS.kl4, hS.pR, hS.pT, hS.bR, hS.bT, hS.qR, hS.qT, s8, d1]
    rfl
  · intro fu h g hv hS hP
    have hS4 := hv.1
    unfold IvSc at hS4
    show f_River_letHourGo_b50 (f_River_letHourGo_l50 fu) h r (iI (p : Int)) = _
    have s8 := hP.sc 8 (by decide) (by decide)
    rw [hS4.2.2.1] at s8
    simp (disch := first | decide | omega) only [f_River_letHourGo_b50, Nat.add_zero, true_and, and_true, gd_T, bn_S, bv_S, lq_E, wI_s, sI_s, hI_s, hT_s, hL_s, hR_s, hJ_s, hN_s, hU_s, iI_lt, iI_le, iI_eq, iI_ix, Int.toNat_natCast, nI_L, if_neg, if_pos, gd_P, inb, ix, hS.t, s8]
-- the orders lie in the class
def Pg (n m p b : Nat) (O : Nat → Nat → Int) (no : Nat) (F : Nat → Nat → Int32) : Prop := ∃ z y : Nat → Nat → Int32, (aSt n m p b O z y no 0).length ≤ 400 ∧ F 202 2 = iI ((aSt n m p b O z y no 0).length : Int) ∧ PrA F 0 (aSt n m p b O z y no 0)
theorem Pg.fr {n m p b : Nat} {O : Nat → Nat → Int} {no : Nat} {F F' : Nat → Nat → Int32} (h : Pg n m p b O no F) (e : ∀ c s, c = 203 ∨ c = 204 ∨ (c = 202 ∧ s = 2) → F' c s = F c s) : Pg n m p b O no F' := by
  obtain ⟨z, y, h1, h2, h3⟩ := h
  exact ⟨z, y, h1, (e _ _ (Or.inr (Or.inr ⟨rfl, rfl⟩))).trans h2, PrA.congr (fun c s hc => e _ _ (by omega)) _ _ h3⟩
theorem hour_E {n m p b r : Nat} {T C Pb : Int} {h : AH} {g : GM} {O : Nat → Nat → Int} {no : Nat} (hN : Nm n m p b) (hr : 206 ≤ r) (hS : SkR h r) (hO : SkO h) (hP : RP n m p b r (hI h) g) (hv : Iv n m p b T C Pb g) (hT0 : 0 ≤ T) (hT : T ≤ 9000) (hC : C ≤ 900000) (hPb : Pb ≤ 800000) (hW : ∀ i, i < no → Wk n m p b (O i)) (hA : Pg n m p b O no (hI h)) :
    ∃ F, f_River_letHourGo h r 202 = some (sI h F) ∧ RP n m p b r F (mHour n m p b O no g) ∧ Fo r (hI h) F ∧ Iv n m p b (T + 1) 99999 (Pb + 36) (mHour n m p b O no g) := by
  have hN' := hN
  unfold Nm at hN'
  have key := loopF (n := n) (m := m) (p := p) (b := b) (r := r) (fun fu h x => f_River_letHourGo_l2 fu h r 202 x) (fun h => f_River_letHourGo_b32 h r 202) mRest1 p
    (fun i g => Iv n m p b T C Pb g) ?_ ?_ p 0 FU h g (by omega) (by unfold FU; omega) hv hS hP
  · obtain ⟨F, e1, e2, e3, e4⟩ := key
    have hA1 : Pg n m p b O no (hI (sI h F)) := hA.fr fun c s hc => e3 c s (by omega)
    obtain ⟨z, y, a1, a2, a3⟩ := hA1
    obtain ⟨c1, c2⟩ := aSt_R hN hr (by omega) (by omega) (by omega) hW z y no 0 _ (by omega) e4
    obtain ⟨F1, d1, d2, d3⟩ := carryOut_E (h := sI h F) hN hr a1 hS hO a2 a3 e2 c1
    rw [show mIt (fun i => mOrder n m p b (O i)) no 0 (mIt mRest1 p 0 g) = mOrders n m p b O no (mIt mRest1 p 0 g) from rfl] at d2 c2
    unfold mHour
    generalize mOrders n m p b O no (mIt mRest1 p 0 g) = g1 at *
    have hS4 := c2.1
    unfold IvSc at hS4
    have f1 := hourOfDay_E (h := sI h F1) hS d2 (by omega) (by omega)
    dsimp only
    by_cases q : g1 0 11 % 12 = 0
    · rw [if_pos q]
      have hG := c2.2.2.1
      obtain ⟨F2, b1, b2, b3⟩ := growSticks_E (h := sI h F1) (by omega) (by omega) hS d2 (by omega) (fun j hj => by have := hG j hj; omega)
      have iv2 : ∀ k i g, i + k = n → Iv n m p b T C Pb g → Iv n m p b T C Pb (mIt mGrow1 k i g) := by
        intro k
        induction k with
        | zero => intro i g _ h; exact h
        | succ k ih => intro i g hi h; exact ih (i + 1) _ (by omega) (h.grow hN (by omega))
      obtain ⟨F3, w1, w2, w3, w4⟩ := peels_E (h := sI h F2) hN hS b2 (iv2 n 0 g1 (by omega) c2) hT0 hT hC hPb
      refine ⟨F3, ?_, w2, (e3.o.trans d3).trans (b3.o.trans w3.o), w4⟩
      refine Eq.trans e1 ?_
      rw [q] at f1
      refine Eq.trans ?_ w1
      have d1' : f_Orders_carryOut (sI h F) 202 r = some (sI h F1) := d1
      simp (disch := first | decide | omega) only [f_River_letHourGo_b32, Nat.add_zero, true_and, and_true, gd_T, bn_S, bv_S, lq_E, wI_s, sI_s, hI_s, hT_s, hL_s, hR_s, hJ_s, hN_s, hU_s, nI_L, z_i, o_i, iI_add, iI_sub, iI_mul, iI_neg, iI_lt, iI_le, iI_eq, iI_ix, Int.toNat_natCast, if_neg, if_pos, gd_P, inb, ix, hO.t, hS.t, d1', f1, b1]
    · rw [if_neg q]
      obtain ⟨F3, w1, w2, w3, w4⟩ := peels_E (h := sI h F1) hN hS d2 c2 hT0 hT hC hPb
      refine ⟨F3, ?_, w2, (e3.o.trans d3).trans w3.o, w4⟩
      refine Eq.trans e1 ?_
      refine Eq.trans ?_ w1
      have d1' : f_Orders_carryOut (sI h F) 202 r = some (sI h F1) := d1
      simp (disch := first | decide | omega) only [f_River_letHourGo_b32, Nat.add_zero, true_and, and_true, gd_T, bn_S, bv_S, lq_E, wI_s, sI_s, hI_s, hT_s, hL_s, hR_s, hJ_s, hN_s, hU_s, nI_L, z_i, o_i, iI_add, iI_sub, iI_mul, iI_neg, iI_lt, iI_le, iI_eq, iI_ix, Int.toNat_natCast, if_neg, if_pos, gd_P, inb, ix, hO.t, hS.t, d1', f1]
  · intro fu i h g hi hv hS hP
    have hS4 := hv.1
    unfold IvSc at hS4
    refine ⟨_, ?_, hP.up (by omega) (31 + i) 6 (v := 0) rfl (by omega), (Fm.refl _ _).up _ _ _ (by omega), hv.rest hN hi (Or.inl rfl)⟩
    show f_River_letHourGo_b2 (f_River_letHourGo_l2 fu) h r 202 (iI (i : Int)) = _
    have s8 := hP.sc 8 (by decide) (by decide)
    rw [hS4.2.2.1] at s8
    simp (disch := first | decide | omega) only [f_River_letHourGo_b2, Nat.add_zero, true_and, and_true, gd_T, bn_S, bv_S, lq_E, wI_s, sI_s, hI_s, hT_s, hL_s, hR_s, hJ_s, hN_s, hU_s, nI_L, z_i, o_i, iI_add, iI_sub, iI_mul, iI_neg, iI_lt, iI_le, iI_eq, iI_ix, Int.toNat_natCast, if_neg, if_pos, gd_P, inb, ix, hS.t, hS.f0, hS.f1, hS.f2, hS.f3, hS.f4, hS.f5, hS.at1, hS.al1, hS.at2, hS.al2, hS.at3, hS.al3, hS.at4, hS.al4, hS.at5, hS.al5, hS.at6, hS.al6, hS.gR, hS.gT, hS.kR, hS.kT, hS.k3, hS.k4, hS.k5, hS.k6, hS.kt1, hS.kt2, hS.kt3, hS.kt4, hS.kl1, hS.kl2, hS.kl3, hS.kl4, hS.pR, hS.pT, hS.bR, hS.bT, hS.qR, hS.qT, s8, true_or]
    rfl
  · intro fu h g hv hS hP
    have hS4 := hv.1
    unfold IvSc at hS4
    show f_River_letHourGo_b2 (f_River_letHourGo_l2 fu) h r 202 (iI (p : Int)) = _
    have s8 := hP.sc 8 (by decide) (by decide)
    rw [hS4.2.2.1] at s8
    simp (disch := first | decide | omega) only [f_River_letHourGo_b2, Nat.add_zero, true_and, and_true, gd_T, bn_S, bv_S, lq_E, wI_s, sI_s, hI_s, hT_s, hL_s, hR_s, hJ_s, hN_s, hU_s, iI_lt, iI_le, iI_eq, iI_ix, Int.toNat_natCast, nI_L, if_neg, if_pos, gd_P, inb, ix, hS.t, s8]

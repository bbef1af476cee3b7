/-! 84 L3: what is done by hand, to both -/
theorem and31 (v : Int32) : ∃ u : Nat, u < 2147483648 ∧ (v &&& iI 2147483647) = iI (u : Int) := by
  have a0 : (v &&& iI 2147483647).toBitVec.msb = false := by
    rw [Int32.toBitVec_and, BitVec.msb_and, show (iI 2147483647).toBitVec.msb = false by decide, Bool.and_false]
  have h0 : 0 ≤ (v &&& iI 2147483647).toInt := by
    have h1 : (v &&& iI 2147483647).toBitVec.msb = decide ((v &&& iI 2147483647).toBitVec.toInt < 0) := BitVec.msb_eq_toInt
    rw [a0] at h1
    have h2 : ¬ (v &&& iI 2147483647).toBitVec.toInt < 0 := of_decide_eq_false h1.symm
    have h3 : (v &&& iI 2147483647).toInt = (v &&& iI 2147483647).toBitVec.toInt := rfl
    omega
  have h4 : (v &&& iI 2147483647).toInt < 2147483648 := Int32.toInt_lt _
  refine ⟨(v &&& iI 2147483647).toInt.toNat, by omega, ?_⟩
  rw [Int.toNat_of_nonneg h0]
  exact (Int32.ofInt_toInt _).symm
theorem below_E {h : AH} (v : Int32) {n : Nat} (h1 : 1 ≤ n) (h2 : n < 2147483648) : ∃ r : Nat, r < n ∧ f_Law_below h v (iI (n : Int)) = some (h, iI (r : Int)) := by
  obtain ⟨u, u1, u2⟩ := and31 v
  have u3 : u % n < n := Nat.mod_lt _ (by omega)
  refine ⟨u % n, u3, ?_⟩
  have e : ((u % n : Nat) : Int) = (u : Int) % (n : Int) := Int.natCast_emod u n
  have nz : ¬ iI (n : Int) = 0 := by rw [z_i, iI_eq (by omega) (by omega) (by omega) (by omega)]; omega
  unfold f_Law_below
  rw [gd_P nz, nI_i, cst_L, u2, iI_div (by omega) (by omega) (by omega) (by omega), iI_mul, iI_sub, emod_L, e]
theorem below_N {h : AH} (v : Int32) {n : Nat} (h1 : 1 ≤ n) (h2 : n < 2147483648) : ∃ r : Nat, r < n ∧ f_Law_below h v (nI n) = some (h, nI r) := by
  obtain ⟨r, r1, r2⟩ := below_E (h := h) v h1 h2
  exact ⟨r, r1, by rw [nI_i n, nI_i r]; exact r2⟩
theorem nI_ne {a b : Nat} (h1 : a < 2147483648) (h2 : b < 2147483648) (h3 : a ≠ b) : ¬ nI a = nI b := by
  rw [nI_i, nI_i, iI_inj_nat h1 h2]
  exact h3
-- the frame of all that is behind the making: the constants and the script stay
def Fz (c d : Nat) (h h' : AH) : Prop := hN h ≤ hN h' ∧ hN h' ≤ hN h + c ∧ hU h' ≤ hU h + d ∧ ∀ a, a < 200 → E4 h h' a
theorem Fz.refl (h : AH) : Fz 0 0 h h := ⟨Nat.le_refl _, Nat.le_refl _, Nat.le_refl _, fun _ _ => ⟨rfl, rfl, rfl, rfl⟩⟩
theorem Fz.trans {c d c' d' : Nat} {h h' h'' : AH} (h1 : Fz c d h h') (h2 : Fz c' d' h' h'') : Fz (c + c') (d + d') h h'' := by
  obtain ⟨a1, a2, a3, a4⟩ := h1
  obtain ⟨b1, b2, b3, b4⟩ := h2
  refine ⟨by omega, by omega, by omega, fun a ha => ?_⟩
  obtain ⟨p1, p2, p3, p4⟩ := a4 a ha
  obtain ⟨q1, q2, q3, q4⟩ := b4 a ha
  exact ⟨q1.trans p1, q2.trans p2, q3.trans p3, q4.trans p4⟩
theorem Fz.mono {c d c' d' : Nat} {h h' : AH} (k : Fz c d h h') (h1 : c ≤ c') (h2 : d ≤ d') : Fz c' d' h h' := ⟨k.1, by have := k.2.1; omega, by have := k.2.2.1; omega, k.2.2.2⟩
theorem Gx.z {c d : Nat} {h h' : AH} (k : Gx c d h h') (h0 : 200 ≤ hN h) : Fz c d h h' := ⟨k.1, k.2.1, k.2.2.1, fun a ha => k.2.2.2 a (by omega)⟩
theorem Fx.z {xA c d : Nat} {h h' : AH} (k : Fx xA c d h h') : Fz c d h h' := ⟨k.1, k.2.1, k.2.2.1, fun a ha => k.e a (Or.inl (by omega))⟩
theorem Fc.z {h : AH} {F : Nat → Nat → Int32} (k : Fc (hI h) F) : Fz 0 0 h (sI h F) := ⟨Nat.le_refl _, Nat.le_refl _, Nat.le_refl _, fun a ha => ⟨rfl, rfl, funext fun s => k a s (Or.inr ha), rfl⟩⟩
theorem Fs.z {tau : Nat} {h : AH} {F : Nat → Nat → Int32} (k : Fs tau (hI h) F) : Fz 0 0 h (sI h F) := ⟨Nat.le_refl _, Nat.le_refl _, Nat.le_refl _, fun a ha => ⟨rfl, rfl, funext fun s => k a s (by omega), rfl⟩⟩
theorem Fs.e {tau : Nat} {h : AH} {F : Nat → Nat → Int32} (k : Fs tau (hI h) F) : ∀ a, a < 320 → E4 h (sI h F) a := fun a ha => ⟨rfl, rfl, funext fun s => k a s (Or.inl ha), rfl⟩
-- orders stay
theorem mHour_10 {n m p b no : Nat} {O : Nat → Nat → Int} {g : GM} (hNm : Nm n m p b) : mHour n m p b O no g 0 10 = g 0 10 := by
  have h1 : ∀ i g, mRest1 i g 0 10 = g 0 10 := fun i g => up2_n _ _ _ _ _ _ (by omega)
  have hd : ∀ g, mDone g 0 10 = g 0 10 := fun g => up2_n _ _ _ _ _ _ (by omega)
  have h2 : ∀ i g, mOrder n m p b (O i) g 0 10 = g 0 10 := fun i g => by
    unfold mOrder mWhet mLoad
    split
    · split
      · split
        · rw [hd]; simp (disch := omega) only [up2_n]
        · rfl
      · split
        · split
          · rw [hd]; simp (disch := omega) only [up2_n]
          · rfl
        · rw [hd]; simp (disch := omega) only [up2_n]
    · rfl
  have h3 : ∀ i g, mGrow1 i g 0 10 = g 0 10 := fun i g => up2_n _ _ _ _ _ _ (by omega)
  have h4 : ∀ i g, mPeel1 i g 0 10 = g 0 10 := fun i g => by
    unfold mPeel1 mLay
    split
    · simp (disch := omega) only [up2_n]
    · rfl
  have h5 : ∀ sh i g, mDry1 sh i g 0 10 = g 0 10 := fun sh i g => by unfold mDry1; exact mDry2_11 0 10 (by omega) _ _ _ _ _
  have h6 : ∀ i g, mBoat1 i g 0 10 = g 0 10 := fun i g => by unfold mBoat1 mSell; split <;> (try split) <;> (try split) <;> (try simp (disch := omega) only [up2_n])
  have h7 : ∀ i g, mGlut1 i g 0 10 = g 0 10 := fun i g => up2_n _ _ _ _ _ _ (by omega)
  have h8 : ∀ g, mEnd g 0 10 = g 0 10 := fun g => by unfold mEnd; simp (disch := omega) only [up2_n]
  unfold mHour mOrders
  rw [h8, mIt_same h7, mIt_same h6, mIt_same (h5 _), mIt_same h4]
  split
  · rw [mIt_same h3, mIt_same (f := fun i => mOrder n m p b (O i)) h2, mIt_same h1]
  · rw [mIt_same (f := fun i => mOrder n m p b (O i)) h2, mIt_same h1]
theorem mHrs_10 {n m p b no : Nat} {O : Nat → Nat → Int} (hNm : Nm n m p b) : ∀ (k : Nat) (g : GM), mHrs n m p b O no k g 0 10 = g 0 10 := by
  intro k
  induction k with
  | zero => intro g; rfl
  | succ k ih => intro g; rw [show mHrs n m p b O no (k + 1) g = mHrs n m p b O no k (mHour n m p b O no g) from rfl, ih, mHour_10 hNm]
section
variable {xA n m p b no : Nat} {O : Nat → Nat → Int} {T C Pb : Int} {h : AH} {g : GM}
theorem loadBoth_E (hNm : Nm n m p b) (hb : Bo xA n m p b no O h g) (hv : Iv n m p b T C Pb g) (hPb : Pb ≤ 800000) {i k : Nat} (hi : i < b) (hk : k < 4) {w : Int} (w1 : 1 ≤ w) (w2 : w ≤ g (39 + i) 0) (h3 : g (39 + i) 3 = 0) (h4 : 1 ≤ g (43 + k) 0) :
    ∃ F F2 : Nat → Nat → Int32, ∃ v : Int, f_QuillBoats_load h 200 (iI (i : Int)) (iI (k : Int)) (iI w) = some (sI h F, iI v) ∧ f_Sim_load (sI h F) 320 (iI (i : Int)) (iI (k : Int)) (iI w) = some (sI h F2, iI v) ∧ Bo xA n m p b no O (sI h F2) (mLoad i k (min w (g (43 + k) 0)) g) ∧ Fz 0 0 h (sI h F2) ∧ Iv n m p b T C Pb (mLoad i k (min w (g (43 + k) 0)) g) := by
  obtain ⟨F, e1, e2, e3, e4⟩ := load_C hNm hb.1 hv (by omega) hi hk w1 w2 h3 h4
  have s2 := hb.2.fc hNm e3
  have vB := hv.2.2.2.2.2.1
  have vBi := vB i hi
  have q := IvQ.le hv k hk
  have hm : mMany g i k w = min w (g (43 + k) 0) := by unfold mMany; rw [if_pos h3]; omega
  have f := load_S hNm s2 vB hi hk (w := w) (by omega) (by omega) (by omega) (by omega)
  rw [hm, if_pos (by omega)] at f
  obtain ⟨F2, f1, f2, f3⟩ := f
  exact ⟨F, F2, _, e1, f1, ⟨e2.ext hNm f3.e, f2⟩, (e3.z.trans f3.z).mono (by omega) (by omega), e4⟩
-- whetting
theorem act0_E (hNm : Nm n m p b) (hW : ∀ i, i < no → Wk n m p b (O i)) (hno : no ≤ 100) (hb : Bo xA n m p b no O h g) (hv : Iv n m p b T C Pb g) (hC9 : 99999 ≤ C) (hC : C ≤ 900000) (hT0 : 0 ≤ T) (hTm : T + 9 ≤ 9000) (hPb : Pb + 324 ≤ 800000) (h10 : g 0 10 = (no : Int)) (x : Int32) (er : f_Law_below h (x >>> ((nI 7) &&& 31)) (nI 8) = some (h, nI 0)) :
    ∃ h' g', f_Law_act h 200 320 x = some (h', iI 1) ∧ Bo xA n m p b no O h' g' ∧ Iv n m p b (T + 9) C (Pb + 324) g' ∧ Fz 99 3960 h h' ∧ g' 0 10 = (no : Int) := by
  have hN' := hNm
  unfold Nm at hN'
  have hQ := hb.1.1
  have hM := hb.2.1
  have hs := hb.2
  have hS4 := hv.1
  unfold IvSc at hS4
  have c12 : 0 ≤ g 0 12 ∧ g 0 12 ≤ C := by omega
  have c14 : 0 ≤ g 0 14 ∧ g 0 14 ≤ 5 := by omega
  have hv9 : Iv n m p b (T + 9) C (Pb + 324) g := hv.mono (by omega) (Int.le_refl _) (by omega)
  have stay : ∃ h' g', some (h, iI 1) = some (h', iI 1) ∧ Bo xA n m p b no O h' g' ∧ Iv n m p b (T + 9) C (Pb + 324) g' ∧ Fz 99 3960 h h' ∧ g' 0 10 = (no : Int) := ⟨h, g, rfl, hb, hv9, (Fz.refl h).mono (by omega) (by omega), h10⟩
  obtain ⟨i, hi, ei⟩ := below_E (h := h) (x >>> ((iI 1) &&& 31)) (n := p) (by omega) (by omega)
  have vP := hv.2.2.2.2.1
  have f1 := canWhet_S hNm hs vP c12.1 (by omega) hi
  by_cases c : g (31 + i) 3 < 20 ∧ 2 ≤ g 0 12
  · rw [if_pos c] at f1
    obtain ⟨F, e1, e2, e3⟩ := whet_S hNm hs hi
    have hc1 : Cl n m p b O no (sI h F) g := hb.1.ext hNm e3.e
    obtain ⟨F2, d1, d2, d3⟩ := whet_C hNm hc1 hv hC hi c
    have s2 := e2.fc hNm d3
    have qc := s2.coins
    rw [show mWhet i g 0 12 = g 0 12 - 2 by unfold mWhet; simp (disch := omega) only [up2_n, up2_e], hI_s] at qc
    refine ⟨sI h F2, mWhet i g, ?_, ⟨d2, s2⟩, (hv9.whet hNm hi c.2), (e3.z.trans d3.z).mono (by omega) (by omega), ?_⟩
    · have er2 := er
      clear stay hv hv9 hS4 vP e2 d2 s2 hc1
      unfold f_Law_act
      rw [er, bn_S, if_pos rfl]
      simp (disch := first | decide | omega) only [Nat.add_zero, true_and, and_true, gd_T, bn_S, bv_S, lq_E, wI_s, sI_s, hI_s, hT_s, hL_s, hR_s, hJ_s, hN_s, hU_s, nI_i, cst_L, z_i, ↓reduceIte, iI_lt, iI_le, iI_eq, iI_ix, Int.toNat_natCast, toNat_L, if_neg, if_pos, gd_P, inb, ix, hM.t, hM.r15, hM.tpe, hM.lpe, ei, f1, e1, hQ.t, d1, qc]
    · rw [← h10]; unfold mWhet; simp (disch := omega) only [up2_n]
  · rw [if_neg c] at f1
    obtain ⟨h', g', st1, st2⟩ := stay
    refine ⟨h', g', ?_, st2⟩
    rw [← st1]
    clear hv hv9 hS4 vP st2 c
    unfold f_Law_act
    rw [er, bn_S, if_pos rfl]
    simp (disch := first | decide | omega) only [Nat.add_zero, true_and, and_true, gd_T, bn_S, bv_S, lq_E, wI_s, sI_s, hI_s, hT_s, hL_s, hR_s, hJ_s, hN_s, hU_s, nI_i, cst_L, z_i, ↓reduceIte, iI_lt, iI_le, iI_eq, iI_ix, Int.toNat_natCast, toNat_L, if_neg, if_pos, gd_P, inb, ix, hM.t, hM.r15, hM.tpe, hM.lpe, ei, f1]
theorem bn_C {α β : Type} {h : AH} {x : Option (AH × α)} {a : α} {f : AH → α → Option β} (e : x = some (h, a)) : bn x f = f h a := by rw [e]; rfl
def lawLoad2 (h : AH) (a k w : Int32) : Option (AH × Int32) :=
    gd (hT h 320 = 13) <|
    gd (hT h (hR h 320 16) = 109 ∧ inb a (hL h (hR h 320 16))) <|
    gd (hT h (hR h (hR h 320 16) (ix a)) = 101 ∧ inb (nI 3) (hL h (hR h (hR h 320 16) (ix a)))) <|
    if ¬ (hI h (hR h (hR h 320 16) (ix a)) (ix (nI 3))) = 0 then
      some (h, (nI 1))
    else
      gd (hT h (hR h 320 9) = 101 ∧ inb k (hL h (hR h 320 9))) <|
      if ¬ (hI h (hR h 320 9) (ix k)) = 0 then
        gd (hT h 200 = 1) <|
        bn (f_QuillBoats_load h 200 a k w) fun h39 r40 =>
        gd (hT h39 320 = 13) <|
        bn (f_Sim_load h39 320 a k w) fun h42 r43 =>
        if ¬ r40 = r43 then
          some (h42, (nI 0))
        else
          some (h42, (nI 1))
      else
        some (h, (nI 1))
def lawLoad (h : AH) (x : Int32) : Option (AH × Int32) :=
    gd (hT h 320 = 13) <|
    gd (hT h (hR h 320 16) = 109) <|
    bn (f_Law_below h (x >>> ((nI 1) &&& 31)) (nI (hL h (hR h 320 16)))) fun h22 r23 =>
    bn (f_Law_below h22 (x >>> ((nI 2) &&& 31)) (nI 4)) fun h24 r25 =>
    gd (hT h24 320 = 13) <|
    gd (hT h24 (hR h24 320 16) = 109 ∧ inb r23 (hL h24 (hR h24 320 16))) <|
    gd (hT h24 (hR h24 (hR h24 320 16) (ix r23)) = 101 ∧ inb (nI 0) (hL h24 (hR h24 (hR h24 320 16) (ix r23)))) <|
    bn (f_Law_below h24 (x >>> ((nI 3) &&& 31)) (hI h24 (hR h24 (hR h24 320 16) (ix r23)) (ix (nI 0)))) fun h29 r30 =>
    lq ((nI 1) + r30) fun x31 =>
    gd (hT h29 320 = 13) <|
    gd (hT h29 (hR h29 320 16) = 109 ∧ inb r23 (hL h29 (hR h29 320 16))) <|
    gd (hT h29 (hR h29 (hR h29 320 16) (ix r23)) = 101 ∧ inb (nI 3) (hL h29 (hR h29 (hR h29 320 16) (ix r23)))) <|
    if ¬ (hI h29 (hR h29 (hR h29 320 16) (ix r23)) (ix (nI 3))) = 0 then
      some (h29, (nI 1))
    else
      gd (hT h29 (hR h29 320 9) = 101 ∧ inb r25 (hL h29 (hR h29 320 9))) <|
      if ¬ (hI h29 (hR h29 320 9) (ix r25)) = 0 then
        gd (hT h29 200 = 1) <|
        bn (f_QuillBoats_load h29 200 r23 r25 x31) fun h39 r40 =>
        gd (hT h39 320 = 13) <|
        bn (f_Sim_load h39 320 r23 r25 x31) fun h42 r43 =>
        if ¬ r40 = r43 then
          some (h42, (nI 0))
        else
          some (h42, (nI 1))
      else
        some (h29, (nI 1))
-- loading
theorem lawLoad_E (hNm : Nm n m p b) (hb : Bo xA n m p b no O h g) (hv : Iv n m p b T C Pb g) (hC : C ≤ 900000) (hPb : Pb ≤ 800000) (h10 : g 0 10 = (no : Int)) (x : Int32) :
    ∃ h' g', lawLoad h x = some (h', iI 1) ∧ Bo xA n m p b no O h' g' ∧ Iv n m p b T C Pb g' ∧ Fz 0 0 h h' ∧ g' 0 10 = (no : Int) := by
  have hN' := hNm
  unfold Nm at hN'
  have hQ := hb.1.1
  have hM := hb.2.1
  have hs := hb.2
  obtain ⟨i, hi, ei⟩ := below_N (h := h) (x >>> ((nI 1) &&& 31)) (n := b) (by omega) (by omega)
  obtain ⟨k, hk, ek⟩ := below_N (h := h) (x >>> ((nI 2) &&& 31)) (n := 4) (by omega) (by omega)
  have vBi := hv.2.2.2.2.2.1 i hi
  have vb : 1 ≤ g (39 + i) 0 ∧ g (39 + i) 0 ≤ 40 := ⟨vBi.1, vBi.2.1⟩
  have b3 : 0 ≤ g (39 + i) 3 ∧ g (39 + i) 3 ≤ 2 := by
    obtain ⟨-, -, -, -, -, -, hw⟩ := vBi
    rcases hw with hw | hw | hw
    · rw [hw.1]; exact ⟨by decide, by decide⟩
    · rw [hw.1]; exact ⟨by decide, by decide⟩
    · rw [hw.1]; exact ⟨by decide, by decide⟩
  have bst : 0 ≤ g (43 + k) 0 ∧ g (43 + k) 0 ≤ 800000 := ⟨(hv.2.2.2.2.2.2.1 k hk).1, Int.le_trans (IvQ.le hv k hk).1 hPb⟩
  clear vBi
  obtain ⟨w0, hw0⟩ : ∃ w0 : Nat, g (39 + i) 0 = (w0 : Int) := ⟨(g (39 + i) 0).toNat, by omega⟩
  obtain ⟨q, hq, eqq⟩ := below_N (h := h) (x >>> ((nI 3) &&& 31)) (n := w0) (by omega) (by omega)
  have e0 := hs.bo (i := i) (s := 0) (by omega) hi (by decide) (by decide)
  have e3 := hs.bo (i := i) (s := 3) (by omega) hi (by decide) (by decide)
  have est := hs.st hk
  rw [hw0] at e0
  have e1 : lawLoad h x = lawLoad2 h (nI i) (nI k) (nI 1 + nI q) := by
    have e0' : hI h (337 + n + m + p + i) (ix (nI 0)) = nI w0 := by rw [nI_i w0]; exact e0
    have ix1 : ix (nI i) = i := by rw [nI_i]; exact iI_ixn (by omega)
    have in1 : ¬ nI i < 0 ∧ ix (nI i) < b := ⟨by rw [nI_i, z_i, iI_lt (by omega) (by omega) (by omega) (by omega)]; omega, by rw [ix1]; exact hi⟩
    have in0 : ¬ nI 0 < 0 ∧ ix (nI 0) < 7 := by decide
    unfold lawLoad
    rw [gd_P hM.t, hM.r16, gd_P hM.tbo, hM.lbo, bn_C ei, bn_C ek, gd_P hM.t, hM.r16, gd_P ⟨hM.tbo, by rw [hM.lbo]; exact in1⟩, ix1, hM.bR hi, gd_P ⟨hM.bT hi, by rw [hM.bL hi]; exact in0⟩, e0', bn_C eqq, lq_E]
    unfold lawLoad2
    rw [ix1]
  rw [e1, nI_i, nI_i, nI_i, nI_i, iI_add, show ((1 : Nat) : Int) = 1 from rfl]
  by_cases c3 : g (39 + i) 3 = 0
  · by_cases c4 : 1 ≤ g (43 + k) 0
    · obtain ⟨F, F2, v, l1, l2, l3, l4, l5⟩ := loadBoth_E hNm hb hv hPb hi hk (w := 1 + (q : Int)) (by omega) (by omega) c3 c4
      refine ⟨sI h F2, _, ?_, l3, l5, l4, ?_⟩
      · rw [c3] at e3
        clear hv l3 l5 c3
        unfold lawLoad2
        simp (disch := first | decide | omega) only [Nat.add_zero, true_and, and_true, gd_T, bn_S, bv_S, lq_E, wI_s, sI_s, hI_s, hT_s, hL_s, hR_s, hJ_s, hN_s, hU_s, nI_i, cst_L, z_i, iI_add, ↓reduceIte, iI_lt, iI_le, iI_eq, iI_ix, Int.toNat_natCast, toNat_L, if_neg, if_pos, gd_P, inb, ix, hM.t, hM.r9, hM.tst, hM.lst, hM.r16, hM.tbo, hM.lbo, hM.bR, hM.bT, hM.bL, e3, est, l1, l2, hQ.t, not_true_eq_false]
      · rw [← h10]; unfold mLoad; simp (disch := omega) only [up2_n]
    · refine ⟨h, g, ?_, hb, hv, Fz.refl h, h10⟩
      have c5 : g (43 + k) 0 = 0 := by omega
      rw [c3] at e3
      rw [c5] at est
      clear hv c3 c4 c5 b3 bst
      unfold lawLoad2
      simp (disch := first | decide | omega) only [Nat.add_zero, true_and, and_true, gd_T, bn_S, bv_S, lq_E, wI_s, sI_s, hI_s, hT_s, hL_s, hR_s, hJ_s, hN_s, hU_s, nI_i, cst_L, z_i, iI_add, ↓reduceIte, iI_lt, iI_le, iI_eq, iI_ix, Int.toNat_natCast, toNat_L, if_neg, if_pos, gd_P, inb, ix, hM.t, hM.r9, hM.tst, hM.lst, hM.r16, hM.tbo, hM.lbo, hM.bR, hM.bT, hM.bL, e3, est, hQ.t, not_true_eq_false]
  · refine ⟨h, g, ?_, hb, hv, Fz.refl h, h10⟩
    clear hv bst
    unfold lawLoad2
    simp (disch := first | decide | omega) only [Nat.add_zero, true_and, and_true, gd_T, bn_S, bv_S, lq_E, wI_s, sI_s, hI_s, hT_s, hL_s, hR_s, hJ_s, hN_s, hU_s, nI_i, cst_L, z_i, iI_add, ↓reduceIte, iI_lt, iI_le, iI_eq, iI_ix, Int.toNat_natCast, toNat_L, if_neg, if_pos, gd_P, inb, ix, hM.t, hM.r9, hM.tst, hM.lst, hM.r16, hM.tbo, hM.lbo, hM.bR, hM.bT, hM.bL, e3, est, hQ.t]
theorem act1_E (hNm : Nm n m p b) (hW : ∀ i, i < no → Wk n m p b (O i)) (hno : no ≤ 100) (hb : Bo xA n m p b no O h g) (hv : Iv n m p b T C Pb g) (hC9 : 99999 ≤ C) (hC : C ≤ 900000) (hT0 : 0 ≤ T) (hTm : T + 9 ≤ 9000) (hPb : Pb + 324 ≤ 800000) (h10 : g 0 10 = (no : Int)) (x : Int32) {r : Nat} (hr : r = 1 ∨ r = 2) (er : f_Law_below h (x >>> ((nI 7) &&& 31)) (nI 8) = some (h, nI r)) :
    ∃ h' g', f_Law_act h 200 320 x = some (h', iI 1) ∧ Bo xA n m p b no O h' g' ∧ Iv n m p b (T + 9) C (Pb + 324) g' ∧ Fz 99 3960 h h' ∧ g' 0 10 = (no : Int) := by
  have e : f_Law_act h 200 320 x = lawLoad h x := by
    unfold f_Law_act
    rcases hr with rfl | rfl
    · rw [er, bn_S, if_neg (nI_ne (a := 1) (b := 0) (by omega) (by omega) (by omega)), if_pos rfl]
      rfl
    · rw [er, bn_S, if_neg (nI_ne (a := 2) (b := 0) (by omega) (by omega) (by omega)), if_neg (nI_ne (a := 2) (b := 1) (by omega) (by omega) (by omega)), if_pos rfl]
      rfl
  obtain ⟨h', g', e1, e2, e3, e4, e5⟩ := lawLoad_E hNm hb hv hC (by omega) h10 x
  exact ⟨h', g', e.trans e1, e2, e3.mono (by omega) (Int.le_refl _) (by omega), e4.mono (by omega) (by omega), e5⟩
-- a shade
theorem act2_E (hNm : Nm n m p b) (hW : ∀ i, i < no → Wk n m p b (O i)) (hno : no ≤ 100) (hb : Bo xA n m p b no O h g) (hv : Iv n m p b T C Pb g) (hC9 : 99999 ≤ C) (hC : C ≤ 900000) (hT0 : 0 ≤ T) (hTm : T + 9 ≤ 9000) (hPb : Pb + 324 ≤ 800000) (h10 : g 0 10 = (no : Int)) (x : Int32) (er : f_Law_below h (x >>> ((nI 7) &&& 31)) (nI 8) = some (h, nI 3)) :
    ∃ h' g', f_Law_act h 200 320 x = some (h', iI 1) ∧ Bo xA n m p b no O h' g' ∧ Iv n m p b (T + 9) C (Pb + 324) g' ∧ Fz 99 3960 h h' ∧ g' 0 10 = (no : Int) := by
  have hN' := hNm
  unfold Nm at hN'
  have hQ := hb.1.1
  have hM := hb.2.1
  have hs := hb.2
  have hS4 := hv.1
  unfold IvSc at hS4
  have c12 : 0 ≤ g 0 12 ∧ g 0 12 ≤ C := by omega
  have c14 : 0 ≤ g 0 14 ∧ g 0 14 ≤ 5 := by omega
  have hv9 : Iv n m p b (T + 9) C (Pb + 324) g := hv.mono (by omega) (Int.le_refl _) (by omega)
  have stay : ∃ h' g', some (h, iI 1) = some (h', iI 1) ∧ Bo xA n m p b no O h' g' ∧ Iv n m p b (T + 9) C (Pb + 324) g' ∧ Fz 99 3960 h h' ∧ g' 0 10 = (no : Int) := ⟨h, g, rfl, hb, hv9, (Fz.refl h).mono (by omega) (by omega), h10⟩
  obtain ⟨i, hi, ei⟩ := below_E (h := h) (x >>> ((iI 1) &&& 31)) (n := 12) (by omega) (by omega)
  obtain ⟨w, hw, ew⟩ := below_E (h := h) (x >>> ((iI 3) &&& 31)) (n := 4) (by omega) (by omega)
  have s1 := hs.w hNm 6 i (Or.inr (Or.inl ⟨rfl, hi⟩)) (a := 321) (k := i) rfl rfl (v := (w : Int)) rfl (by omega)
  have fs : Fs (338 + n + m + p + b + no) (hI h) (up2 (hI h) 321 i (iI (w : Int))) := (Fs.refl _).up _ _ _ (by omega)
  have hc1 := hb.1.ext hNm fs.e
  obtain ⟨F2, d1, d2, d3, d4⟩ := setShade_C hNm hc1 hv hi (w := (w : Int)) (by omega) (by omega)
  have s2 := s1.fc hNm d3
  have q := hs.sh hi
  refine ⟨_, _, ?_, ⟨d2, s2⟩, d4.mono (by omega) (Int.le_refl _) (by omega), (fs.z.trans d3.z).mono (by omega) (by omega), ?_⟩
  · have er2 := er
    have ei' : f_Law_below h (x >>> ((iI 1) &&& 31)) (iI 12) = some (h, iI (i : Int)) := ei
    have ew' : f_Law_below h (x >>> ((iI 3) &&& 31)) (iI 4) = some (h, iI (w : Int)) := ew
    clear stay hv hv9 hS4 d2 s2 s1 d4 d3 hc1
    unfold f_Law_act
    rw [er, bn_S, if_neg (nI_ne (a := 3) (b := 0) (by omega) (by omega) (by omega)), if_neg (nI_ne (a := 3) (b := 1) (by omega) (by omega) (by omega)), if_neg (nI_ne (a := 3) (b := 2) (by omega) (by omega) (by omega)), if_pos rfl]
    simp (disch := first | decide | omega) only [Nat.add_zero, true_and, and_true, gd_T, bn_S, bv_S, lq_E, wI_s, sI_s, hI_s, hT_s, hL_s, hR_s, hJ_s, hN_s, hU_s, nI_i, cst_L, z_i, ↓reduceIte, iI_lt, iI_le, iI_eq, iI_ix, Int.toNat_natCast, toNat_L, if_neg, if_pos, gd_P, inb, ix, hM.t, hM.r7, hM.tsh, hM.lsh, ei', ew', q, d1, hQ.t, not_true_eq_false, up2_e]
  · rw [← h10]; exact up2_n _ _ _ _ _ _ (by omega)
-- the current
theorem act3_E (hNm : Nm n m p b) (hW : ∀ i, i < no → Wk n m p b (O i)) (hno : no ≤ 100) (hb : Bo xA n m p b no O h g) (hv : Iv n m p b T C Pb g) (hC9 : 99999 ≤ C) (hC : C ≤ 900000) (hT0 : 0 ≤ T) (hTm : T + 9 ≤ 9000) (hPb : Pb + 324 ≤ 800000) (h10 : g 0 10 = (no : Int)) (x : Int32) (er : f_Law_below h (x >>> ((nI 7) &&& 31)) (nI 8) = some (h, nI 4)) :
    ∃ h' g', f_Law_act h 200 320 x = some (h', iI 1) ∧ Bo xA n m p b no O h' g' ∧ Iv n m p b (T + 9) C (Pb + 324) g' ∧ Fz 99 3960 h h' ∧ g' 0 10 = (no : Int) := by
  have hN' := hNm
  unfold Nm at hN'
  have hQ := hb.1.1
  have hM := hb.2.1
  have hs := hb.2
  have hS4 := hv.1
  unfold IvSc at hS4
  have c12 : 0 ≤ g 0 12 ∧ g 0 12 ≤ C := by omega
  have c14 : 0 ≤ g 0 14 ∧ g 0 14 ≤ 5 := by omega
  have hv9 : Iv n m p b (T + 9) C (Pb + 324) g := hv.mono (by omega) (Int.le_refl _) (by omega)
  have stay : ∃ h' g', some (h, iI 1) = some (h', iI 1) ∧ Bo xA n m p b no O h' g' ∧ Iv n m p b (T + 9) C (Pb + 324) g' ∧ Fz 99 3960 h h' ∧ g' 0 10 = (no : Int) := ⟨h, g, rfl, hb, hv9, (Fz.refl h).mono (by omega) (by omega), h10⟩
  obtain ⟨y, hy, ey⟩ := below_E (h := h) x (n := 3) (by omega) (by omega)
  have ey' : f_Law_below h x (iI 3) = some (h, iI (y : Int)) := ey
  by_cases c : y = 0
  · subst c
    obtain ⟨w, hw, ew⟩ := below_E (h := h) (x >>> ((iI 2) &&& 31)) (n := 6) (by omega) (by omega)
    have s1 := hs.w hNm 0 14 (Or.inl ⟨rfl, by decide, by decide⟩) (a := 320) (k := 6) rfl rfl (v := (w : Int)) rfl (by omega)
    have fs : Fs (338 + n + m + p + b + no) (hI h) (up2 (hI h) 320 6 (iI (w : Int))) := (Fs.refl _).up _ _ _ (by omega)
    have hc1 := hb.1.ext hNm fs.e
    obtain ⟨F2, d1, d2, d3, d4⟩ := setCurrent_C hNm hc1 hv (w := (w : Int)) (by omega) (by omega)
    have s2 := s1.fc hNm d3
    have q := hs.current
    refine ⟨_, _, ?_, ⟨d2, s2⟩, d4.mono (by omega) (Int.le_refl _) (by omega), (fs.z.trans d3.z).mono (by omega) (by omega), ?_⟩
    · have ew' : f_Law_below h (x >>> ((iI 2) &&& 31)) (iI 6) = some (h, iI (w : Int)) := ew
      have ey2 : f_Law_below h x (iI 3) = some (h, iI 0) := ey
      clear stay hv hv9 hS4 d2 s2 s1 d4 d3 hc1 ey'
      unfold f_Law_act
      rw [er, bn_S, if_neg (nI_ne (a := 4) (b := 0) (by omega) (by omega) (by omega)), if_neg (nI_ne (a := 4) (b := 1) (by omega) (by omega) (by omega)), if_neg (nI_ne (a := 4) (b := 2) (by omega) (by omega) (by omega)), if_neg (nI_ne (a := 4) (b := 3) (by omega) (by omega) (by omega)), if_pos rfl]
      simp (disch := first | decide | omega) only [Nat.add_zero, true_and, and_true, gd_T, bn_S, bv_S, lq_E, wI_s, sI_s, hI_s, hT_s, hL_s, hR_s, hJ_s, hN_s, hU_s, nI_i, cst_L, z_i, ↓reduceIte, iI_lt, iI_le, iI_eq, iI_ix, Int.toNat_natCast, toNat_L, if_neg, if_pos, gd_P, inb, ix, hM.t, ey2, ew', q, d1, hQ.t, not_true_eq_false, up2_e]
    · rw [← h10]; exact up2_n _ _ _ _ _ _ (by omega)
  · obtain ⟨h', g', st1, st2⟩ := stay
    refine ⟨h', g', ?_, st2⟩
    rw [← st1]
    clear hv hv9 hS4 st2
    unfold f_Law_act
    rw [er, bn_S, if_neg (nI_ne (a := 4) (b := 0) (by omega) (by omega) (by omega)), if_neg (nI_ne (a := 4) (b := 1) (by omega) (by omega) (by omega)), if_neg (nI_ne (a := 4) (b := 2) (by omega) (by omega) (by omega)), if_neg (nI_ne (a := 4) (b := 3) (by omega) (by omega) (by omega)), if_pos rfl]
    simp (disch := first | decide | omega) only [Nat.add_zero, true_and, and_true, gd_T, bn_S, bv_S, lq_E, wI_s, sI_s, hI_s, hT_s, hL_s, hR_s, hJ_s, hN_s, hU_s, nI_i, cst_L, z_i, ↓reduceIte, iI_lt, iI_le, iI_eq, iI_ix, Int.toNat_natCast, toNat_L, if_neg, if_pos, gd_P, inb, ix, hM.t, ey']
-- coins
theorem act4_E (hNm : Nm n m p b) (hW : ∀ i, i < no → Wk n m p b (O i)) (hno : no ≤ 100) (hb : Bo xA n m p b no O h g) (hv : Iv n m p b T C Pb g) (hC9 : 99999 ≤ C) (hC : C ≤ 900000) (hT0 : 0 ≤ T) (hTm : T + 9 ≤ 9000) (hPb : Pb + 324 ≤ 800000) (h10 : g 0 10 = (no : Int)) (x : Int32) (er : f_Law_below h (x >>> ((nI 7) &&& 31)) (nI 8) = some (h, nI 5)) :
    ∃ h' g', f_Law_act h 200 320 x = some (h', iI 1) ∧ Bo xA n m p b no O h' g' ∧ Iv n m p b (T + 9) C (Pb + 324) g' ∧ Fz 99 3960 h h' ∧ g' 0 10 = (no : Int) := by
  have hN' := hNm
  unfold Nm at hN'
  have hQ := hb.1.1
  have hM := hb.2.1
  have hs := hb.2
  have hS4 := hv.1
  unfold IvSc at hS4
  have c12 : 0 ≤ g 0 12 ∧ g 0 12 ≤ C := by omega
  have c14 : 0 ≤ g 0 14 ∧ g 0 14 ≤ 5 := by omega
  have hv9 : Iv n m p b (T + 9) C (Pb + 324) g := hv.mono (by omega) (Int.le_refl _) (by omega)
  have stay : ∃ h' g', some (h, iI 1) = some (h', iI 1) ∧ Bo xA n m p b no O h' g' ∧ Iv n m p b (T + 9) C (Pb + 324) g' ∧ Fz 99 3960 h h' ∧ g' 0 10 = (no : Int) := ⟨h, g, rfl, hb, hv9, (Fz.refl h).mono (by omega) (by omega), h10⟩
  obtain ⟨w, hw, ew⟩ := below_E (h := h) (x >>> ((iI 2) &&& 31)) (n := 300) (by omega) (by omega)
  have s1 := hs.w hNm 0 12 (Or.inl ⟨rfl, by decide, by decide⟩) (a := 320) (k := 1) rfl rfl (v := min 99999 (g 0 12 + (1 + (w : Int)))) rfl (by omega)
  have fs : Fs (338 + n + m + p + b + no) (hI h) (up2 (hI h) 320 1 (iI (min 99999 (g 0 12 + (1 + (w : Int)))))) := (Fs.refl _).up _ _ _ (by omega)
  have hc1 := hb.1.ext hNm fs.e
  obtain ⟨F2, d1, d2, d3, d4⟩ := grant_C hNm hc1 hv hC hC9 (w := 1 + (w : Int)) (by omega) (by omega)
  have s2 := s1.fc hNm d3
  have q := hs.coins
  have q2 := s2.coins
  rw [up2_e] at q2
  refine ⟨_, _, ?_, ⟨d2, s2⟩, d4.mono (by omega) (Int.le_refl _) (by omega), (fs.z.trans d3.z).mono (by omega) (by omega), ?_⟩
  · have er2 := er
    have ew' : f_Law_below h (x >>> ((iI 2) &&& 31)) (iI 300) = some (h, iI (w : Int)) := ew
    rw [hI_s] at q2
    clear stay hv hv9 hS4 d2 s2 s1 d4 d3 hc1
    unfold f_Law_act
    rw [er, bn_S, if_neg (nI_ne (a := 5) (b := 0) (by omega) (by omega) (by omega)), if_neg (nI_ne (a := 5) (b := 1) (by omega) (by omega) (by omega)), if_neg (nI_ne (a := 5) (b := 2) (by omega) (by omega) (by omega)), if_neg (nI_ne (a := 5) (b := 3) (by omega) (by omega) (by omega)), if_neg (nI_ne (a := 5) (b := 4) (by omega) (by omega) (by omega)), if_pos rfl]
    simp (disch := first | decide | omega) only [Nat.add_zero, true_and, and_true, gd_T, bn_S, bv_S, lq_E, wI_s, sI_s, hI_s, hT_s, hL_s, hR_s, hJ_s, hN_s, hU_s, nI_i, cst_L, z_i, iI_add, ↓reduceIte, iI_lt, iI_le, iI_eq, iI_ix, Int.toNat_natCast, toNat_L, if_neg, if_pos, gd_P, inb, ix, hM.t, ew', min_E, q, d1, q2, hQ.t, not_true_eq_false, up2_e]
  · rw [← h10]; exact up2_n _ _ _ _ _ _ (by omega)
-- hours
theorem act5_E (hNm : Nm n m p b) (hW : ∀ i, i < no → Wk n m p b (O i)) (hno : no ≤ 100) (hb : Bo xA n m p b no O h g) (hv : Iv n m p b T C Pb g) (hC9 : 99999 ≤ C) (hC : C ≤ 900000) (hT0 : 0 ≤ T) (hTm : T + 9 ≤ 9000) (hPb : Pb + 324 ≤ 800000) (h10 : g 0 10 = (no : Int)) (x : Int32) {r : Nat} (r8 : r < 8) (hr : 6 ≤ r) (er : f_Law_below h (x >>> ((nI 7) &&& 31)) (nI 8) = some (h, nI r)) :
    ∃ h' g', f_Law_act h 200 320 x = some (h', iI 1) ∧ Bo xA n m p b no O h' g' ∧ Iv n m p b (T + 9) C (Pb + 324) g' ∧ Fz 99 3960 h h' ∧ g' 0 10 = (no : Int) := by
  have hN' := hNm
  unfold Nm at hN'
  have hQ := hb.1.1
  have hM := hb.2.1
  have hs := hb.2
  have hS4 := hv.1
  unfold IvSc at hS4
  have c12 : 0 ≤ g 0 12 ∧ g 0 12 ≤ C := by omega
  have c14 : 0 ≤ g 0 14 ∧ g 0 14 ≤ 5 := by omega
  have hv9 : Iv n m p b (T + 9) C (Pb + 324) g := hv.mono (by omega) (Int.le_refl _) (by omega)
  have stay : ∃ h' g', some (h, iI 1) = some (h', iI 1) ∧ Bo xA n m p b no O h' g' ∧ Iv n m p b (T + 9) C (Pb + 324) g' ∧ Fz 99 3960 h h' ∧ g' 0 10 = (no : Int) := ⟨h, g, rfl, hb, hv9, (Fz.refl h).mono (by omega) (by omega), h10⟩
  obtain ⟨w, hw, ew⟩ := below_E (h := h) (x >>> ((iI 2) &&& 31)) (n := 9) (by omega) (by omega)
  obtain ⟨h1, e1, e2, e3⟩ := simBehind_E hNm hno hC9 hC hW (w + 1) 0 FU (w + 1) T Pb h g (by omega) (by omega) (by unfold FU; omega) hT0 (by omega) (by omega) hs hv
  have hc1 := hb.1.fx hNm e3
  obtain ⟨F2, d1, d2, d3, d4⟩ := pass_E hNm hW hC9 hC hc1 hv (K := w + 1) (by omega) (by omega) hT0 (by omega) (by omega)
  have s2 := e2.fc hNm d3
  have q := hs.peeled
  have q2 := s2.peeled
  refine ⟨_, _, ?_, ⟨d2, s2⟩, d4.mono (by omega) (Int.le_refl _) (by omega), (e3.z.trans d3.z).mono (by omega) (by omega), ?_⟩
  · have er2 := er
    have ew' : f_Law_below h (x >>> ((iI 2) &&& 31)) (iI 9) = some (h, iI (w : Int)) := ew
    have hww : 1 + (w : Int) = ((w + 1 : Nat) : Int) := by omega
    have e1' : f_Sim_behind h 320 (iI ((w + 1 : Nat) : Int)) = some (h1, 320) := e1
    have hQ1 := hc1.1
    have hM1 := e2.1
    rw [hI_s] at q2
    clear stay hv hv9 hS4 d2 s2 d4 d3 hc1 e3 e2 e1
    unfold f_Law_act
    rw [er, bn_S, if_neg (nI_ne (a := r) (b := 0) (by omega) (by omega) (by omega)), if_neg (nI_ne (a := r) (b := 1) (by omega) (by omega) (by omega)), if_neg (nI_ne (a := r) (b := 2) (by omega) (by omega) (by omega)), if_neg (nI_ne (a := r) (b := 3) (by omega) (by omega) (by omega)), if_neg (nI_ne (a := r) (b := 4) (by omega) (by omega) (by omega)), if_neg (nI_ne (a := r) (b := 5) (by omega) (by omega) (by omega))]
    simp (disch := first | decide | omega) only [Nat.add_zero, true_and, and_true, gd_T, bn_S, bv_S, lq_E, wI_s, sI_s, hI_s, hT_s, hL_s, hR_s, hJ_s, hN_s, hU_s, nI_i, cst_L, z_i, iI_add, iI_lt, iI_le, iI_eq, iI_ix, Int.toNat_natCast, toNat_L, if_neg, if_pos, gd_P, inb, ix, hM.t, ew', hww, e1', q, d1, q2, hQ1.t, hM1.t, iI_sub, not_true_eq_false, ↓reduceIte]
  · rw [mHrs_10 hNm]; exact h10
theorem act_E (hNm : Nm n m p b) (hW : ∀ i, i < no → Wk n m p b (O i)) (hno : no ≤ 100) (hb : Bo xA n m p b no O h g) (hv : Iv n m p b T C Pb g) (hC9 : 99999 ≤ C) (hC : C ≤ 900000) (hT0 : 0 ≤ T) (hTm : T + 9 ≤ 9000) (hPb : Pb + 324 ≤ 800000) (h10 : g 0 10 = (no : Int)) (x : Int32) :
    ∃ h' g', f_Law_act h 200 320 x = some (h', iI 1) ∧ Bo xA n m p b no O h' g' ∧ Iv n m p b (T + 9) C (Pb + 324) g' ∧ Fz 99 3960 h h' ∧ g' 0 10 = (no : Int) := by
  obtain ⟨r, r8, er⟩ := below_N (h := h) (x >>> ((nI 7) &&& 31)) (n := 8) (by omega) (by omega)
  rcases (show r = 0 ∨ (r = 1 ∨ r = 2) ∨ r = 3 ∨ r = 4 ∨ r = 5 ∨ 6 ≤ r by omega) with rfl | hr | rfl | rfl | rfl | hr
  · exact act0_E hNm hW hno hb hv hC9 hC hT0 hTm hPb h10 x er
  · exact act1_E hNm hW hno hb hv hC9 hC hT0 hTm hPb h10 x hr er
  · exact act2_E hNm hW hno hb hv hC9 hC hT0 hTm hPb h10 x er
  · exact act3_E hNm hW hno hb hv hC9 hC hT0 hTm hPb h10 x er
  · exact act4_E hNm hW hno hb hv hC9 hC hT0 hTm hPb h10 x er
  · exact act5_E hNm hW hno hb hv hC9 hC hT0 hTm hPb h10 x r8 hr er
end

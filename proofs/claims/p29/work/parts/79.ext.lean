/-! 79 L3: heaps that grow: the class and the sim stay -/
def E4 (h h' : AH) (a : Nat) : Prop := hT h' a = hT h a ∧ hL h' a = hL h a ∧ hI h' a = hI h a ∧ hR h' a = hR h a
def Gx (c d : Nat) (h h' : AH) : Prop := hN h ≤ hN h' ∧ hN h' ≤ hN h + c ∧ hU h' ≤ hU h + d ∧ ∀ a, a < hN h → E4 h h' a
theorem Gx.refl (h : AH) : Gx 0 0 h h := ⟨Nat.le_refl _, Nat.le_refl _, Nat.le_refl _, fun _ _ => ⟨rfl, rfl, rfl, rfl⟩⟩
theorem Gx.trans {c d c' d' : Nat} {h h' h'' : AH} (h1 : Gx c d h h') (h2 : Gx c' d' h' h'') : Gx (c + c') (d + d') h h'' := by
  obtain ⟨a1, a2, a3, a4⟩ := h1
  obtain ⟨b1, b2, b3, b4⟩ := h2
  refine ⟨by omega, by omega, by omega, fun a ha => ?_⟩
  obtain ⟨p1, p2, p3, p4⟩ := a4 a ha
  obtain ⟨q1, q2, q3, q4⟩ := b4 a (by omega)
  exact ⟨q1.trans p1, q2.trans p2, q3.trans p3, q4.trans p4⟩
theorem Gx.mono {c d c' d' : Nat} {h h' : AH} (k : Gx c d h h') (h1 : c ≤ c') (h2 : d ≤ d') : Gx c' d' h h' := ⟨k.1, by have := k.2.1; omega, by have := k.2.2.1; omega, k.2.2.2⟩
-- the skeletons
theorem SkR.ext {h h' : AH} {r b : Nat} (k : SkR h r) (hb : r + 47 ≤ b) (e : ∀ a, a < b → E4 h h' a) : SkR h' r := by
  have eT : ∀ a, a < b → hT h' a = hT h a := fun a ha => (e a ha).1
  have eL : ∀ a, a < b → hL h' a = hL h a := fun a ha => (e a ha).2.1
  have eR : ∀ a s, a < b → hR h' a s = hR h a s := fun a s ha => congrFun (e a ha).2.2.2 s
  obtain ⟨k0, k1, k2, k3, k4, k5, k6, ⟨ka1, ka2, ka3, ka4, ka5, ka6, ka7, ka8, ka9, kaa, kab, kac⟩, kg, kk, kp, kb, kq⟩ := k
  unfold SkR
  rw [eT r (by omega), eR r 0 (by omega), eR r 1 (by omega), eR r 2 (by omega), eR r 3 (by omega), eR r 4 (by omega), eR r 5 (by omega), eT (r + 1) (by omega), eT (r + 2) (by omega), eT (r + 3) (by omega), eT (r + 4) (by omega), eT (r + 5) (by omega), eT (r + 6) (by omega), eL (r + 1) (by omega), eL (r + 2) (by omega), eL (r + 3) (by omega), eL (r + 4) (by omega), eL (r + 5) (by omega), eL (r + 6) (by omega)]
  refine ⟨k0, k1, k2, k3, k4, k5, k6, ⟨ka1, ka2, ka3, ka4, ka5, ka6, ka7, ka8, ka9, kaa, kab, kac⟩, fun i hi => ?_, fun i hi => ?_, fun i hi => ?_, fun i hi => ?_, fun i hi => ?_⟩
  · rw [eR _ _ (by omega), eT _ (by omega)]; exact kg i hi
  · rw [eR (r + 2) _ (by omega), eR (r + (11 + 5 * i)) 3 (by omega), eR (r + (11 + 5 * i)) 4 (by omega), eR (r + (11 + 5 * i)) 5 (by omega), eR (r + (11 + 5 * i)) 6 (by omega), eT (r + (11 + 5 * i)) (by omega), eT (r + (12 + 5 * i)) (by omega), eT (r + (13 + 5 * i)) (by omega), eT (r + (14 + 5 * i)) (by omega), eT (r + (15 + 5 * i)) (by omega), eL (r + (12 + 5 * i)) (by omega), eL (r + (13 + 5 * i)) (by omega), eL (r + (14 + 5 * i)) (by omega), eL (r + (15 + 5 * i)) (by omega)]
    exact kk i hi
  · rw [eR _ _ (by omega), eT _ (by omega)]; exact kp i hi
  · rw [eR _ _ (by omega), eT _ (by omega)]; exact kb i hi
  · rw [eR _ _ (by omega), eT _ (by omega)]; exact kq i hi
theorem SkO.ext {h h' : AH} {b : Nat} (k : SkO h) (hb : 206 ≤ b) (e : ∀ a, a < b → E4 h h' a) : SkO h' := by
  have eT : ∀ a, a < b → hT h' a = hT h a := fun a ha => (e a ha).1
  have eL : ∀ a, a < b → hL h' a = hL h a := fun a ha => (e a ha).2.1
  have eR : ∀ a s, a < b → hR h' a s = hR h a s := fun a s ha => congrFun (e a ha).2.2.2 s
  unfold SkO
  rw [eT 202 (by omega), eR 202 0 (by omega), eR 202 1 (by omega), eR 202 3 (by omega), eT 203 (by omega), eT 204 (by omega), eT 205 (by omega), eL 203 (by omega), eL 204 (by omega), eL 205 (by omega)]
  exact k
theorem SkQ.ext {h h' : AH} {b : Nat} (k : SkQ h) (hb : 206 ≤ b) (e : ∀ a, a < b → E4 h h' a) : SkQ h' := by
  have eT : ∀ a, a < b → hT h' a = hT h a := fun a ha => (e a ha).1
  have eL : ∀ a, a < b → hL h' a = hL h a := fun a ha => (e a ha).2.1
  have eR : ∀ a s, a < b → hR h' a s = hR h a s := fun a s ha => congrFun (e a ha).2.2.2 s
  unfold SkQ
  rw [eT 200 (by omega), eR 200 0 (by omega), eR 200 3 (by omega), eR 200 4 (by omega), eR 200 9 (by omega), eT 201 (by omega), eL 201 (by omega)]
  exact k
theorem Cl.ext {n m p b no : Nat} {O : Nat → Nat → Int} {h h' : AH} {g : GM} (hNm : Nm n m p b) (hc : Cl n m p b O no h g) (e : ∀ a, a < 320 → E4 h h' a) : Cl n m p b O no h' g := by
  obtain ⟨hQ, hS, hS2, hO, hP, hA, h1⟩ := hc
  have eI : ∀ a s, a < 320 → hI h' a s = hI h a s := fun a s ha => congrFun (e a ha).2.2.1 s
  unfold Nm at hNm
  refine ⟨hQ.ext (b := 320) (by omega) e, hS.ext (b := 320) (by omega) e, hS2.ext (b := 320) (by omega) e, hO.ext (b := 320) (by omega) e, fun c s hl => ?_, hA.fr fun c s hc => eI c s (by omega), by rw [eI _ _ (by omega)]; exact h1⟩
  have hc47 : c < 47 := by unfold Lv at hl; omega
  rw [eI _ _ (by omega)]
  exact hP c s hl
theorem Fx.e {xA c d : Nat} {h h' : AH} (k : Fx xA c d h h') : ∀ a, a < 320 ∨ a = xA → E4 h h' a := fun a ha => ⟨(k.2.2.2 a ha).1, (k.2.2.2 a ha).2.1, (k.2.2.2 a ha).2.2.1, (k.2.2.2 a ha).2.2.2.1⟩
theorem Sm.ext {xA n m p b no : Nat} {O : Nat → Nat → Int} {h h' : AH} {g : GM} (hNm : Nm n m p b) (hs : Sm xA n m p b no O h g) (e0 : hN h ≤ hN h') (e : ∀ a, 320 ≤ a → a < hN h → E4 h h' a) : Sm xA n m p b no O h' g := by
  have hN' := hNm
  unfold Nm at hN'
  obtain ⟨hM, hA, hB, hD, hO, hT', hX⟩ := hs
  have hT2 := hT'
  unfold tp at hT2
  have eT : ∀ a, 320 ≤ a → a < hN h → hT h' a = hT h a := fun a h1 ha => (e a h1 ha).1
  have eL : ∀ a, 320 ≤ a → a < hN h → hL h' a = hL h a := fun a h1 ha => (e a h1 ha).2.1
  have eI : ∀ a s, 320 ≤ a → a < hN h → hI h' a s = hI h a s := fun a s h1 ha => congrFun (e a h1 ha).2.2.1 s
  have eR : ∀ a s, 320 ≤ a → a < hN h → hR h' a s = hR h a s := fun a s h1 ha => congrFun (e a h1 ha).2.2.2 s
  have row : ∀ q, hR h' (334 + n) q = hR h (334 + n) q := fun q => eR _ _ (by omega) (by omega)
  have rowj : ∀ q, q < m → ∀ x, hR h' (hR h (334 + n) q) x = hR h (hR h (334 + n) q) x := fun q hq x => by
    obtain ⟨b1, b2, b3, b4, b5⟩ := hB q hq
    exact eR _ _ (by omega) b3
  refine ⟨?_, ?_, fun q hq => ?_, fun q1 q2 j1 j2 h1 h2 h3 h4 h5 => ?_, fun x hx t ht => ?_, by omega, ⟨by rcases hX.1 with k | k; exact Or.inl k; exact Or.inr ⟨k.1, by omega⟩, fun q hq j hj => by rw [row q, rowj q hq]; exact hX.2 q hq j hj⟩⟩
  · obtain ⟨k1, k2, k3, k4, k5, k6, k7, k8, k9, k10, k11, k12, k13, k14, k15, k16, k17, k18, k19, k20, k21, k22, k23, k24, k25, k26, k27, k28, k29, k30, k31, k32, k33, k34, kg, kp, kb, ko⟩ := hM
    unfold SkM
    simp (disch := omega) only [eT, eL, eR]
    refine ⟨k1, k2, k3, k4, k5, k6, k7, k8, k9, k10, k11, k12, k13, k14, k15, k16, k17, k18, k19, k20, k21, k22, k23, k24, k25, k26, k27, k28, k29, k30, k31, k32, k33, k34, fun i hi => ?_, fun i hi => ?_, fun i hi => ?_, fun i hi => ?_⟩
    · rw [eT _ (by omega) (by omega), eL _ (by omega) (by omega)]; exact kg i hi
    · rw [eT _ (by omega) (by omega), eL _ (by omega) (by omega)]; exact kp i hi
    · rw [eT _ (by omega) (by omega), eL _ (by omega) (by omega)]; exact kb i hi
    · rw [eT _ (by omega) (by omega), eL _ (by omega) (by omega)]; exact ko i hi
  · intro c s hl hp
    have q := sA_b2 hNm hl
    rw [eI _ _ (by omega) (by omega)]
    exact hA c s hl hp
  · obtain ⟨b1, b2, b3, b4, b5⟩ := hB q hq
    unfold SB1
    rw [row q]
    refine ⟨by rw [eT _ (by omega) b3]; exact b1, by rw [eL _ (by omega) b3]; exact b2, by omega, b4, fun x hx => ?_⟩
    obtain ⟨d1, d2, d3, d4, d5, d6, d7, d8⟩ := b5 x hx
    have d3' := d3
    unfold tp at d3'
    rw [rowj q hq, eT _ (by omega) d4, eL _ (by omega) d4, eI _ _ (by omega) d4, eI _ _ (by omega) d4, eI _ _ (by omega) d4, eI _ _ (by omega) d4]
    exact ⟨d1, d2, d3, by omega, d5, d6, d7, d8⟩
  · rw [row q1, rowj q1 h1, row q2, rowj q2 h2] at h5
    exact hD q1 q2 j1 j2 h1 h2 h3 h4 h5
  · rw [eI _ _ (by omega) (by omega)]
    exact hO x hx t ht
-- both
def Bo (xA n m p b no : Nat) (O : Nat → Nat → Int) (h : AH) (g : GM) : Prop := Cl n m p b O no h g ∧ Sm xA n m p b no O h g
theorem Bo.ext {xA n m p b no : Nat} {O : Nat → Nat → Int} {h h' : AH} {g : GM} {c d : Nat} (hNm : Nm n m p b) (hb : Bo xA n m p b no O h g) (e : Gx c d h h') : Bo xA n m p b no O h' g := by
  have hT2 := hb.2.2.2.2.2.2.1
  unfold tp at hT2
  exact ⟨hb.1.ext hNm fun a ha => e.2.2.2 a (by omega), hb.2.ext hNm e.1 fun a _ ha => e.2.2.2 a ha⟩
theorem Cl.fx {xA n m p b no : Nat} {O : Nat → Nat → Int} {h h' : AH} {g : GM} {c d : Nat} (hNm : Nm n m p b) (hc : Cl n m p b O no h g) (e : Fx xA c d h h') : Cl n m p b O no h' g := hc.ext hNm fun a ha => e.e a (Or.inl ha)
theorem Sm.fc {xA n m p b no : Nat} {O : Nat → Nat → Int} {h : AH} {g : GM} {F : Nat → Nat → Int32} (hNm : Nm n m p b) (hs : Sm xA n m p b no O h g) (e : Fc (hI h) F) : Sm xA n m p b no O (sI h F) g := hs.ext hNm (Nat.le_refl _) fun a h1 _ => ⟨rfl, rfl, funext fun s => e a s (Or.inl h1), rfl⟩
theorem loopB {α : Type} (L : Nat → AH → Nat → Option α) (K : AH → Option α) (N : Nat) (c d : Nat) (J : AH → Prop)
    (hstep : ∀ (fu i : Nat) (h : AH), i < N → J h → ∃ h', L (fu + 1) h i = L fu h' (i + 1) ∧ J h' ∧ Gx c d h h')
    (hend : ∀ (fu : Nat) (h : AH), J h → L (fu + 1) h N = K h) :
    ∀ (k i fu : Nat) (h : AH), i + k = N → k < fu → J h → ∃ h', L fu h i = K h' ∧ J h' ∧ Gx (k * c) (k * d) h h' := by
  intro k
  induction k with
  | zero =>
    intro i fu h e hf hJ
    obtain ⟨fu, rfl⟩ : ∃ x, fu = x + 1 := ⟨fu - 1, by omega⟩
    obtain rfl : i = N := by omega
    exact ⟨h, hend fu h hJ, hJ, (Gx.refl h).mono (by omega) (by omega)⟩
  | succ k ih =>
    intro i fu h e hf hJ
    obtain ⟨fu, rfl⟩ : ∃ x, fu = x + 1 := ⟨fu - 1, by omega⟩
    obtain ⟨h1, e1, e2, e3⟩ := hstep fu i h (by omega) hJ
    obtain ⟨h2, d1, d2, d3⟩ := ih (i + 1) fu h1 (by omega) (by omega) e2
    refine ⟨h2, e1.trans d1, d2, (e3.trans d3).mono ?_ ?_⟩
    · rw [Nat.succ_mul]; omega
    · rw [Nat.succ_mul]; omega
-- a new row of ints, written
theorem Gx.row {h : AH} {t k : Nat} (F : Nat → Nat → Int32) (e : ∀ a, a < hN h → F a = hI h a) : Gx 1 k h (sI (hA h t k) F) := by
  refine ⟨by rw [hN_s, hN_a]; omega, by rw [hN_s, hN_a]; omega, by rw [hU_s, hU_a]; omega, fun a ha => ⟨?_, ?_, ?_, ?_⟩⟩
  · rw [hT_s, hT_a, up1_n _ _ _ _ (by omega)]
  · rw [hL_s, hL_a, up1_n _ _ _ _ (by omega)]
  · rw [hI_s]; exact e a ha
  · rw [hR_s, hR_a, up1_n _ _ _ _ (by omega)]

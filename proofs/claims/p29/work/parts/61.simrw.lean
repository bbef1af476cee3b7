/-! 61 L3: the sim: reading and writing (written by l3/gen61.py) -/
theorem toNat_L (n : Nat) : Int.toNat (no_index (OfNat.ofNat n)) = OfNat.ofNat n := rfl
theorem PL_of {g : GM} {c s : Nat} (h : ¬ (39 ≤ c ∧ c < 43 ∧ s = 5)) : PL g c s := fun q => h ⟨q.1, q.2.1, q.2.2.1⟩
theorem PL_q {g : GM} {c s : Nat} (h : g c 4 ≠ 0) : PL g c s := fun q => h q.2.2.2
section
variable {xA n m p b no : Nat} {O : Nat → Nat → Int} {h : AH} {g : GM}
theorem Sm.hour (hs : Sm xA n m p b no O h g) : hI h 320 0 = iI (g 0 11) := hs.2.1.hour (PL_of (by omega))
theorem Sm.coins (hs : Sm xA n m p b no O h g) : hI h 320 1 = iI (g 0 12) := hs.2.1.coins (PL_of (by omega))
theorem Sm.peeled (hs : Sm xA n m p b no O h g) : hI h 320 2 = iI (g 0 15) := hs.2.1.peeled (PL_of (by omega))
theorem Sm.sold (hs : Sm xA n m p b no O h g) : hI h 320 3 = iI (g 0 16) := hs.2.1.sold (PL_of (by omega))
theorem Sm.done (hs : Sm xA n m p b no O h g) : hI h 320 4 = iI (g 0 17) := hs.2.1.done (PL_of (by omega))
theorem Sm.miles (hs : Sm xA n m p b no O h g) : hI h 320 5 = iI (g 0 13) := hs.2.1.miles (PL_of (by omega))
theorem Sm.current (hs : Sm xA n m p b no O h g) : hI h 320 6 = iI (g 0 14) := hs.2.1.current (PL_of (by omega))
theorem Sm.sh (hs : Sm xA n m p b no O h g) {s : Nat} (h1 : s < 12) : hI h 321 s = iI (g 6 s) := hs.2.1.sh h1 (PL_of (by omega))
theorem Sm.ga (hs : Sm xA n m p b no O h g) {i s : Nat} (h4 : i < 4) (hi : i < n) (h3 : s < 3) : hI h (333 + i) s = iI (g (7 + i) s) := hs.2.1.ga h4 hi h3 (PL_of (by omega))
theorem Sm.ho (hs : Sm xA n m p b no O h g) {i : Nat} (h4 : i < 4) (hi : i < m) : hI h (333 + n) i = iI (g (11 + 5 * i) 0) := hs.2.1.ho h4 hi (PL_of (by omega))
theorem Sm.pe (hs : Sm xA n m p b no O h g) {i s : Nat} (h8 : i < 8) (hi : i < p) (h7 : s < 7) : hI h (336 + n + m + i) s = iI (g (31 + i) s) := hs.2.1.pe h8 hi h7 (PL_of (by omega))
theorem Sm.bo (hs : Sm xA n m p b no O h g) {i s : Nat} (h4 : i < 4) (hi : i < b) (h7 : s < 7) (h5 : s ≠ 5) : hI h (337 + n + m + p + i) s = iI (g (39 + i) s) := hs.2.1.bo h4 hi h7 (PL_of (by omega))
theorem Sm.st (hs : Sm xA n m p b no O h g) {k : Nat} (hk : k < 4) : hI h 323 k = iI (g (43 + k) 0) := hs.2.1.st hk (PL_of (by omega))
theorem Sm.pr (hs : Sm xA n m p b no O h g) {k : Nat} (hk : k < 4) : hI h 322 k = iI (g (43 + k) 1) := hs.2.1.pr hk (PL_of (by omega))
theorem Sm.gl (hs : Sm xA n m p b no O h g) {k : Nat} (hk : k < 4) : hI h 324 k = iI (g (43 + k) 2) := hs.2.1.gl hk (PL_of (by omega))
theorem Sm.go (hs : Sm xA n m p b no O h g) {k : Nat} (hk : k < 4) : hI h 325 k = iI (g (43 + k) 3) := hs.2.1.go hk (PL_of (by omega))
theorem Sm.orw (hs : Sm xA n m p b no O h g) {i s : Nat} (hi : i < no) (h8 : s < 8) : hI h (338 + n + m + p + b + i) s = iI (O i s) := hs.2.2.2.2.1 i hi s h8
theorem mct_L0 {c s : Nat} (hN : Nm n m p b) (hl : L0 n m p b c s) (v : Int) {k : Nat} (hk : k < m) : mct (up2 g c s v) k = mct g k := by
  unfold Nm at hN
  unfold L0 at hl
  unfold mct
  exact up2_n _ _ _ _ _ _ (by omega)
theorem Sm.w (hN : Nm n m p b) (hs : Sm xA n m p b no O h g) (c s : Nat) (hl : L0 n m p b c s) {a k : Nat} (ha : sA n m p c s = a) (hk : sS c s = k) {x : Int32} {v : Int} (hx : x = iI v) (hq : ¬ (39 ≤ c ∧ c < 43 ∧ s = 4)) : Sm xA n m p b no O (sI h (up2 (hI h) a k x)) (up2 g c s v) := by
  have hN' := hN
  unfold Nm at hN'
  obtain ⟨hM, hA, hB, hD, hO, hT, hX⟩ := hs
  have ab := sA_b2 hN hl
  rw [ha] at ab
  refine ⟨hM, (AgS.up hN hA c s hl ha hk hx).mono ?_, fun q hq' => ?_, fun q q' j j' h1 h2 h3 h4 h5 => ?_, fun i hi t ht => ?_, hT, hX.1, fun q hq j hj => hX.2 q hq j (by rw [mct_L0 hN hl v hq] at hj; exact hj)⟩
  · intro c' s' hp
    by_cases e : c' = c ∧ s' = s
    · exact Or.inr e
    · refine Or.inl (fun q => hp ⟨q.1, q.2.1, q.2.2.1, ?_⟩)
      rw [up2_n _ _ _ _ _ _ (by omega)]
      exact q.2.2.2
  · obtain ⟨b1, b2, b3, b4, b5⟩ := hB q hq'
    unfold SB1
    rw [mct_L0 hN hl v hq']
    refine ⟨b1, b2, b3, b4, fun j hj => ?_⟩
    obtain ⟨d1, d2, d3, d4, d5, d6, d7, d8⟩ := b5 j hj
    have hg : ∀ w, 1 ≤ w → w ≤ 4 → up2 g c s v (11 + w + 5 * q) j = g (11 + w + 5 * q) j := by
      intro w w1 w2
      unfold L0 at hl
      exact up2_n _ _ _ _ _ _ (by omega)
    have g1 := hg 1 (by omega) (by omega)
    have g2 := hg 2 (by omega) (by omega)
    have g3 := hg 3 (by omega) (by omega)
    have g4 := hg 4 (by omega) (by omega)
    unfold tp at d3
    refine ⟨d1, d2, by unfold tp; exact d3, d4, ?_, ?_, ?_, ?_⟩
    · rw [hI_s, hR_s, up2_n _ _ _ _ _ _ (by omega)]; exact d5.trans (congrArg iI g1.symm)
    · rw [hI_s, hR_s, up2_n _ _ _ _ _ _ (by omega)]; exact d6.trans (congrArg iI g2.symm)
    · rw [hI_s, hR_s, up2_n _ _ _ _ _ _ (by omega)]; exact d7.trans (congrArg iI g3.symm)
    · rw [hI_s, hR_s, up2_n _ _ _ _ _ _ (by omega)]; exact d8.trans (congrArg iI g4.symm)
  · rw [mct_L0 hN hl v h1] at h3
    rw [mct_L0 hN hl v h2] at h4
    exact hD q q' j j' h1 h2 h3 h4 h5
  · rw [hI_s, up2_n _ _ _ _ _ _ (by omega)]
    exact hO i hi t ht
end
def Fs (tau : Nat) (F F' : Nat → Nat → Int32) : Prop := ∀ c s, c < 320 ∨ tau ≤ c → F' c s = F c s
theorem Fs.refl {tau : Nat} (F : Nat → Nat → Int32) : Fs tau F F := fun _ _ _ => rfl
theorem Fs.trans {tau : Nat} {F F' F'' : Nat → Nat → Int32} (h1 : Fs tau F F') (h2 : Fs tau F' F'') : Fs tau F F'' := fun c s hc => (h2 c s hc).trans (h1 c s hc)
theorem Fs.up {tau : Nat} {F F' : Nat → Nat → Int32} (h : Fs tau F F') (a k : Nat) (v : Int32) (ha : 320 ≤ a ∧ a < tau) : Fs tau F (up2 F' a k v) := fun c s hc => by
  rw [up2_n _ _ _ _ _ _ (by omega)]
  exact h c s hc
section
variable {xA n m p b no : Nat} {O : Nat → Nat → Int} {T C Pb : Int} {h : AH} {g : GM}
theorem priceOf_S (hs : Sm xA n m p b no O h g) (hQ : IvQ g) (hl : ∀ k, k < 4 → g (43 + k) 2 < 1000000) {k : Nat} (hk : k < 4) : f_Sim_priceOf h 320 (iI (k : Int)) = some (h, iI (mPrice g k)) := by
  have hM := hs.1
  have h1 := hQ k hk
  have h2 := hl k hk
  unfold mPrice mPriceAt
  by_cases c : 0 ≤ g (43 + k) 1 - g (43 + k) 2 / 4
  · rw [Int.max_eq_right (by omega)]
    simp (disch := first | decide | omega) only [f_Sim_priceOf, Nat.add_zero, true_and, and_true, gd_T, bn_S, bv_S, lq_E, wI_s, sI_s, hI_s, hT_s, hL_s, hR_s, hJ_s, hN_s, hU_s, nI_L, z_i, o_i, iI_add, iI_sub, iI_mul, iI_neg, iI_lt, iI_le, iI_eq, iI_ix, Int.toNat_natCast, toNat_L, if_neg, if_pos, gd_P, inb, ix, hM.t, hM.r8, hM.r10, hM.tpr, hM.lpr, hM.tgl, hM.lgl, hs.pr, hs.gl, iI_div]
  · rw [Int.max_eq_left (by omega)]
    simp (disch := first | decide | omega) only [f_Sim_priceOf, Nat.add_zero, true_and, and_true, gd_T, bn_S, bv_S, lq_E, wI_s, sI_s, hI_s, hT_s, hL_s, hR_s, hJ_s, hN_s, hU_s, nI_L, z_i, o_i, iI_add, iI_sub, iI_mul, iI_neg, iI_lt, iI_le, iI_eq, iI_ix, Int.toNat_natCast, toNat_L, if_neg, if_pos, gd_P, inb, ix, hM.t, hM.r8, hM.r10, hM.tpr, hM.lpr, hM.tgl, hM.lgl, hs.pr, hs.gl, iI_div]
theorem room_S (hN : Nm n m p b) (hs : Sm xA n m p b no O h g) (hvR : IvR m T g) {k : Nat} (hk : k < m) : f_Sim_room h 320 (iI (k : Int)) = some (h, iI (mRoom g k)) := by
  have hN' := hN
  unfold Nm at hN'
  have hM := hs.1
  obtain ⟨b1, b2, b3, b4, b5⟩ := hs.2.2.1 k hk
  obtain ⟨r1, r2, r3, r4, r5, r6, r7⟩ := hvR k hk
  have key : ∀ (e j fu : Nat) (s : Int), e + j = (mct g k).toNat → e < fu → f_Sim_room_l21 fu h (iI s) (hR h (334 + n) k) (iI ((mct g k).toNat : Int)) (iI (j : Int)) = some (h, iI (s - sumF (fun x => g (12 + 5 * k) (j + x)) e)) := by
    intro e
    induction e with
    | zero =>
      intro j fu s he hf
      obtain ⟨fu, rfl⟩ : ∃ x, fu = x + 1 := ⟨fu - 1, by omega⟩
      rw [show sumF (fun x => g (12 + 5 * k) (j + x)) 0 = 0 from rfl, Int.sub_zero]
      show f_Sim_room_b21 (f_Sim_room_l21 fu) h (iI s) (hR h (334 + n) k) (iI ((mct g k).toNat : Int)) (iI (j : Int)) = _
      simp (disch := first | decide | omega) only [f_Sim_room_b21, iI_lt, iI_le, iI_eq, iI_ix, Int.toNat_natCast, toNat_L, if_pos]
    | succ e ih =>
      intro j fu s he hf
      obtain ⟨fu, rfl⟩ : ∃ x, fu = x + 1 := ⟨fu - 1, by omega⟩
      obtain ⟨d1, d2, d3, d4, d5, -⟩ := b5 j (by omega)
      have h2 := ih (j + 1) fu (s - g (12 + 5 * k) j) (by omega) (by omega)
      rw [sumF_head, Nat.add_zero]
      rw [sumF_congr (f := fun x => g (12 + 5 * k) (j + (x + 1))) (f' := fun x => g (12 + 5 * k) (j + 1 + x)) e (fun x _ => by rw [show j + 1 + x = j + (x + 1) by omega]), Int.sub_sub] at h2
      refine Eq.trans ?_ h2
      show f_Sim_room_b21 (f_Sim_room_l21 fu) h (iI s) (hR h (334 + n) k) (iI ((mct g k).toNat : Int)) (iI (j : Int)) = _
      simp (disch := first | decide | omega) only [f_Sim_room_b21, Nat.add_zero, true_and, and_true, gd_T, bn_S, bv_S, lq_E, wI_s, sI_s, hI_s, hT_s, hL_s, hR_s, hJ_s, hN_s, hU_s, nI_L, z_i, o_i, iI_add, iI_sub, iI_mul, iI_neg, iI_lt, iI_le, iI_eq, iI_ix, Int.toNat_natCast, toNat_L, if_neg, if_pos, gd_P, inb, ix, b1, b2, d1, d2, d5]
      rfl
  have k2 := key (mct g k).toNat 0 FU (g (11 + 5 * k) 0) (by omega) (by unfold FU; omega)
  rw [sumF_congr (f := fun x => g (12 + 5 * k) x) (f' := fun x => g (12 + 5 * k) (0 + x)) _ (fun x _ => by rw [Nat.zero_add]), ← r6] at k2
  refine Eq.trans ?_ k2
  simp (disch := first | decide | omega) only [f_Sim_room, Nat.add_zero, true_and, and_true, gd_T, bn_S, bv_S, lq_E, wI_s, sI_s, hI_s, hT_s, hL_s, hR_s, hJ_s, hN_s, hU_s, nI_i, z_i, iI_lt, iI_le, iI_eq, iI_ix, Int.toNat_natCast, toNat_L, if_neg, if_pos, gd_P, inb, ix, hM.t, hM.r13, hM.r14, hM.tho, hM.lho, hM.tra, hM.lra, hs.ho, b1, b2]
theorem canWhet_S (hN : Nm n m p b) (hs : Sm xA n m p b no O h g) (hP : IvP n m p g) (hc0 : 0 ≤ g 0 12) (hc1 : g 0 12 ≤ 1000000) {i : Nat} (hi : i < p) : f_Sim_canWhet h 320 (iI (i : Int)) = some (h, iI (if g (31 + i) 3 < 20 ∧ 2 ≤ g 0 12 then 1 else 0)) := by
  have hN' := hN
  unfold Nm at hN'
  have hM := hs.1
  have h1 := hP i hi
  by_cases c : g (31 + i) 3 < 20
  · by_cases c2 : 2 ≤ g 0 12
    · rw [if_pos ⟨c, c2⟩]
      simp (disch := first | decide | omega) only [f_Sim_canWhet, Nat.add_zero, true_and, and_true, gd_T, bn_S, bv_S, lq_E, wI_s, sI_s, hI_s, hT_s, hL_s, hR_s, hJ_s, hN_s, hU_s, nI_L, z_i, o_i, iI_add, iI_sub, iI_mul, iI_neg, iI_lt, iI_le, iI_eq, iI_ix, Int.toNat_natCast, toNat_L, if_neg, if_pos, gd_P, inb, ix, hM.t, hM.r15, hM.tpe, hM.lpe, hM.pR, hM.pT, hM.pL, hs.pe, hs.coins]
    · rw [if_neg (fun q => c2 q.2)]
      simp (disch := first | decide | omega) only [f_Sim_canWhet, Nat.add_zero, true_and, and_true, gd_T, bn_S, bv_S, lq_E, wI_s, sI_s, hI_s, hT_s, hL_s, hR_s, hJ_s, hN_s, hU_s, nI_L, z_i, o_i, iI_add, iI_sub, iI_mul, iI_neg, iI_lt, iI_le, iI_eq, iI_ix, Int.toNat_natCast, toNat_L, if_neg, if_pos, gd_P, inb, ix, hM.t, hM.r15, hM.tpe, hM.lpe, hM.pR, hM.pT, hM.pL, hs.pe, hs.coins]
  · rw [if_neg (fun q => c q.1)]
    simp (disch := first | decide | omega) only [f_Sim_canWhet, Nat.add_zero, true_and, and_true, gd_T, bn_S, bv_S, lq_E, wI_s, sI_s, hI_s, hT_s, hL_s, hR_s, hJ_s, hN_s, hU_s, nI_L, z_i, o_i, iI_add, iI_sub, iI_mul, iI_neg, iI_lt, iI_le, iI_eq, iI_ix, Int.toNat_natCast, toNat_L, if_neg, if_pos, gd_P, inb, ix, hM.t, hM.r15, hM.tpe, hM.lpe, hM.pR, hM.pT, hM.pL, hs.pe, hs.coins]
theorem whet_S (hN : Nm n m p b) (hs : Sm xA n m p b no O h g) {i : Nat} (hi : i < p) :
    ∃ F, f_Sim_whet h 320 (iI (i : Int)) = some (sI h F) ∧ Sm xA n m p b no O (sI h F) (mWhet i g) ∧ Fs (338 + n + m + p + b + no) (hI h) F := by
  have hN' := hN
  unfold Nm at hN'
  have hM := hs.1
  have s1 := hs.w hN 0 12 (Or.inl ⟨rfl, by decide, by decide⟩) (a := 320) (k := 1) rfl rfl (v := g 0 12 - 2) rfl (by omega)
  have s2 := s1.w hN (31 + i) 3 (Or.inr (Or.inr (Or.inr (Or.inr (Or.inl ⟨by omega, by omega, by decide⟩))))) (sA_p (by omega)) (sS_p (by omega)) (v := 20) rfl (by omega)
  have s3 := s2.w hN (31 + i) 5 (Or.inr (Or.inr (Or.inr (Or.inr (Or.inl ⟨by omega, by omega, by decide⟩))))) (sA_p (by omega)) (sS_p (by omega)) (v := g (31 + i) 5 + 1) rfl (by omega)
  refine ⟨_, ?_, s3, (((Fs.refl _).up _ _ _ (by omega)).up _ _ _ (by omega)).up _ _ _ (by omega)⟩
  simp (disch := first | decide | omega) only [f_Sim_whet, Nat.add_zero, true_and, and_true, gd_T, bn_S, bv_S, lq_E, wI_s, sI_s, hI_s, hT_s, hL_s, hR_s, hJ_s, hN_s, hU_s, nI_L, z_i, o_i, iI_add, iI_sub, iI_mul, iI_neg, iI_lt, iI_le, iI_eq, iI_ix, Int.toNat_natCast, toNat_L, if_neg, if_pos, gd_P, inb, ix, hM.t, hM.r15, hM.tpe, hM.lpe, hM.pR, hM.pT, hM.pL, hs.pe, hs.coins, up2_e, up2_n]
end

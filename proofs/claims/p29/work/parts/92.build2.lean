/-! 92 L3: builders, IV -/
theorem latin_E {h : AH} {a : Nat} {bs : List Nat} (hs : Sb h a bs) : f_ASB_isLatin1 h a = some (h, iI 1) := by
  unfold f_ASB_isLatin1
  rw [if_neg (by decide), gd_P hs.1, hs.2.2.2.2.2.1, if_neg (fun k => k rfl), nI_L]
theorem append_I_E {h : AH} {a : Nat} {bs : List Nat} (hs : Sb h a bs) (hd : Dg h) {n : Nat} (hn : n < 1000) (hl : bs.length + 3 ≤ 2400) :
    ∃ h', f_SB_append_I h a (iI (n : Int)) = some (h', a) ∧ Sb h' a (bs ++ dig n) ∧ Ux a 1 5000 h h' := by
  have dl := dig_len (n := n)
  have f1 := stringSize_E (h := h) hn
  obtain ⟨h4, e1, e2, e3, e4⟩ := ensure_E hs (need := bs.length + (dig n).length) (by omega)
  have a200 := hs.2.2.2.2.1
  have va0 := hs.2.2.2.1
  have an := hs.2.1
  have hd4 : Dg h4 := hd.ext (e4.e4 (by omega) (by omega) (by omega)) (e4.e4 (by omega) (by omega) (by omega))
  have fl := latin_E e2
  obtain ⟨s1, s2, s3, s4, s5, s6, s7, s8, s9, s10, s11⟩ := e2
  obtain ⟨F, r, k1, k2, k3, k4⟩ := getChars_E hd4 hn (v := hR h4 a 0) (d := bs.length) s8 (by omega) e3 s10
  have hs' : hI h a 3 = iI (bs.length : Int) := hs.2.2.2.2.2.2.1
  have eq1 : iI (bs.length : Int) + iI ((dig n).length : Int) = iI ((bs.length + (dig n).length : Nat) : Int) := by rw [iI_add]; rfl
  have va : hR h4 a 0 ≠ a := by omega
  refine ⟨sI h4 (up2 F a 3 (iI ((bs.length + (dig n).length : Nat) : Int))), ?_, ?_, (e4.trans (Ux.more fun x q1 q2 => ?_)).mono (by omega) (by omega)⟩
  · have g : f_ASB_append_I h a (iI (n : Int)) = some (sI h4 (up2 F a 3 (iI ((bs.length + (dig n).length : Nat) : Int))), a) := by
      unfold f_ASB_append_I
      rw [gd_P hs.1, lq_E, bn_C f1, hs', eq1, lq_E, gd_P hs.1, e1, bv_S, gd_P s1, bn_C fl, if_neg (by decide), gd_P s1, bn_C k1, gd_P (by rw [hT_s]; exact s1), wI_s, sI_s, hI_s, lq_E]
    unfold f_SB_append_I
    rw [gd_P hs.1, bn_C g]
  · refine Sb.more ⟨s1, s2, s3, s4, s5, s6, s7, s8, s9, s10, s11⟩ e3 ?_ ?_ (fun i hi => ?_) (fun i hi => ?_)
    · rw [up2_n _ _ _ _ _ _ (by omega), k4 a (fun y => va y.symm)]; exact s6
    · rw [up2_e]
    · rw [up2_n _ _ _ _ _ _ (fun y => va y.1)]; exact k3 i hi
    · rw [up2_n _ _ _ _ _ _ (fun y => va y.1)]; exact k2 i hi
  · funext s
    rw [up2_n _ _ _ _ _ _ (fun y => q1 y.1), k4 x q2]
theorem append_C_E {h : AH} {a : Nat} {bs : List Nat} (hs : Sb h a bs) {c : Nat} (hc : c < 128) (hl : bs.length + 1 ≤ 2400) :
    ∃ h', f_SB_append_C h a (iI (c : Int)) = some (h', a) ∧ Sb h' a (bs ++ [c]) ∧ Ux a 1 5000 h h' := by
  obtain ⟨h4, e1, e2, e3, e4⟩ := ensure_E hs (need := bs.length + 1) hl
  have fl := latin_E e2
  obtain ⟨s1, s2, s3, s4, s5, s6, s7, s8, s9, s10, s11⟩ := e2
  have hs' : hI h a 3 = iI (bs.length : Int) := hs.2.2.2.2.2.2.1
  have eq1 : iI (bs.length : Int) + nI 1 = iI ((bs.length + 1 : Nat) : Int) := by rw [nI_L, iI_add]; rfl
  have va : hR h4 a 0 ≠ a := by omega
  have i8 := i8_E hc
  have ixl : (iI (bs.length : Int)).toNatClampNeg = bs.length := iI_ixn (by omega)
  have fe : f_Lat_canEncode_C h4 (iI (c : Int)) = some (h4, iI 1) := by
    unfold f_Lat_canEncode_C
    rw [if_neg (by rw [nI_L, iI_lt (by omega) (by omega) (by omega) (by omega)]; omega), nI_L]
  refine ⟨sI h4 (up2 (up2 (hI h4) a 3 (iI ((bs.length + 1 : Nat) : Int))) (hR h4 a 0) bs.length (iI (c : Int))), ?_, ?_, (e4.trans (Ux.more fun x q1 q2 => ?_)).mono (by omega) (by omega)⟩
  · have g : f_ASB_append_C h a (iI (c : Int)) = some (sI h4 (up2 (up2 (hI h4) a 3 (iI ((bs.length + 1 : Nat) : Int))) (hR h4 a 0) bs.length (iI (c : Int))), a) := by
      unfold f_ASB_append_C
      rw [gd_P hs.1, hs', eq1, e1, bv_S, gd_P s1, bn_C fl, if_neg (by decide), bn_C fe, if_neg (by decide), gd_P s1, s7, eq1, wI_s, lq_E, hT_s, hL_s, gd_P ⟨s8, by show 200 ≤ _; omega, by rw [z_i, iI_lt (by omega) (by omega) (by omega) (by omega)]; omega, by show (iI (bs.length : Int)).toNatClampNeg < _; rw [ixl]; omega⟩, i8, i8, wI_s, sI_s, hI_s, lq_E]
      show some (sI h4 (up2 (up2 (hI h4) a 3 _) (hR h4 a 0) (iI (bs.length : Int)).toNatClampNeg _), a) = _
      rw [ixl]
    unfold f_SB_append_C
    rw [gd_P hs.1, bn_C g]
  · refine Sb.more (cs := [c]) ⟨s1, s2, s3, s4, s5, s6, s7, s8, s9, s10, s11⟩ e3 ?_ ?_ (fun i hi => ?_) (fun i hi => ?_)
    · rw [up2_n _ _ _ _ _ _ (by omega), up2_n _ _ _ _ _ _ (by omega)]; exact s6
    · rw [up2_n _ _ _ _ _ _ (by omega), up2_e]; rfl
    · rw [up2_n _ _ _ _ _ _ (by omega), up2_n _ _ _ _ _ _ (by omega)]
    · rw [List.length_singleton] at hi
      obtain rfl : i = 0 := by omega
      show up2 _ _ _ _ _ bs.length = _
      rw [up2_e]
      rfl
  · funext s
    rw [up2_n _ _ _ _ _ _ (fun y => q2 y.1), up2_n _ _ _ _ _ _ (fun y => q1 y.1)]
-- a builder is begun
theorem sbNew_E {h : AH} (h0 : 200 ≤ hN h) : ∃ h', f_SB_init (hA h 14 4) (hN h) = some h' ∧ hT (hA h 14 4) (hN h) = 14 ∧ Sb h' (hN h) [] ∧ Gx 2 20 h h' := by
  have t1 : hT (hA h 14 4) (hN h) = 14 := by rw [hT_a, up1_e]
  have i16 : (iI 16).toNatClampNeg = 16 := by rw [iI_ix (by omega) (by omega)]; rfl
  refine ⟨sI (sR (hA (hA h 14 4) 102 16) (up2 (hR (hA (hA h 14 4) 102 16)) (hN h) 0 (hN h + 1))) (up2 (hI (hA (hA h 14 4) 102 16)) (hN h) 1 (iI 0)), ?_, t1, ?_, ?_⟩
  · unfold f_SB_init
    have g : f_ASB_init (hA h 14 4) (hN h) (nI 16) = some (sI (sR (hA (hA h 14 4) 102 16) (up2 (hR (hA (hA h 14 4) 102 16)) (hN h) 0 (hN h + 1))) (up2 (hI (hA (hA h 14 4) 102 16)) (hN h) 1 (iI 0))) := by
      unfold f_ASB_init
      have t2 : hT (hA (hA h 14 4) 102 16) (hN h) = 14 := by rw [hT_a, hN_a, up1_n _ _ _ _ (by omega)]; exact t1
      rw [gd_P t1, if_neg (by decide), nI_L, gd_P ⟨by decide, by show (iI 16).toNatClampNeg ≤ 65536; rw [i16]; omega⟩, show ix (iI 16) = 16 from i16, lq_E, gd_P t2, hN_a, lq_E, wR_r, gd_P ⟨by rw [hT_r]; exact t2, h0, by decide⟩, wI_s, hI_r, lq_E, nI_L]
    rw [gd_P t1, g, bv_S]
  · have er : hR (sI (sR (hA (hA h 14 4) 102 16) (up2 (hR (hA (hA h 14 4) 102 16)) (hN h) 0 (hN h + 1))) (up2 (hI (hA (hA h 14 4) 102 16)) (hN h) 1 (iI 0))) (hN h) 0 = hN h + 1 := by rw [hR_s, hR_r, up2_e]
    unfold Sb
    rw [er, hT_s, hT_r, hN_s, hN_r, hI_s, hL_s, hL_r, hT_a, hN_a, hN_a, hL_a, hN_a, up1_e, up1_e, up1_n _ _ _ _ (show ¬ hN h = hN h + 1 by omega), up2_e, up2_n _ _ _ _ _ _ (by omega), hI_a, hN_a, up1_n _ _ _ _ (show ¬ hN h = hN h + 1 by omega), hI_a, up1_e]
    refine ⟨t1, by omega, by omega, by omega, h0, rfl, rfl, rfl, Nat.zero_le _, by omega, fun i hi => absurd hi (Nat.not_lt_zero _)⟩
  · refine ⟨by rw [hN_s, hN_r, hN_a, hN_a]; omega, by rw [hN_s, hN_r, hN_a, hN_a]; omega, by rw [hU_s, hU_r, hU_a, hU_a]; omega, fun x hx => ⟨?_, ?_, ?_, ?_⟩⟩
    · rw [hT_s, hT_r, hT_a, hN_a, up1_n _ _ _ _ (by omega), hT_a, up1_n _ _ _ _ (by omega)]
    · rw [hL_s, hL_r, hL_a, hN_a, up1_n _ _ _ _ (by omega), hL_a, up1_n _ _ _ _ (by omega)]
    · funext s
      rw [hI_s, up2_n _ _ _ _ _ _ (by omega), hI_a, hN_a, up1_n _ _ _ _ (by omega), hI_a, up1_n _ _ _ _ (by omega)]
    · funext s
      rw [hR_s, hR_r, up2_n _ _ _ _ _ _ (by omega), hR_a, hN_a, up1_n _ _ _ _ (by omega), hR_a, up1_n _ _ _ _ (by omega)]
-- a string is made
theorem copyR_E {h : AH} {v : Nat} {len : Nat} (h1 : hT h v = 102) (h2 : len ≤ hL h v) (h3 : hL h v ≤ 5000) (h4 : v < hN h) (h5 : 200 ≤ hN h) : ∃ h', f_Arrays_copyOfRange h v (nI 0) (iI (len : Int)) = some (h', hN h) ∧ hN h' = hN h + 1 ∧ hU h' ≤ hU h + 5000 ∧ hT h' (hN h) = 102 ∧ hL h' (hN h) = len ∧ (∀ i, i < len → hI h' (hN h) i = hI h v i) ∧ (∀ x, x < hN h → E4 h h' x) := by
  unfold f_Arrays_copyOfRange
  rw [if_neg (fun k => k (by rw [nI_L, z_i])), gd_P h1]
  by_cases c : len = hL h v
  · have c1 : iI (len : Int) = nI (hL h v) := by rw [c, nI_i]
    rw [if_pos c1, lq_E, gd_P (by unfold hCl; show up1 (hT h) (hN h) (hT h v) (hN h) = 102; rw [up1_e]; exact h1)]
    refine ⟨_, rfl, rfl, by show hU h + hL h v ≤ _; omega, by show up1 (hT h) (hN h) (hT h v) (hN h) = 102; rw [up1_e]; exact h1, by show up1 (hL h) (hN h) (hL h v) (hN h) = len; rw [up1_e]; exact c.symm, fun i hi => by show up1 (hI h) (hN h) (hI h v) (hN h) i = _; rw [up1_e], fun x hx => ⟨?_, ?_, ?_, ?_⟩⟩
    · show up1 (hT h) (hN h) (hT h v) x = _; rw [up1_n _ _ _ _ (by omega)]
    · show up1 (hL h) (hN h) (hL h v) x = _; rw [up1_n _ _ _ _ (by omega)]
    · show up1 (hI h) (hN h) (hI h v) x = _; rw [up1_n _ _ _ _ (by omega)]
    · show up1 (hR h) (hN h) (fun _ => 0) x = _; rw [up1_n _ _ _ _ (by omega)]
  · have c1 : ¬ iI (len : Int) = nI (hL h v) := by rw [nI_i, iI_eq (by omega) (by omega) (by omega) (by omega)]; omega
    have i0 : (iI 0).toNatClampNeg = 0 := rfl
    have i1 : (iI (len : Int)).toNatClampNeg = len := iI_ixn (by omega)
    have t1 : hT (hA h 102 len) v = 102 := by rw [hT_a, up1_n _ _ _ _ (by omega)]; exact h1
    have t2 : hT (hA h 102 len) (hN h) = 102 := by rw [hT_a, up1_e]
    have l1 : hL (hA h 102 len) v = hL h v := by rw [hL_a, up1_n _ _ _ _ (by omega)]
    have l2 : hL (hA h 102 len) (hN h) = len := by rw [hL_a, up1_e]
    have m := min_E (h := hA h 102 len) (a := (hL h v : Int)) (b := (len : Int)) (by omega) (by omega) (by omega) (by omega)
    rw [Int.min_eq_right (by omega)] at m
    have g : f_Arrays_copyOfRangeByte h v (iI 0) (iI (len : Int)) = some (wCp (hA h 102 len) v 0 (hN h) 0 len, hN h) := by
      unfold f_Arrays_copyOfRangeByte
      have k : f_Arrays_checkLength h (iI 0) (iI (len : Int)) = some h := by
        unfold f_Arrays_checkLength
        rw [if_pos (by rw [iI_le (by omega) (by omega) (by omega) (by omega)]; omega)]
      rw [k, bv_S, iI_sub, Int.sub_zero, lq_E, gd_P ⟨by rw [z_i, iI_lt (by omega) (by omega) (by omega) (by omega)]; omega, by show (iI (len : Int)).toNatClampNeg ≤ 65536; rw [i1]; omega⟩, show ix (iI (len : Int)) = len from i1, lq_E, lq_E, gd_P t1, l1, nI_i (hL h v), iI_sub, Int.sub_zero, bn_C m, nI_L, gd_P ⟨t1, t2, h5, by decide, by decide, by rw [z_i, iI_lt (by omega) (by omega) (by omega) (by omega)]; omega, by show (iI 0).toNatClampNeg + (iI (len : Int)).toNatClampNeg ≤ _; rw [i0, i1, l1]; omega, by show (iI 0).toNatClampNeg + (iI (len : Int)).toNatClampNeg ≤ _; rw [i0, i1, l2]; omega⟩, lq_E, show ix (iI (len : Int)) = len from i1]
      rfl
    rw [if_neg c1]
    unfold f_Arrays_copyOfRange_b10
    rw [nI_L, bn_C g]
    refine ⟨_, rfl, rfl, by rw [hU_w, hU_a]; omega, by rw [hT_w]; exact t2, by rw [hL_w]; exact l2, fun i hi => ?_, fun x hx => ⟨?_, ?_, ?_, ?_⟩⟩
    · rw [hI_w, up1_e]
      show (if 0 ≤ i ∧ i < 0 + len then hI (hA h 102 len) v (0 + (i - 0)) else _) = _
      rw [if_pos (by omega), hI_a, up1_n _ _ _ _ (by omega), show 0 + (i - 0) = i by omega]
    · rw [hT_w, hT_a, up1_n _ _ _ _ (by omega)]
    · rw [hL_w, hL_a, up1_n _ _ _ _ (by omega)]
    · rw [hI_w, up1_n _ _ _ _ (by omega), hI_a, up1_n _ _ _ _ (by omega)]
    · rw [hR_w, hR_a, up1_n _ _ _ _ (by omega)]
theorem toString_E {h : AH} {a : Nat} {bs : List Nat} (hs : Sb h a bs) : ∃ h', f_SB_toString h a = some (h', hN h) ∧ Str h' (hN h) bs ∧ hR h' (hN h) 0 = hN h + 1 ∧ hN h' = hN h + 2 ∧ hU h' ≤ hU h + 5004 ∧ ∀ x, x < hN h → E4 h h' x := by
  obtain ⟨s1, s2, s3, s4, s5, s6, s7, s8, s9, s10, s11⟩ := hs
  have t0 : hT (hA h 15 4) (hN h) = 15 := by rw [hT_a, up1_e]
  have ta : hT (hA h 15 4) a = 14 := by rw [hT_a, up1_n _ _ _ _ (by omega)]; exact s1
  have ra : hR (hA h 15 4) a = hR h a := by rw [hR_a, up1_n _ _ _ _ (by omega)]
  have ia : hI (hA h 15 4) a = hI h a := by rw [hI_a, up1_n _ _ _ _ (by omega)]
  have f1 : f_ASB_getValue (hA h 15 4) a = some (hA h 15 4, hR h a 0) := by unfold f_ASB_getValue; rw [gd_P ta, ra]
  have f2 : f_SB_length (hA h 15 4) a = some (hA h 15 4, iI (bs.length : Int)) := by
    unfold f_SB_length f_ASB_length
    rw [gd_P ta, gd_P ta, bn_S, ia, s7]
  have f3 : f_ASB_isLatin1 (hA h 15 4) a = some (hA h 15 4, iI 1) := by
    unfold f_ASB_isLatin1
    rw [if_neg (by decide), gd_P ta, ia, s6, if_neg (fun k => k rfl), nI_L]
  obtain ⟨h2, k1, k2, k3, k4, k5, k6, k7⟩ := copyR_E (h := sI (hA h 15 4) (up2 (hI (hA h 15 4)) (hN h) 1 (iI 0))) (v := hR h a 0) (len := bs.length) (by rw [hT_s, hT_a, up1_n _ _ _ _ (by omega)]; exact s8) (by rw [hL_s, hL_a, up1_n _ _ _ _ (by omega)]; exact s9) (by rw [hL_s, hL_a, up1_n _ _ _ _ (by omega)]; exact s10) (by rw [hN_s, hN_a]; omega) (by rw [hN_s, hN_a]; omega)
  rw [hN_s, hN_a] at k1 k2 k4 k5 k6 k7
  rw [hU_s, hU_a] at k3
  have e0 := k7 (hN h) (by omega)
  have tt : hT h2 (hN h) = 15 := by rw [e0.1, hT_s]; exact t0
  refine ⟨wR h2 (hN h) 0 (hN h + 1), ?_, ?_, by rw [wR_r, hR_r, up2_e], by rw [wR_r, hN_r]; omega, by rw [wR_r, hU_r]; omega, fun x hx => ?_⟩
  · unfold f_SB_toString f_String_init_s f_String_init_av
    rw [lq_E, gd_P t0, gd_P t0, gd_P t0, gd_P ta, bn_C f1, gd_P ta, bn_C f2, gd_P ta, bn_C f3, if_neg (by decide), gd_P ⟨t0, by show 200 ≤ hN h; omega, by decide⟩, show wI (hA h 15 4) (hN h) 1 (nI 0) = sI (hA h 15 4) (up2 (hI (hA h 15 4)) (hN h) 1 (iI 0)) by rw [wI_s, nI_L], lq_E, bn_C k1, gd_P ⟨tt, by show 200 ≤ hN h; omega⟩, lq_E, bv_S, bv_S]
  · have er : hR (wR h2 (hN h) 0 (hN h + 1)) (hN h) 0 = hN h + 1 := by rw [wR_r, hR_r, up2_e]
    unfold Str
    rw [er, wR_r, hT_r, hI_r, hL_r, k4, k5, e0.2.2.1, hI_s, up2_e]
    refine ⟨tt, rfl, rfl, Nat.le_refl _, nI_i _, fun i hi => ?_⟩
    rw [k6 i hi, hI_s, up2_n _ _ _ _ _ _ (by omega), hI_a, up1_n _ _ _ _ (by omega)]
    exact s11 i hi
  · obtain ⟨q1, q2, q3, q4⟩ := k7 x (by omega)
    refine ⟨?_, ?_, ?_, ?_⟩
    · rw [wR_r, hT_r, q1, hT_s, hT_a, up1_n _ _ _ _ (by omega)]
    · rw [wR_r, hL_r, q2, hL_s, hL_a, up1_n _ _ _ _ (by omega)]
    · funext s
      rw [wR_r, hI_r, q3, hI_s, up2_n _ _ _ _ _ _ (by omega), hI_a, up1_n _ _ _ _ (by omega)]
    · funext s
      rw [wR_r, hR_r, up2_n _ _ _ _ _ _ (by omega), q4, hR_s, hR_a, up1_n _ _ _ _ (by omega)]

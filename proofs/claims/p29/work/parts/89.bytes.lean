/-! 89 L3: rows of bytes, strings, builders -/
def nth : List Nat → Nat → Nat
  | [], _ => 0
  | a :: _, 0 => a
  | _ :: l, i + 1 => nth l i
theorem nth_l {l r : List Nat} : ∀ {i : Nat}, i < l.length → nth (l ++ r) i = nth l i := by
  induction l with
  | nil => intro i h; exact absurd h (Nat.not_lt_zero _)
  | cons a l ih =>
    intro i h
    cases i with
    | zero => rfl
    | succ i => exact ih (by rw [List.length_cons] at h; omega)
theorem nth_r {l r : List Nat} : ∀ (i : Nat), nth (l ++ r) (l.length + i) = nth r i := by
  induction l with
  | nil => intro i; rw [List.nil_append, List.length_nil, Nat.zero_add]
  | cons a l ih =>
    intro i
    rw [List.length_cons, List.cons_append, show l.length + 1 + i = (l.length + i) + 1 by omega]
    exact ih i
def Bs (F : Nat → Int32) (bs : List Nat) : Prop := ∀ i, i < bs.length → F i = iI (nth bs i : Int)
theorem Bs.app {F F' : Nat → Int32} {bs cs : List Nat} (h1 : Bs F bs) (e1 : ∀ i, i < bs.length → F' i = F i) (h2 : ∀ i, i < cs.length → F' (bs.length + i) = iI (nth cs i : Int)) : Bs F' (bs ++ cs) := by
  intro i hi
  rw [List.length_append] at hi
  by_cases c : i < bs.length
  · rw [e1 i c, h1 i c, nth_l c]
  · obtain ⟨j, rfl⟩ : ∃ j, i = bs.length + j := ⟨i - bs.length, by omega⟩
    rw [h2 j (by omega), nth_r]
def Str (h : AH) (s : Nat) (cs : List Nat) : Prop := hT h s = 15 ∧ hI h s 1 = iI 0 ∧ hT h (hR h s 0) = 102 ∧ cs.length ≤ hL h (hR h s 0) ∧ nI (hL h (hR h s 0)) = iI (cs.length : Int) ∧ Bs (hI h (hR h s 0)) cs
theorem Str.ext {h h' : AH} {s : Nat} {cs : List Nat} (k : Str h s cs) (e1 : E4 h h' s) (e2 : E4 h h' (hR h s 0)) : Str h' s cs := by
  obtain ⟨k1, k2, k3, k4, k5, k6⟩ := k
  have er : hR h' s 0 = hR h s 0 := congrFun e1.2.2.2 0
  unfold Str
  rw [er, e1.1, e2.1, e2.2.1, e1.2.2.1, e2.2.2.1]
  exact ⟨k1, k2, k3, k4, k5, k6⟩
-- shifts by 0
theorem shr0 (x : Int32) : x >>> (iI 0 &&& 31) = x := by
  rw [show iI 0 &&& 31 = (0 : Int32) by decide]
  exact Int32.shiftRight_zero
theorem shl0 (x : Int32) : x <<< (iI 0 &&& 31) = x := by
  rw [show iI 0 &&& 31 = (0 : Int32) by decide]
  exact Int32.shiftLeft_zero
theorem nrm4 : nrm 4 (iI 0) := ⟨fun k => absurd k (by decide), fun _ => by decide, fun k => absurd k (by decide)⟩
theorem coder_E {h : AH} {s : Nat} {cs : List Nat} (k : Str h s cs) : f_String_coder h s = some (h, iI 0) := by
  obtain ⟨k1, k2, k3, k4, k5, k6⟩ := k
  unfold f_String_coder
  rw [if_neg (by decide), gd_P k1, k2, gd_P nrm4]
theorem slen_E {h : AH} {s : Nat} {cs : List Nat} (k : Str h s cs) : f_String_length h s = some (h, iI (cs.length : Int)) := by
  have f := coder_E k
  obtain ⟨k1, k2, k3, k4, k5, k6⟩ := k
  unfold f_String_length
  rw [gd_P k1, gd_P k3, bn_C f, k5, shr0]
-- a builder at a
def Sb (h : AH) (a : Nat) (bs : List Nat) : Prop := hT h a = 14 ∧ a < hN h ∧ hR h a 0 < hN h ∧ a < hR h a 0 ∧ 200 ≤ a ∧ hI h a 1 = iI 0 ∧ hI h a 3 = iI (bs.length : Int) ∧ hT h (hR h a 0) = 102 ∧ bs.length ≤ hL h (hR h a 0) ∧ hL h (hR h a 0) ≤ 5000 ∧ Bs (hI h (hR h a 0)) bs
def Ux (a c d : Nat) (h h' : AH) : Prop := hN h ≤ hN h' ∧ hN h' ≤ hN h + c ∧ hU h' ≤ hU h + d ∧ (hR h' a 0 = hR h a 0 ∨ hN h ≤ hR h' a 0) ∧ ∀ x, x < hN h → x ≠ a → x ≠ hR h a 0 → E4 h h' x
theorem Ux.refl (a : Nat) (h : AH) : Ux a 0 0 h h := ⟨Nat.le_refl _, Nat.le_refl _, Nat.le_refl _, Or.inl rfl, fun _ _ _ _ => ⟨rfl, rfl, rfl, rfl⟩⟩
theorem Ux.trans {a c d c' d' : Nat} {h h' h'' : AH} (h1 : Ux a c d h h') (h2 : Ux a c' d' h' h'') : Ux a (c + c') (d + d') h h'' := by
  obtain ⟨a1, a2, a3, a4, a5⟩ := h1
  obtain ⟨b1, b2, b3, b4, b5⟩ := h2
  refine ⟨by omega, by omega, by omega, by omega, fun x hx hxa hxr => ?_⟩
  obtain ⟨p1, p2, p3, p4⟩ := a5 x hx hxa hxr
  obtain ⟨q1, q2, q3, q4⟩ := b5 x (by omega) hxa (by omega)
  exact ⟨q1.trans p1, q2.trans p2, q3.trans p3, q4.trans p4⟩
theorem Ux.mono {a c d c' d' : Nat} {h h' : AH} (k : Ux a c d h h') (h1 : c ≤ c') (h2 : d ≤ d') : Ux a c' d' h h' := ⟨k.1, by have := k.2.1; omega, by have := k.2.2.1; omega, k.2.2.2⟩
-- cells of copies
theorem hN_w (h : AH) (a s b d n : Nat) : hN (wCp h a s b d n) = hN h := rfl
theorem hU_w (h : AH) (a s b d n : Nat) : hU (wCp h a s b d n) = hU h := rfl
theorem hT_w (h : AH) (a s b d n : Nat) : hT (wCp h a s b d n) = hT h := rfl
theorem hL_w (h : AH) (a s b d n : Nat) : hL (wCp h a s b d n) = hL h := rfl
theorem hR_w (h : AH) (a s b d n : Nat) : hR (wCp h a s b d n) = hR h := rfl
theorem hI_w (h : AH) (a s b d n : Nat) : hI (wCp h a s b d n) = up1 (hI h) b (fun k => if d ≤ k ∧ k < d + n then hI h a (s + (k - d)) else hI h b k) := rfl
theorem newLength_E {h : AH} {cap need : Int} (h1 : 0 ≤ cap) (h2 : cap < need) (h3 : need ≤ 100000) : f_ArS_newLength h (iI cap) (iI (need - cap)) (iI (cap + 2)) = some (h, iI (cap + max (need - cap) (cap + 2))) := by
  have m := max_E (h := h) (a := need - cap) (b := cap + 2) (by omega) (by omega) (by omega) (by omega)
  generalize hv : max (need - cap) (cap + 2) = v at *
  unfold f_ArS_newLength
  rw [bn_C m, lq_E, iI_add, nI_L, nI_L, if_neg (by rw [iI_le (by omega) (by omega) (by omega) (by omega)]; omega), if_neg (by rw [iI_lt (by omega) (by omega) (by omega) (by omega)]; omega)]
theorem copyOf_E {h : AH} {v : Nat} {nc : Nat} (h1 : hT h v = 102) (h2 : hL h v < nc) (h3 : nc ≤ 65536) (h4 : v < hN h) (h5 : 200 ≤ hN h) : f_Arrays_copyOf h v (iI (nc : Int)) = some (wCp (hA h 102 nc) v 0 (hN h) 0 (hL h v), hN h) := by
  have i1 : ix (iI (nc : Int)) = nc := iI_ixn (by omega)
  have i0 : ix (nI 0) = 0 := by rw [nI_L]; rfl
  have t1 : hT (hA h 102 nc) v = 102 := by rw [hT_a, up1_n _ _ _ _ (by omega)]; exact h1
  have t2 : hT (hA h 102 nc) (hN h) = 102 := by rw [hT_a, up1_e]
  have l1 : hL (hA h 102 nc) v = hL h v := by rw [hL_a, up1_n _ _ _ _ (by omega)]
  have l2 : hL (hA h 102 nc) (hN h) = nc := by rw [hL_a, up1_e]
  have m := min_E (h := hA h 102 nc) (a := (hL h v : Int)) (b := (nc : Int)) (by omega) (by omega) (by omega) (by omega)
  rw [Int.min_eq_left (by omega)] at m
  have i2 : ix (iI ((hL h v : Nat) : Int)) = hL h v := iI_ixn (by omega)
  unfold f_Arrays_copyOf
  rw [gd_P h1, if_pos (by rw [nI_i, iI_eq (by omega) (by omega) (by omega) (by omega)]; omega), gd_P ⟨by rw [z_i, iI_lt (by omega) (by omega) (by omega) (by omega)]; omega, by rw [i1]; exact h3⟩, i1, lq_E, lq_E, gd_P t1, l1, nI_i (hL h v), bn_C m, gd_P ⟨t1, t2, h5, by decide, by decide, by rw [z_i, iI_lt (by omega) (by omega) (by omega) (by omega)]; omega, by rw [i0, i2, l1]; omega, by rw [i0, i2, l2]; omega⟩, lq_E, i0, i2]
theorem ensure_E {h : AH} {a : Nat} {bs : List Nat} (hs : Sb h a bs) {need : Nat} (hn : need ≤ 2400) :
    ∃ h', f_ASB_ensureCapacityInternal h a (iI (need : Int)) = some h' ∧ Sb h' a bs ∧ need ≤ hL h' (hR h' a 0) ∧ Ux a 1 5000 h h' := by
  have hs0 := hs
  obtain ⟨s1, s2, s3, s4, s5, s6, s7, s8, s9, s10, s11⟩ := hs
  generalize hv : hR h a 0 = v at *
  have cap1 : nI (hL h v) = iI ((hL h v : Nat) : Int) := nI_i _
  by_cases c : need ≤ hL h v
  · refine ⟨h, ?_, hs0, by rw [hv]; exact c, (Ux.refl a h).mono (by omega) (by omega)⟩
    unfold f_ASB_ensureCapacityInternal
    rw [gd_P s1, hv, gd_P s8, s6, shr0, cap1, lq_E, iI_sub, if_pos (by rw [z_i, iI_le (by omega) (by omega) (by omega) (by omega)]; omega)]
  · obtain ⟨nc, hnc⟩ : ∃ nc : Nat, ((hL h v : Nat) : Int) + max ((need : Int) - (hL h v : Nat)) ((hL h v : Nat) + 2) = (nc : Int) := ⟨(((hL h v : Nat) : Int) + max ((need : Int) - (hL h v : Nat)) ((hL h v : Nat) + 2)).toNat, by omega⟩
    have nb : need ≤ nc ∧ hL h v < nc ∧ nc ≤ 5000 := by omega
    have f1 := newLength_E (h := h) (cap := ((hL h v : Nat) : Int)) (need := (need : Int)) (by omega) (by omega) (by omega)
    rw [hnc] at f1
    have f2 : f_ASB_newCapacity h a (iI (need : Int)) = some (h, iI (nc : Int)) := by
      unfold f_ASB_newCapacity
      rw [gd_P s1, hv, gd_P s8, s6, cap1, lq_E, shl0, lq_E, iI_sub, lq_E, shl0, nI_L 2, iI_add, bn_C f1, if_pos (by rw [nI_L, iI_eq (by omega) (by omega) (by omega) (by omega)]; omega), gd_P s1, s6, shr0]
    have f3 := copyOf_E (h := h) (v := v) (nc := nc) s8 nb.2.1 (by omega) s3 (by omega)
    refine ⟨wR (wCp (hA h 102 nc) v 0 (hN h) 0 (hL h v)) a 0 (hN h), ?_, ?_, ?_, ?_⟩
    · unfold f_ASB_ensureCapacityInternal
      rw [gd_P s1, hv, gd_P s8, s6, shr0, cap1, lq_E, iI_sub, if_neg (by rw [z_i, iI_le (by omega) (by omega) (by omega) (by omega)]; omega), bn_C f2, gd_P s1, s6, shl0, bn_C f3, gd_P (by rw [hT_w, hT_a, up1_n _ _ _ _ (by omega)]; exact s1), lq_E]
    · have er : hR (wR (wCp (hA h 102 nc) v 0 (hN h) 0 (hL h v)) a 0 (hN h)) a 0 = hN h := by rw [wR_r, hR_r, up2_e]
      unfold Sb
      rw [er, wR_r, hT_r, hN_r, hI_r, hL_r, hT_w, hN_w, hI_w, hL_w, hT_a, hN_a, hI_a, hL_a, up1_e, up1_e, up1_n _ _ _ _ (show ¬ a = hN h by omega), up1_n _ _ _ _ (show ¬ a = hN h by omega), up1_n _ _ _ _ (show ¬ a = hN h by omega), up1_e]
      refine ⟨s1, by omega, by omega, by omega, s5, s6, s7, rfl, by omega, by omega, fun i hi => ?_⟩
      rw [up1_e]
      show (if 0 ≤ i ∧ i < 0 + hL h v then up1 (hI h) (hN h) (fun _ => 0) v (0 + (i - 0)) else 0) = _
      rw [if_pos (show 0 ≤ i ∧ i < 0 + hL h v by omega), up1_n _ _ _ _ (show ¬ v = hN h by omega), show 0 + (i - 0) = i by omega]
      exact s11 i hi
    · rw [wR_r, hR_r, up2_e, hL_r, hL_w, hL_a, up1_e]
      exact nb.1
    · refine ⟨by rw [wR_r, hN_r, hN_w, hN_a]; omega, by rw [wR_r, hN_r, hN_w, hN_a]; omega, by rw [wR_r, hU_r, hU_w, hU_a]; omega, Or.inr (by rw [wR_r, hR_r, up2_e]; omega), fun x hx hxa hxr => ⟨?_, ?_, ?_, ?_⟩⟩
      · rw [wR_r, hT_r, hT_w, hT_a, up1_n _ _ _ _ (by omega)]
      · rw [wR_r, hL_r, hL_w, hL_a, up1_n _ _ _ _ (by omega)]
      · rw [wR_r, hI_r, hI_w, up1_n _ _ _ _ (by omega), hI_a, up1_n _ _ _ _ (by omega)]
      · funext s
        rw [wR_r, hR_r, up2_n _ _ _ _ _ _ (by omega), hR_w, hR_a, up1_n _ _ _ _ (by omega)]

/-! 90 L3: builders, II: what is appended -/
theorem Ux.e4 {a c d : Nat} {h h' : AH} (k : Ux a c d h h') {x : Nat} (h1 : x < hN h) (h2 : x ≠ a) (h3 : x ≠ hR h a 0) : E4 h h' x := k.2.2.2.2 x h1 h2 h3
-- ints of the row and the length written: the builder with more
theorem Sb.more {h : AH} {a : Nat} {bs cs : List Nat} (hs : Sb h a bs) (hl : bs.length + cs.length ≤ hL h (hR h a 0)) {F : Nat → Nat → Int32} (e0 : F a 1 = iI 0) (e3 : F a 3 = iI ((bs.length + cs.length : Nat) : Int)) (e1 : ∀ i, i < bs.length → F (hR h a 0) i = hI h (hR h a 0) i) (e2 : ∀ i, i < cs.length → F (hR h a 0) (bs.length + i) = iI (nth cs i : Int)) : Sb (sI h F) a (bs ++ cs) := by
  obtain ⟨s1, s2, s3, s4, s5, s6, s7, s8, s9, s10, s11⟩ := hs
  refine ⟨s1, s2, s3, s4, s5, e0, ?_, s8, ?_, s10, s11.app e1 e2⟩
  · rw [List.length_append]; exact e3
  · rw [List.length_append]; exact hl
theorem Ux.more {h : AH} {a : Nat} {F : Nat → Nat → Int32} (e : ∀ x, x ≠ a → x ≠ hR h a 0 → F x = hI h x) : Ux a 0 0 h (sI h F) := ⟨Nat.le_refl _, Nat.le_refl _, Nat.le_refl _, Or.inl rfl, fun x _ h1 h2 => ⟨rfl, rfl, e x h1 h2, rfl⟩⟩
theorem getBytes_E {h : AH} {s v : Nat} {cs : List Nat} (ht : Str h s cs) {d : Nat} (hv : hT h v = 102) (hv2 : 200 ≤ v) (hd : d + cs.length ≤ hL h v) (hd2 : d ≤ 100000) (hc : cs.length ≤ 100000) : f_String_getBytes h s v (iI (d : Int)) (iI 0) = some (wCp h (hR h s 0) 0 v d cs.length) := by
  have f := coder_E ht
  obtain ⟨k1, k2, k3, k4, k5, k6⟩ := ht
  have i0 : ix (nI 0) = 0 := by rw [nI_L]; rfl
  have i1 : ix (iI (d : Int)) = d := iI_ixn (by omega)
  have i2 : ix (iI (cs.length : Int)) = cs.length := iI_ixn (by omega)
  unfold f_String_getBytes
  rw [gd_P k1, bn_C f, if_neg (fun k => k rfl), gd_P k1, gd_P k3, shl0, k5, gd_P ⟨k3, hv, hv2, by decide, by rw [z_i, iI_lt (by omega) (by omega) (by omega) (by omega)]; omega, by rw [z_i, iI_lt (by omega) (by omega) (by omega) (by omega)]; omega, by rw [i0, i2]; omega, by rw [i1, i2]; exact hd⟩, lq_E, i0, i1, i2]
theorem inflate_E {h : AH} {a s : Nat} {bs cs : List Nat} (hs : Sb h a bs) (ht : Str h s cs) : f_ASB_inflateIfNeededFor h a s = some h := by
  have f := coder_E ht
  unfold f_ASB_inflateIfNeededFor
  rw [if_neg (by decide), gd_P hs.1, gd_P ht.1, bn_C f, hs.2.2.2.2.2.1, if_pos rfl]
theorem append_s_E {h : AH} {a s : Nat} {bs cs : List Nat} (hs : Sb h a bs) (ht : Str h s cs) (h1 : s < hN h) (h2 : hR h s 0 < hN h) (h3 : hR h s 0 ≠ hR h a 0) (hl : bs.length + cs.length ≤ 2400) :
    ∃ h', f_SB_append_s h a s = some (h', a) ∧ Sb h' a (bs ++ cs) ∧ Ux a 1 5000 h h' := by
  have f1 := slen_E ht
  obtain ⟨h4, e1, e2, e3, e4⟩ := ensure_E hs (need := bs.length + cs.length) hl
  have sa : s ≠ a := fun y => by have k1 := hs.1; have k2 := ht.1; rw [y] at k2; omega
  have ra : hR h s 0 ≠ a := fun y => by have k1 := hs.1; have k2 := ht.2.2.1; rw [y] at k2; omega
  have sr : s ≠ hR h a 0 := fun y => by have k1 := hs.2.2.2.2.2.2.2.1; have k2 := ht.1; rw [y] at k2; omega
  have ht4 : Str h4 s cs := ht.ext (e4.e4 h1 sa sr) (e4.e4 h2 ra h3)
  have er : hR h4 s 0 = hR h s 0 := congrFun (e4.e4 h1 sa sr).2.2.2 0
  have nr : hR h s 0 ≠ hR h4 a 0 := by rcases e4.2.2.2.1 with k | k <;> omega
  obtain ⟨s1, s2, s3, s4, s5, s6, s7, s8, s9, s10, s11⟩ := e2
  have f2 := getBytes_E ht4 (v := hR h4 a 0) (d := bs.length) s8 (by omega) e3 (by omega) (by omega)
  have f3 := inflate_E ⟨s1, s2, s3, s4, s5, s6, s7, s8, s9, s10, s11⟩ ht4
  rw [er] at f2
  have hs' : hI h a 3 = iI (bs.length : Int) := hs.2.2.2.2.2.2.1
  have eq1 : iI (bs.length : Int) + iI (cs.length : Int) = iI ((bs.length + cs.length : Nat) : Int) := by rw [iI_add]; rfl
  have va : hR h4 a 0 ≠ a := by omega
  -- the cells behind it
  have eh : wI (wCp h4 (hR h s 0) 0 (hR h4 a 0) bs.length cs.length) a 3 (iI ((bs.length + cs.length : Nat) : Int)) = sI h4 (up2 (hI (wCp h4 (hR h s 0) 0 (hR h4 a 0) bs.length cs.length)) a 3 (iI ((bs.length + cs.length : Nat) : Int))) := rfl
  have wv : ∀ i, hI (wCp h4 (hR h s 0) 0 (hR h4 a 0) bs.length cs.length) (hR h4 a 0) i = if bs.length ≤ i ∧ i < bs.length + cs.length then hI h4 (hR h s 0) (0 + (i - bs.length)) else hI h4 (hR h4 a 0) i := fun i => by rw [hI_w, up1_e]
  have wo : ∀ x, x ≠ hR h4 a 0 → hI (wCp h4 (hR h s 0) 0 (hR h4 a 0) bs.length cs.length) x = hI h4 x := fun x hx => by rw [hI_w, up1_n _ _ _ _ hx]
  refine ⟨_, ?_, ?_, (e4.trans (Ux.more (F := up2 (hI (wCp h4 (hR h s 0) 0 (hR h4 a 0) bs.length cs.length)) a 3 (iI ((bs.length + cs.length : Nat) : Int))) fun x k1 k2 => ?_)).mono (by omega) (by omega)⟩
  · have g1 : f_ASB_putStringAt h4 a (iI (bs.length : Int)) s = some (wCp h4 (hR h s 0) 0 (hR h4 a 0) bs.length cs.length) := by
      unfold f_ASB_putStringAt
      rw [gd_P s1, f3, bv_S, gd_P s1, gd_P ht4.1, s6, f2, bv_S]
    unfold f_SB_append_s
    rw [gd_P hs.1]
    have g2 : f_ASB_append_s h a s = some (sI h4 (up2 (hI (wCp h4 (hR h s 0) 0 (hR h4 a 0) bs.length cs.length)) a 3 (iI ((bs.length + cs.length : Nat) : Int))), a) := by
      unfold f_ASB_append_s
      rw [gd_P (by rw [ht.1]; decide), gd_P ht.1, bn_C f1, gd_P hs.1, hs', eq1, e1, bv_S, gd_P s1, s7, g1, bv_S, gd_P (by rw [hT_w]; exact s1), wo a (fun y => va y.symm), s7, eq1, lq_E, ← eh]
    rw [bn_C g2]
  · refine Sb.more ⟨s1, s2, s3, s4, s5, s6, s7, s8, s9, s10, s11⟩ e3 ?_ ?_ (fun i hi => ?_) (fun i hi => ?_)
    · rw [up2_n _ _ _ _ _ _ (by omega), wo a (fun y => va y.symm)]; exact s6
    · rw [up2_e]
    · rw [up2_n _ _ _ _ _ _ (fun y => va y.1), wv, if_neg (by omega)]
    · rw [up2_n _ _ _ _ _ _ (fun y => va y.1), wv, if_pos (by omega), show 0 + (bs.length + i - bs.length) = i by omega]
      have k6 := ht4.2.2.2.2.2 i hi
      rw [er] at k6
      exact k6
  · funext i
    rw [up2_n _ _ _ _ _ _ (fun y => k1 y.1), wo x k2]
-- numbers
def dig (n : Nat) : List Nat := if n < 10 then [48 + n] else if n < 100 then [48 + n / 10, 48 + n % 10] else [48 + n / 100, 48 + n / 10 % 10, 48 + n % 10]

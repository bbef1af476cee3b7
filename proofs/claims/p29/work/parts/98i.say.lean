/-! 98i L3: the text comes onto the tape -/
def Tpe (cs : List Nat) (L : Nat) (F : Nat → Nat → Int32) : Prop := F 200 1 = iI (L : Int) ∧ ∀ i, i < L → F 201 i = iI (nth cs i : Int)
def Ftp (F F' : Nat → Nat → Int32) : Prop := ∀ c s, c ≠ 201 → ¬ (c = 200 ∧ s = 1) → F' c s = F c s
theorem Ftp.trans {F F' F'' : Nat → Nat → Int32} (h1 : Ftp F F') (h2 : Ftp F' F'') : Ftp F F'' := fun c s a b => (h2 c s a b).trans (h1 c s a b)
theorem SkQ.t1 {h : AH} (k : SkQ h) : hT h 201 = 102 := k.2.2.2.2.2.1
theorem SkQ.l1 {h : AH} (k : SkQ h) : hL h 201 = 2000 := k.2.2.2.2.2.2
theorem ap1 {cs : List Nat} {h : AH} (hQ : SkQ h) {L : Nat} (T : Tpe cs L (hI h)) (hL : L < 2000) {x : Int32} {s : Int} (s0 : 0 ≤ s) (s1 : s ≤ 24) (hb : nth cs L < 128) (e : Int8.toInt32 (Int32.toInt8 (x >>> (iI s &&& 31))) = iI (nth cs L : Int)) (K : AH → Nat → Int32 → Int32 → Option AH) :
    ∃ F, f_QuillBoats_append_b3 K h 200 x (iI s) = K (sI h F) 200 x (iI (s + -8)) ∧ Tpe cs (L + 1) F ∧ Ftp (hI h) F := by
  obtain ⟨T1, T2⟩ := T
  have i8 := i8_E hb
  have n0 : ¬ iI (L : Int) < 0 := by rw [z_i, iI_lt (by omega) (by omega) (by omega) (by omega)]; omega
  have ixl : (iI (L : Int)).toNatClampNeg = L := iI_ixn (by omega)
  have eL : iI (L : Int) + nI 1 = iI ((L + 1 : Nat) : Int) := by rw [nI_L, iI_add]; rfl
  have q0 := hQ.t
  have q1 := hQ.t1
  have q2 := hQ.l1
  have q3 := hQ.r0
  refine ⟨up2 (up2 (hI h) 201 L (iI (nth cs L : Int))) 200 1 (iI ((L + 1 : Nat) : Int)), ?_, ⟨up2_e _ _ _ _, fun i hi => ?_⟩, fun c s' h1 h2 => ?_⟩
  · unfold f_QuillBoats_append_b3
    rw [if_neg (by rw [z_i, iI_lt (by omega) (by omega) (by omega) (by omega)]; omega), gd_P q0, T1, if_neg n0, q3, gd_P q1, if_neg (by rw [q2, nI_L, iI_le (by omega) (by omega) (by omega) (by omega)]; omega), gd_P ⟨q1, by decide, n0, by rw [q2]; show (iI (L : Int)).toNatClampNeg < 2000; rw [ixl]; exact hL⟩, e, i8, show ix (iI (L : Int)) = L from ixl, wI_s, lq_E, gd_P (by rw [hT_s]; exact q0), hI_s, up2_n _ _ _ _ _ _ (by omega), T1, eL, wI_s, sI_s, hI_s, lq_E]
    unfold f_QuillBoats_append_b49
    rw [lq_E, nI_L, iI_neg, iI_add]
  · rw [up2_n _ _ _ _ _ _ (by omega)]
    by_cases c : i = L
    · rw [c, up2_e]
    · rw [up2_n _ _ _ _ _ _ (by omega)]; exact T2 i (by omega)
  · rw [up2_n _ _ _ _ _ _ (by omega), up2_n _ _ _ _ _ _ (by omega)]
theorem ap4 {cs : List Nat} {h : AH} (hQ : SkQ h) {L : Nat} (T : Tpe cs L (hI h)) (hL : L + 4 ≤ 2000) (hb : ∀ i, nth cs i < 128) :
    ∃ F, f_QuillBoats_append h 200 (iI (v4 (nth cs L) (nth cs (L + 1)) (nth cs (L + 2)) (nth cs (L + 3)) : Int)) = some (sI h F) ∧ Tpe cs (L + 4) F ∧ Ftp (hI h) F := by
  obtain ⟨b1, b2, b3, b4⟩ := v4_bytes (hb L) (hb (L + 1)) (hb (L + 2)) (hb (L + 3))
  generalize iI (v4 (nth cs L) (nth cs (L + 1)) (nth cs (L + 2)) (nth cs (L + 3)) : Int) = x at *
  obtain ⟨F1, e1, T1, f1⟩ := ap1 hQ T (by omega) (s := 24) (by omega) (by omega) (hb L) b1 (f_QuillBoats_append_l3 (99995 + 4))
  obtain ⟨F2, e2, T2, f2⟩ := ap1 (h := sI h F1) hQ T1 (by omega) (s := 16) (by omega) (by omega) (hb (L + 1)) b2 (f_QuillBoats_append_l3 (99995 + 3))
  obtain ⟨F3, e3, T3, f3⟩ := ap1 (h := sI h F2) hQ T2 (by omega) (s := 8) (by omega) (by omega) (hb (L + 2)) b3 (f_QuillBoats_append_l3 (99995 + 2))
  obtain ⟨F4, e4, T4, f4⟩ := ap1 (h := sI h F3) hQ T3 (by omega) (s := 0) (by omega) (by omega) (hb (L + 3)) b4 (f_QuillBoats_append_l3 (99995 + 1))
  refine ⟨F4, ?_, T4, ((f1.trans f2).trans f3).trans f4⟩
  unfold f_QuillBoats_append
  rw [nI_L]
  have e5 : f_QuillBoats_append_l3 (99995 + 1) (sI h F4) 200 x (iI (0 + -8)) = some (sI h F4) := by
    show f_QuillBoats_append_b3 (f_QuillBoats_append_l3 99995) (sI h F4) 200 x (iI (0 + -8)) = _
    unfold f_QuillBoats_append_b3
    rw [if_pos (by rw [z_i, iI_lt (by omega) (by omega) (by omega) (by omega)]; omega)]
  exact e1.trans (e2.trans (e3.trans (e4.trans e5)))
theorem feed_E {cs : List Nat} {h : AH} (hQ : SkQ h) {L : Nat} (T : Tpe cs L (hI h)) (hL : L + 20 ≤ 2000) (hb : ∀ i, nth cs i < 128) :
    ∃ F r, f_QuillBoats_feed h 200 (iI (v4 (nth cs L) (nth cs (L + 1)) (nth cs (L + 2)) (nth cs (L + 3)) : Int)) (iI (v4 (nth cs (L + 4)) (nth cs (L + 4 + 1)) (nth cs (L + 4 + 2)) (nth cs (L + 4 + 3)) : Int)) (iI (v4 (nth cs (L + 8)) (nth cs (L + 8 + 1)) (nth cs (L + 8 + 2)) (nth cs (L + 8 + 3)) : Int)) (iI (v4 (nth cs (L + 12)) (nth cs (L + 12 + 1)) (nth cs (L + 12 + 2)) (nth cs (L + 12 + 3)) : Int)) (iI (v4 (nth cs (L + 16)) (nth cs (L + 16 + 1)) (nth cs (L + 16 + 2)) (nth cs (L + 16 + 3)) : Int)) = some (sI h F, r) ∧ Tpe cs (L + 20) F ∧ Ftp (hI h) F := by
  obtain ⟨F1, e1, T1, f1⟩ := ap4 hQ T (by omega) hb
  obtain ⟨F2, e2, T2, f2⟩ := ap4 (h := sI h F1) hQ T1 (by omega) hb
  obtain ⟨F3, e3, T3, f3⟩ := ap4 (h := sI h F2) hQ T2 (by omega) hb
  obtain ⟨F4, e4, T4, f4⟩ := ap4 (h := sI h F3) hQ T3 (by omega) hb
  obtain ⟨F5, e5, T5, f5⟩ := ap4 (h := sI h F4) hQ T4 (by omega) hb
  have q0 := hQ.t
  have e2' : f_QuillBoats_append (sI h F1) 200 (iI (v4 (nth cs (L + 4)) (nth cs (L + 4 + 1)) (nth cs (L + 4 + 2)) (nth cs (L + 4 + 3)) : Int)) = some (sI h F2) := e2
  have e3' : f_QuillBoats_append (sI h F2) 200 (iI (v4 (nth cs (L + 8)) (nth cs (L + 8 + 1)) (nth cs (L + 8 + 2)) (nth cs (L + 8 + 3)) : Int)) = some (sI h F3) := e3
  have e4' : f_QuillBoats_append (sI h F3) 200 (iI (v4 (nth cs (L + 12)) (nth cs (L + 12 + 1)) (nth cs (L + 12 + 2)) (nth cs (L + 12 + 3)) : Int)) = some (sI h F4) := e4
  have e5' : f_QuillBoats_append (sI h F4) 200 (iI (v4 (nth cs (L + 16)) (nth cs (L + 16 + 1)) (nth cs (L + 16 + 2)) (nth cs (L + 16 + 3)) : Int)) = some (sI h F5) := e5
  refine ⟨F5, F5 200 1, ?_, T5, (((f1.trans f2).trans f3).trans f4).trans f5⟩
  unfold f_QuillBoats_feed
  rw [gd_P q0, T.1, nI_L, nI_L, iI_add, if_pos (by rw [iI_le (by omega) (by omega) (by omega) (by omega)]; omega), e1, bv_S, gd_P (by rw [hT_s]; exact q0), e2', bv_S, gd_P (by rw [hT_s]; exact q0), e3', bv_S, gd_P (by rw [hT_s]; exact q0), e4', bv_S, gd_P (by rw [hT_s]; exact q0), e5', bv_S, gd_P (by rw [hT_s]; exact q0), hI_s]
-- a row of five ints, made of bytes
def pw (by' : Nat → Nat) (q : Nat) : Nat → Nat
  | 0 => 0
  | c + 1 => pw by' q c * 256 + by' (4 * q + c)
theorem pw_lt {by' : Nat → Nat} (hb : ∀ i, by' i < 128) (q : Nat) : pw by' q 1 < 128 ∧ pw by' q 2 < 128 * 256 ∧ pw by' q 3 < 128 * 65536 := by
  have h0 := hb (4 * q + 0)
  have h1 := hb (4 * q + 1)
  have h2 := hb (4 * q + 2)
  refine ⟨?_, ?_, ?_⟩
  · show 0 * 256 + by' (4 * q + 0) < _; omega
  · show (0 * 256 + by' (4 * q + 0)) * 256 + by' (4 * q + 1) < _; omega
  · show ((0 * 256 + by' (4 * q + 0)) * 256 + by' (4 * q + 1)) * 256 + by' (4 * q + 2) < _; omega
theorem pw_4 (by' : Nat → Nat) (q : Nat) : pw by' q 4 = v4 (by' (4 * q)) (by' (4 * q + 1)) (by' (4 * q + 2)) (by' (4 * q + 3)) := by
  show (((0 * 256 + by' (4 * q + 0)) * 256 + by' (4 * q + 1)) * 256 + by' (4 * q + 2)) * 256 + by' (4 * q + 3) = _
  rw [show 4 * q + 0 = 4 * q from rfl]
  unfold v4
  omega

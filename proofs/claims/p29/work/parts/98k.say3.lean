/-! 98k L3: say: row by row, and the end -/
theorem SkQ.ext2 {h h' : AH} (k : SkQ h) (e : ∀ a, a < 202 → hT h' a = hT h a ∧ hL h' a = hL h a ∧ hR h' a = hR h a) : SkQ h' := by
  obtain ⟨p1, p2, p3⟩ := e 200 (by omega)
  obtain ⟨q1, q2, q3⟩ := e 201 (by omega)
  unfold SkQ
  rw [p1, p3, q1, q2]
  exact k
theorem feedr {cs : List Nat} {h : AH} {s a L : Nat} {k7 : AH → Nat → Nat → Int32 → Int32 → Option (AH × Int32)} {N : Nat} (hQ : SkQ h) (T : Tpe cs L (hI h)) (hL2 : L + 20 ≤ 2000) (hb : ∀ i, nth cs i < 128) (tA : hT h a = 101) (lA : hL h a = 5) (R : Rwd (sBy cs L) 20 (hI h a)) :
    ∃ F, f_Law_say_l20 k7 (1 + N) h 200 s (iI (cs.length : Int)) (iI (L : Int)) a (iI 20) = k7 (sI h F) 200 s (iI (cs.length : Int)) (iI ((L + 20 : Nat) : Int)) ∧ Tpe cs (L + 20) F ∧ Ftp (hI h) F := by
  obtain ⟨F, r, e, T2, f2⟩ := feed_E hQ T hL2 hb
  have r0 : hI h a 0 = iI (v4 (nth cs L) (nth cs (L + 1)) (nth cs (L + 2)) (nth cs (L + 3)) : Int) := (R 0 (by decide)).trans (by rw [show min 4 (20 - 4 * 0) = 4 from rfl, pw_4]; rfl)
  have r1 : hI h a 1 = iI (v4 (nth cs (L + 4)) (nth cs (L + 4 + 1)) (nth cs (L + 4 + 2)) (nth cs (L + 4 + 3)) : Int) := (R 1 (by decide)).trans (by rw [show min 4 (20 - 4 * 1) = 4 from rfl, pw_4]; rfl)
  have r2 : hI h a 2 = iI (v4 (nth cs (L + 8)) (nth cs (L + 8 + 1)) (nth cs (L + 8 + 2)) (nth cs (L + 8 + 3)) : Int) := (R 2 (by decide)).trans (by rw [show min 4 (20 - 4 * 2) = 4 from rfl, pw_4]; rfl)
  have r3 : hI h a 3 = iI (v4 (nth cs (L + 12)) (nth cs (L + 12 + 1)) (nth cs (L + 12 + 2)) (nth cs (L + 12 + 3)) : Int) := (R 3 (by decide)).trans (by rw [show min 4 (20 - 4 * 3) = 4 from rfl, pw_4]; rfl)
  have r4 : hI h a 4 = iI (v4 (nth cs (L + 16)) (nth cs (L + 16 + 1)) (nth cs (L + 16 + 2)) (nth cs (L + 16 + 3)) : Int) := (R 4 (by decide)).trans (by rw [show min 4 (20 - 4 * 4) = 4 from rfl, pw_4]; rfl)
  have x0 : ix (nI 0) = 0 := by decide
  have x1 : ix (nI 1) = 1 := by decide
  have x2 : ix (nI 2) = 2 := by decide
  have x3 : ix (nI 3) = 3 := by decide
  have x4 : ix (nI 4) = 4 := by decide
  have eL : iI (L : Int) + nI 20 = iI ((L + 20 : Nat) : Int) := by rw [nI_L, iI_add]; rfl
  refine ⟨F, ?_, T2, f2⟩
  rw [show 1 + N = N + 1 by omega]
  show f_Law_say_b20 k7 (f_Law_say_l20 k7 N) h 200 s (iI (cs.length : Int)) (iI (L : Int)) a (iI 20) = _
  unfold f_Law_say_b20
  rw [if_pos (by decide), gd_P ⟨tA, by rw [lA]; decide⟩, gd_P ⟨tA, by rw [lA]; decide⟩, gd_P ⟨tA, by rw [lA]; decide⟩, gd_P ⟨tA, by rw [lA]; decide⟩, gd_P ⟨tA, by rw [lA]; decide⟩, gd_P hQ.t, x0, x1, x2, x3, x4, r0, r1, r2, r3, r4, bn_C e, lq_E, eL]
theorem sayend {cs : List Nat} {h : AH} {s L N : Nat} (hQ : SkQ h) (T : Tpe cs L (hI h)) (h0 : 0 < cs.length) (h1 : cs.length ≤ L) (hL2 : L ≤ 2000) (hn : 202 ≤ hN h) :
    ∃ h', f_Law_say_l7 (1 + N) h 200 s (iI (cs.length : Int)) (iI (L : Int)) = f_Law_say_b112 h' 200 ∧ Ft 0 h h' ∧ Tpe cs cs.length (hI h') := by
  have n0 : ¬ iI (cs.length : Int) ≤ 0 := by rw [z_i, iI_le (by omega) (by omega) (by omega) (by omega)]; omega
  have n1 : ¬ iI (cs.length : Int) < 0 := by rw [z_i, iI_lt (by omega) (by omega) (by omega) (by omega)]; omega
  have p1 : iI (cs.length : Int) ≤ iI (L : Int) := by rw [iI_le (by omega) (by omega) (by omega) (by omega)]; omega
  have et : f_QuillBoats_trim h 200 (iI (cs.length : Int)) = some (sI h (up2 (hI h) 200 1 (iI (cs.length : Int))), iI (cs.length : Int)) := by
    unfold f_QuillBoats_trim
    rw [if_neg n1, gd_P hQ.t, T.1, if_pos p1, wI_s, lq_E]
  refine ⟨sI h (up2 (hI h) 200 1 (iI (cs.length : Int))), ?_, ⟨Nat.le_refl _, Nat.le_refl _, Nat.le_refl _, fun _ _ => ⟨rfl, rfl, rfl, rfl⟩, fun x i _ _ h2 => ?_⟩, ⟨by rw [hI_s]; exact up2_e _ _ _ _, fun i hi => ?_⟩⟩
  · rw [show 1 + N = N + 1 by omega]
    show f_Law_say_b7 (f_Law_say_l7 N) h 200 s (iI (cs.length : Int)) (iI (L : Int)) = _
    unfold f_Law_say_b7
    rw [if_pos p1, if_neg n0, gd_P hQ.t, bn_C et]
  · rw [hI_s, up2_n _ _ _ _ _ _ h2]
  · rw [hI_s, up2_n _ _ _ _ _ _ (by omega)]; exact T.2 i (by omega)
theorem say_l {cs : List Nat} {s : Nat} (h0 : 0 < cs.length) (hl : cs.length ≤ 1516) (hb : ∀ i, nth cs i < 128) (hz : ∀ i, cs.length ≤ i → nth cs i = 0) (hs3 : 202 ≤ s) : ∀ (j : Nat) {h : AH} {L N : Nat}, cs.length ≤ L + 20 * j → L ≤ 2000 → SkQ h → 202 ≤ hN h → Str h s cs → s < hN h → hR h s 0 < hN h → 202 ≤ hR h s 0 → Tpe cs L (hI h) →
    ∃ h', f_Law_say_l7 (j + 1 + N) h 200 s (iI (cs.length : Int)) (iI (L : Int)) = f_Law_say_b112 h' 200 ∧ Ft j h h' ∧ Tpe cs cs.length (hI h') := by
  intro j
  induction j with
  | zero =>
    intro h L N hj hL2 hQ hn hs s1 s2 s3 T
    obtain ⟨h', e, f, T'⟩ := sayend (s := s) (N := N) hQ T h0 (by omega) hL2 hn
    refine ⟨h', ?_, f, T'⟩
    rw [Nat.zero_add]
    exact e
  | succ j ih =>
    intro h L N hj hL2 hQ hn hs s1 s2 s3 T
    by_cases c : cs.length ≤ L
    · obtain ⟨h', e, f, T'⟩ := sayend (s := s) (N := j + 1 + N) hQ T h0 c hL2 hn
      refine ⟨h', ?_, f.mono (by omega), T'⟩
      rw [show j + 1 + 1 + N = 1 + (j + 1 + N) by omega]
      exact e
    · have e4 : ∀ x, x < hN h → E4 h (hA h 101 5) x := fun x hx => ⟨up1_n _ _ _ _ (by omega), up1_n _ _ _ _ (by omega), up1_n _ _ _ _ (by omega), up1_n _ _ _ _ (by omega)⟩
      have tA : hT (hA h 101 5) (hN h) = 101 := up1_e _ _ _
      have lA : hL (hA h 101 5) (hN h) = 5 := up1_e _ _ _
      have iA : hI (hA h 101 5) (hN h) = fun _ => 0 := up1_e _ _ _
      have R0 : Rwd (sBy cs L) 0 (hI (hA h 101 5) (hN h)) := fun q hq => by
        rw [iA, show min 4 (0 - 4 * q) = 0 by omega]
        rfl
      have hr0 : hR (hA h 101 5) s 0 = hR h s 0 := congrFun (e4 s s1).2.2.2 0
      obtain ⟨F1, a1, a2, a3⟩ := say20 (k7 := f_Law_say_l7 (j + 1 + N)) (s := s) (a := hN h) hl hL2 hb hz 20 (h := hA h 101 5) (k := 0) (N := 99979) (by omega) (by omega) (by rw [hr0]; omega) (hs.ext (e4 s s1) (e4 _ s2)) tA lA R0
      have hQ1 : SkQ (sI (hA h 101 5) F1) := hQ.ext2 (fun x hx => ⟨(e4 x (by omega)).1, (e4 x (by omega)).2.1, (e4 x (by omega)).2.2.2⟩)
      have T1 : Tpe cs L (hI (sI (hA h 101 5) F1)) := by
        refine ⟨?_, fun i hi => ?_⟩
        · rw [hI_s, a3 _ _ (by omega), (e4 200 (by omega)).2.2.1]; exact T.1
        · rw [hI_s, a3 _ _ (by omega), (e4 201 (by omega)).2.2.1]; exact T.2 i hi
      obtain ⟨F2, b1, b2, b3⟩ := feedr (s := s) (a := hN h) (k7 := f_Law_say_l7 (j + 1 + N)) (N := 99979) hQ1 T1 (by omega) hb tA lA a2
      have ft1 : Ft 1 h (sI (sI (hA h 101 5) F1) F2) := by
        refine ⟨Nat.le_succ _, Nat.le_refl _, Nat.le_refl _, fun x hx => ⟨(e4 x hx).1, (e4 x hx).2.1, (e4 x hx).2.2.2, up1_n _ _ _ _ (by omega)⟩, fun x i hx h1 h2 => ?_⟩
        rw [hI_s, b3 x i h1 h2, hI_s, a3 x i (by omega), (e4 x hx).2.2.1]
      obtain ⟨q1, q2, q3, q4⟩ := ft1.str hs s1 s2 hs3 s3
      obtain ⟨h', e, f, T'⟩ := ih (h := sI (sI (hA h 101 5) F1) F2) (L := L + 20) (N := N) (by omega) (by omega) (ft1.skq hQ hn) (by have := ft1.1; omega) q1 q2 q3 q4 b2
      refine ⟨h', ?_, (ft1.trans f).mono (by omega), T'⟩
      rw [show j + 1 + 1 + N = (j + 1 + N) + 1 by omega]
      show f_Law_say_b7 (f_Law_say_l7 (j + 1 + N)) h 200 s (iI (cs.length : Int)) (iI (L : Int)) = _
      unfold f_Law_say_b7
      rw [if_neg (by rw [iI_le (by omega) (by omega) (by omega) (by omega)]; omega), lq_E, lq_E, show ix (nI 5) = 5 by decide]
      exact a1.trans (b1.trans e)
theorem nth_z : ∀ {cs : List Nat} {i : Nat}, cs.length ≤ i → nth cs i = 0 := by
  intro cs
  induction cs with
  | nil => intro i _; rfl
  | cons a l ih =>
    intro i h
    cases i with
    | zero => exact absurd h (by rw [List.length_cons]; omega)
    | succ i => exact ih (by rw [List.length_cons] at h; omega)
theorem say_E {cs : List Nat} {h : AH} {s : Nat} (h0 : 0 < cs.length) (hl : cs.length ≤ 1516) (hb : ∀ i, nth cs i < 128) (hQ : SkQ h) (hn : 202 ≤ hN h) (hz : hI h 200 1 = iI 0) (hs : Str h s cs) (s1 : s < hN h) (s2 : hR h s 0 < hN h) (s3 : 202 ≤ s) (s4 : 202 ≤ hR h s 0) :
    ∃ h', f_Law_say h 200 s = f_Law_say_b112 h' 200 ∧ Ft 76 h h' ∧ Tpe cs cs.length (hI h') := by
  obtain ⟨h', e, f, T⟩ := say_l h0 hl hb (fun i => nth_z) s3 76 (h := h) (L := 0) (N := 99923) (by omega) (by omega) hQ hn hs s1 s2 s4 ⟨hz, fun i hi => absurd hi (Nat.not_lt_zero _)⟩
  refine ⟨h', ?_, f, T⟩
  unfold f_Law_say
  rw [gd_P hs.1, bn_C (slen_E hs)]
  exact e

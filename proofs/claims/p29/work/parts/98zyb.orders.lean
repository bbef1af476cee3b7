/-! 98zyb L3: making the sim, IV: miles, shades, prices, orders (written by l3/gen98zyb.py) -/
theorem S0.w5 {h : AH} {v : Int32} (k : S0 h) (hv : Rg 1 60 v) : S0 (wI h 320 5 v) := by
  obtain ⟨a, b, c, ⟨d1, d2, d3, d4, d5⟩, e, ⟨f1, f2⟩, g, i⟩ := k
  refine ⟨a, b, c, ⟨?_, ?_, ?_, ?_, ?_⟩, fun k hk => ?_, ⟨?_, ?_⟩, fun k hk => ?_, fun k hk => ?_⟩
  · rw [hI_wn _ _ _ _ _ _ (by omega)]; exact d1
  · rw [hI_wn _ _ _ _ _ _ (by omega)]; exact d2
  · rw [hI_wn _ _ _ _ _ _ (by omega)]; exact d3
  · rw [hI_wn _ _ _ _ _ _ (by omega)]; exact d4
  · rw [hI_wn _ _ _ _ _ _ (by omega)]; exact d5
  · rw [hI_wn _ _ _ _ _ _ (by omega), hI_wn _ _ _ _ _ _ (by omega), hI_wn _ _ _ _ _ _ (by omega)]; exact e k hk
  · rw [hI_we]; exact hv
  · rw [hI_wn _ _ _ _ _ _ (by omega)]; exact f2
  · rw [hI_wn _ _ _ _ _ _ (by omega)]; exact g k hk
  · rw [hI_wn _ _ _ _ _ _ (by omega)]; exact i k hk
theorem S0.w6 {h : AH} {v : Int32} (k : S0 h) (hv : Rg 0 5 v) : S0 (wI h 320 6 v) := by
  obtain ⟨a, b, c, ⟨d1, d2, d3, d4, d5⟩, e, ⟨f1, f2⟩, g, i⟩ := k
  refine ⟨a, b, c, ⟨?_, ?_, ?_, ?_, ?_⟩, fun k hk => ?_, ⟨?_, ?_⟩, fun k hk => ?_, fun k hk => ?_⟩
  · rw [hI_wn _ _ _ _ _ _ (by omega)]; exact d1
  · rw [hI_wn _ _ _ _ _ _ (by omega)]; exact d2
  · rw [hI_wn _ _ _ _ _ _ (by omega)]; exact d3
  · rw [hI_wn _ _ _ _ _ _ (by omega)]; exact d4
  · rw [hI_wn _ _ _ _ _ _ (by omega)]; exact d5
  · rw [hI_wn _ _ _ _ _ _ (by omega), hI_wn _ _ _ _ _ _ (by omega), hI_wn _ _ _ _ _ _ (by omega)]; exact e k hk
  · rw [hI_wn _ _ _ _ _ _ (by omega)]; exact f1
  · rw [hI_we]; exact hv
  · rw [hI_wn _ _ _ _ _ _ (by omega)]; exact g k hk
  · rw [hI_wn _ _ _ _ _ _ (by omega)]; exact i k hk
theorem S0.wh {h : AH} {v : Int32} {s : Nat} (k : S0 h) (hv : Rg 0 3 v) : S0 (wI h 321 s v) := by
  obtain ⟨a, b, c, ⟨d1, d2, d3, d4, d5⟩, e, ⟨f1, f2⟩, g, i⟩ := k
  refine ⟨a, b, c, ⟨?_, ?_, ?_, ?_, ?_⟩, fun k hk => ?_, ⟨?_, ?_⟩, fun k hk => ?_, fun k hk => ?_⟩
  · rw [hI_wn _ _ _ _ _ _ (by omega)]; exact d1
  · rw [hI_wn _ _ _ _ _ _ (by omega)]; exact d2
  · rw [hI_wn _ _ _ _ _ _ (by omega)]; exact d3
  · rw [hI_wn _ _ _ _ _ _ (by omega)]; exact d4
  · rw [hI_wn _ _ _ _ _ _ (by omega)]; exact d5
  · rw [hI_wn _ _ _ _ _ _ (by omega), hI_wn _ _ _ _ _ _ (by omega), hI_wn _ _ _ _ _ _ (by omega)]; exact e k hk
  · rw [hI_wn _ _ _ _ _ _ (by omega)]; exact f1
  · rw [hI_wn _ _ _ _ _ _ (by omega)]; exact f2
  · by_cases q : k = s
    · rw [q, hI_we]; exact hv
    · rw [hI_wn _ _ _ _ _ _ (fun y => q y.2)]; exact g k hk
  · rw [hI_wn _ _ _ _ _ _ (by omega)]; exact i k hk
theorem S0.wc {h : AH} {v : Int32} {s : Nat} (k : S0 h) (hv : Rg 0 50 v) : S0 (wI h 322 s v) := by
  obtain ⟨a, b, c, ⟨d1, d2, d3, d4, d5⟩, e, ⟨f1, f2⟩, g, i⟩ := k
  refine ⟨a, b, c, ⟨?_, ?_, ?_, ?_, ?_⟩, fun k hk => ?_, ⟨?_, ?_⟩, fun k hk => ?_, fun k hk => ?_⟩
  · rw [hI_wn _ _ _ _ _ _ (by omega)]; exact d1
  · rw [hI_wn _ _ _ _ _ _ (by omega)]; exact d2
  · rw [hI_wn _ _ _ _ _ _ (by omega)]; exact d3
  · rw [hI_wn _ _ _ _ _ _ (by omega)]; exact d4
  · rw [hI_wn _ _ _ _ _ _ (by omega)]; exact d5
  · rw [hI_wn _ _ _ _ _ _ (by omega), hI_wn _ _ _ _ _ _ (by omega), hI_wn _ _ _ _ _ _ (by omega)]; exact e k hk
  · rw [hI_wn _ _ _ _ _ _ (by omega)]; exact f1
  · rw [hI_wn _ _ _ _ _ _ (by omega)]; exact f2
  · rw [hI_wn _ _ _ _ _ _ (by omega)]; exact g k hk
  · by_cases q : k = s
    · rw [q, hI_we]; exact hv
    · rw [hI_wn _ _ _ _ _ _ (fun y => q y.2)]; exact i k hk
def P3 (x : Nat) : Prop := 320 ≤ x ∧ x < 323
theorem riv_E {h : AH} {sc b : Nat} {a4 : Int32} (k : AH → Nat → Nat → Int32 → Int32 → Int32 → Option (AH × Nat)) (hb : b ≤ 3) (hs : sc < 200) (S : Scr sc h) (s0 : S0 h) :
    ∃ h', f_Law_chosen_b332 k h sc 320 a4 (iI (b : Int)) (iI (b : Int)) = f_Law_chosen_l468 FU h' sc 320 a4 (iI (b : Int)) (nI 0) ∧ Nw P3 0 0 h h' ∧ hR h' = hR h ∧ S0 h' := by
  have c : iI (b : Int) ≤ iI (b : Int) := by rw [iI_le (by omega) (by omega) (by omega) (by omega)]; omega
  have p0 : P3 320 := ⟨by omega, by omega⟩
  obtain ⟨v1, ec1⟩ := cellN S (j := 3) (by omega)
  obtain ⟨r1, r1l, eb1⟩ := belN (h := h) v1 (n := 3) (by omega) (by omega)
  by_cases c1 : iI (r1 : Int) ≤ 0
  · refine ⟨h, ?_, Nw.refl _ _, rfl, s0⟩
    unfold f_Law_chosen_b332
    rw [if_pos c, bn_C ec1, bn_C eb1, if_pos c1]
    rfl
  · obtain ⟨v2, ec2⟩ := cellN S (j := 3) (by omega)
    obtain ⟨r2, r2l, eb2⟩ := belN (h := h) (v2 >>> ((nI 2) &&& 31)) (n := 60) (by omega) (by omega)
    obtain ⟨h1, e1⟩ : ∃ y, y = wI h 320 5 (nI 1 + iI (r2 : Int)) := ⟨_, rfl⟩
    have s1 : S0 h1 := by rw [e1, one_i]; exact s0.w5 ⟨((r2 + 1 : Nat) : Int), by omega, by omega, rfl⟩
    have S1 : Scr sc h1 := by rw [e1]; exact S
    have w1 : Nw P3 0 0 h h1 := by rw [e1]; exact Nw.wi p0
    have R1 : hR h1 = hR h := by rw [e1]; rfl
    obtain ⟨v3, ec3⟩ := cellN S1 (j := 4) (by omega)
    obtain ⟨r3, r3l, eb3⟩ := belN (h := h1) (v3 >>> ((nI 2) &&& 31)) (n := 6) (by omega) (by omega)
    refine ⟨wI h1 320 6 (iI (r3 : Int)), ?_, w1.trans (Nw.wi p0) fun _ _ y => y, R1, s1.w6 ⟨(r3 : Int), by omega, by omega, rfl⟩⟩
    unfold f_Law_chosen_b332
    rw [if_pos c, bn_C ec1, bn_C eb1, if_neg c1, bn_C ec2, bn_C eb2, gd_P s0.1, lq_E, ← e1, bn_C ec3, bn_C eb3, gd_P s1.1, lq_E]
    rfl
theorem shAll {h0 : AH} {sc : Nat} {a4 a5 : Int32} (hn : 326 ≤ hN h0) (hs : sc < 200) (S0' : Scr sc h0) (s0 : S0 h0) :
    ∃ h', f_Law_chosen_l468 FU h0 sc 320 a4 a5 (nI 0) = f_Law_chosen_b468 (fun _ _ _ _ _ _ => none) h' sc 320 a4 a5 (iI 12) ∧ Nw P3 0 0 h0 h' ∧ hR h' = hR h0 ∧ S0 h' := by
  have p0 : P3 321 := ⟨by omega, by omega⟩
  obtain ⟨h', e1, e2, e3, e4⟩ := loopNw (fun fu h i => f_Law_chosen_l468 fu h sc 320 a4 a5 (iI (i : Int))) (fun h => f_Law_chosen_b468 (fun _ _ _ _ _ _ => none) h sc 320 a4 a5 (iI 12)) 12 (fun _ h => Nw P3 0 0 h0 h ∧ hR h = hR h0 ∧ S0 h) (by
    intro fu i h hi ⟨u, ur, s⟩
    have S : Scr sc h := S0'.nw u (by omega) (fun y => absurd y.1 (by omega))
    have c1 : ¬ nI 12 ≤ iI (i : Int) := by rw [nI_L, iI_le (by omega) (by omega) (by omega) (by omega)]; omega
    obtain ⟨v1, ec1⟩ := cell_E S (i := i) (by omega)
    obtain ⟨r1, r1l, eb1⟩ := belN (h := h) (v1 >>> ((nI 5) &&& 31)) (n := 3) (by omega) (by omega)
    have nx : ∀ h', f_Law_chosen_b509 (f_Law_chosen_l468 fu) h' sc 320 a4 a5 (iI (i : Int)) = f_Law_chosen_l468 fu h' sc 320 a4 a5 (iI ((i + 1 : Nat) : Int)) := fun h' => by
      unfold f_Law_chosen_b509
      rw [nI_L, iI_add, lq_E]
      rfl
    by_cases c2 : ¬ iI (r1 : Int) = 0
    · refine ⟨h, ?_, u, ur, s⟩
      show f_Law_chosen_b468 (f_Law_chosen_l468 fu) h sc 320 a4 a5 (iI (i : Int)) = _
      unfold f_Law_chosen_b468
      rw [if_neg c1, bn_C ec1, bn_C eb1, if_pos c2, nx]
    · obtain ⟨v2, ec2⟩ := cell_E S (i := i) (by omega)
      obtain ⟨r2, r2l, eb2⟩ := belN (h := h) (v2 >>> ((nI 3) &&& 31)) (n := 4) (by omega) (by omega)
      refine ⟨wI h 321 i (iI (r2 : Int)), ?_, u.trans (Nw.wi p0) fun _ _ y => y, ur, s.wh ⟨(r2 : Int), by omega, by omega, rfl⟩⟩
      show f_Law_chosen_b468 (f_Law_chosen_l468 fu) h sc 320 a4 a5 (iI (i : Int)) = _
      have q0 : hR h 320 7 = 321 := s.2.1.1
      have q1 : hT h 321 = 101 := s.2.2.1.1
      have q2 : hL h 321 = 12 := s.2.2.1.2.1
      unfold f_Law_chosen_b468
      rw [if_neg c1, bn_C ec1, bn_C eb1, if_neg c2, gd_P s.1, q0, bn_C ec2, bn_C eb2, gd_P ⟨q1, by rw [q2]; exact inb_i hi (by omega)⟩, ix_i (by omega), lq_E, nx]) (by
    intro fu h hJ
    show f_Law_chosen_b468 (f_Law_chosen_l468 fu) h sc 320 a4 a5 (iI 12) = _
    have c : nI 12 ≤ iI 12 := by rw [nI_L, iI_le (by omega) (by omega) (by omega) (by omega)]; omega
    unfold f_Law_chosen_b468
    simp only [if_pos c]) 12 0 FU h0 (by omega) (by unfold FU; omega) ⟨Nw.refl _ _, rfl, s0⟩
  refine ⟨h', ?_, e2, e3, e4⟩
  rw [show (nI 0 : Int32) = iI ((0 : Nat) : Int) from nI_i 0]
  exact e1
theorem prAll {h0 : AH} {sc : Nat} {a4 a5 : Int32} (hn : 326 ≤ hN h0) (hs : sc < 200) (S0' : Scr sc h0) (s0 : S0 h0) :
    ∃ h', f_Law_chosen_l518 FU h0 sc 320 a4 a5 (nI 0) = f_Law_chosen_b518 (fun _ _ _ _ _ _ => none) h' sc 320 a4 a5 (iI 4) ∧ Nw P3 0 0 h0 h' ∧ hR h' = hR h0 ∧ S0 h' := by
  have p0 : P3 322 := ⟨by omega, by omega⟩
  obtain ⟨h', e1, e2, e3, e4⟩ := loopNw (fun fu h i => f_Law_chosen_l518 fu h sc 320 a4 a5 (iI (i : Int))) (fun h => f_Law_chosen_b518 (fun _ _ _ _ _ _ => none) h sc 320 a4 a5 (iI 4)) 4 (fun _ h => Nw P3 0 0 h0 h ∧ hR h = hR h0 ∧ S0 h) (by
    intro fu i h hi ⟨u, ur, s⟩
    have S : Scr sc h := S0'.nw u (by omega) (fun y => absurd y.1 (by omega))
    have c1 : ¬ nI 4 ≤ iI (i : Int) := by rw [nI_L, iI_le (by omega) (by omega) (by omega) (by omega)]; omega
    obtain ⟨v1, ec1⟩ := cell_E S (i := i) (by omega)
    obtain ⟨r1, r1l, eb1⟩ := belN (h := h) (v1 >>> ((nI 6) &&& 31)) (n := 3) (by omega) (by omega)
    have nx : ∀ h', f_Law_chosen_b560 (f_Law_chosen_l518 fu) h' sc 320 a4 a5 (iI (i : Int)) = f_Law_chosen_l518 fu h' sc 320 a4 a5 (iI ((i + 1 : Nat) : Int)) := fun h' => by
      unfold f_Law_chosen_b560
      rw [nI_L, iI_add, lq_E]
      rfl
    by_cases c2 : ¬ iI (r1 : Int) = 0
    · refine ⟨h, ?_, u, ur, s⟩
      show f_Law_chosen_b518 (f_Law_chosen_l518 fu) h sc 320 a4 a5 (iI (i : Int)) = _
      unfold f_Law_chosen_b518
      rw [if_neg c1, bn_C ec1, bn_C eb1, if_pos c2, nx]
    · obtain ⟨v2, ec2⟩ := cell_E S (i := i) (by omega)
      obtain ⟨r2, r2l, eb2⟩ := belN (h := h) (v2 >>> ((nI 1) &&& 31)) (n := 51) (by omega) (by omega)
      refine ⟨wI h 322 i (iI (r2 : Int)), ?_, u.trans (Nw.wi p0) fun _ _ y => y, ur, s.wc ⟨(r2 : Int), by omega, by omega, rfl⟩⟩
      show f_Law_chosen_b518 (f_Law_chosen_l518 fu) h sc 320 a4 a5 (iI (i : Int)) = _
      have q0 : hR h 320 8 = 322 := s.2.1.2.1
      have q1 : hT h 322 = 101 := s.2.2.1.2.2.1
      have q2 : hL h 322 = 4 := s.2.2.1.2.2.2.1
      unfold f_Law_chosen_b518
      rw [if_neg c1, bn_C ec1, bn_C eb1, if_neg c2, gd_P s.1, q0, bn_C ec2, bn_C eb2, gd_P ⟨q1, by rw [q2]; exact inb_i hi (by omega)⟩, ix_i (by omega), lq_E, nx]) (by
    intro fu h hJ
    show f_Law_chosen_b518 (f_Law_chosen_l518 fu) h sc 320 a4 a5 (iI 4) = _
    have c : nI 4 ≤ iI 4 := by rw [nI_L, iI_le (by omega) (by omega) (by omega) (by omega)]; omega
    unfold f_Law_chosen_b518
    simp only [if_pos c]) 4 0 FU h0 (by omega) (by unfold FU; omega) ⟨Nw.refl _ _, rfl, s0⟩
  refine ⟨h', ?_, e2, e3, e4⟩
  rw [show (nI 0 : Int32) = iI ((0 : Nat) : Int) from nI_i 0]
  exact e1
def Or1 (n m p b : Nat) (h : AH) (k : Nat) : Prop := hR h (337 + n + m + p + b) k = 338 + n + m + p + b + k ∧ hT h (338 + n + m + p + b + k) = 101 ∧ hL h (338 + n + m + p + b + k) = 8 ∧ ((hI h (338 + n + m + p + b + k) 0 = iI 1 ∧ Rg 0 ((b : Int) - 1) (hI h (338 + n + m + p + b + k) 1)) ∨ (∃ d : Int, (d = 0 ∨ d = 2) ∧ hI h (338 + n + m + p + b + k) 0 = iI d ∧ Rg 0 ((p : Int) - 1) (hI h (338 + n + m + p + b + k) 1))) ∧ Rg 0 3 (hI h (338 + n + m + p + b + k) 2) ∧ Rg 0 3 (hI h (338 + n + m + p + b + k) 3) ∧ Rg 0 399 (hI h (338 + n + m + p + b + k) 4) ∧ Rg 0 8 (hI h (338 + n + m + p + b + k) 5) ∧ Rg 0 59 (hI h (338 + n + m + p + b + k) 6) ∧ Rg 0 399 (hI h (338 + n + m + p + b + k) 7)
theorem Or1.nw {n m p b c d : Nat} {h h' : AH} {P : Nat → Prop} {k : Nat} (r : Or1 n m p b h k) (u : Nw P c d h h') (h1 : 338 + n + m + p + b + k < hN h) (e1 : ¬ P (338 + n + m + p + b + k)) (e2 : hR h' (337 + n + m + p + b) k = hR h (337 + n + m + p + b) k) : Or1 n m p b h' k := by
  unfold Or1
  rw [u.t (x := 338 + n + m + p + b + k) h1, u.l (x := 338 + n + m + p + b + k) h1, u.i (x := 338 + n + m + p + b + k) h1 e1, e2]
  exact r
theorem b669_E {k591 : AH → Nat → Nat → Int32 → Int32 → Int32 → Int32 → Option (AH × Nat)} {h : AH} {sc i A N no : Nat} {a4 a5 a6 : Int32} (x y : Int32) (hi : i < no) (hno : no ≤ 7) (hAN : A < N) (hNh : N < hN h) (T : hT h N = 101) (L : hL h N = 8) (tA : hT h A = 109) (lA : hL h A = no) :
    ∃ h', f_Law_chosen_b669 k591 h sc 320 a4 a5 a6 (iI (i : Int)) x A (iI (i : Int)) N N (nI 1) y = k591 (wR h' A i N) sc 320 a4 a5 a6 (iI ((i + 1 : Nat) : Int)) ∧ Nw (fun x => x = N) 0 0 h h' ∧ hI h' N 0 = hI h N 0 ∧ hI h' N 1 = y ∧ Rg 0 3 (hI h' N 2) ∧ Rg 0 3 (hI h' N 3) ∧ Rg 0 399 (hI h' N 4) ∧ Rg 0 8 (hI h' N 5) ∧ Rg 0 59 (hI h' N 6) ∧ Rg 0 399 (hI h' N 7) := by
  have g1 : hT h N = 101 ∧ inb (nI 1) (hL h N) := ⟨T, by rw [L]; decide⟩
  obtain ⟨h1, e1⟩ : ∃ hz, hz = wI h N 1 (y) := ⟨_, rfl⟩
  have T1 : hT h1 N = 101 := by rw [e1]; exact T
  have L1 : hL h1 N = 8 := by rw [e1]; exact L
  have F1 : hI h1 = up2 (hI h) N 1 (y) := by rw [e1]; rfl
  have w1 : Nw (fun x => x = N) 0 0 h h1 := by rw [e1]; exact Nw.wi rfl
  obtain ⟨r2, r2l, eb2⟩ := belN (h := h1) (x >>> ((nI 3) &&& 31)) (n := 4) (by omega) (by omega)
  have g3 : hT h1 N = 101 ∧ inb (nI 2) (hL h1 N) := ⟨T1, by rw [L1]; decide⟩
  obtain ⟨h3, e3⟩ : ∃ hz, hz = wI h1 N 2 (iI (r2 : Int)) := ⟨_, rfl⟩
  have T3 : hT h3 N = 101 := by rw [e3]; exact T1
  have L3 : hL h3 N = 8 := by rw [e3]; exact L1
  have F3 : hI h3 = up2 (hI h1) N 2 (iI (r2 : Int)) := by rw [e3]; rfl
  have w3 : Nw (fun x => x = N) 0 0 h1 h3 := by rw [e3]; exact Nw.wi rfl
  obtain ⟨r3, r3l, eb4⟩ := belN (h := h3) (x >>> ((nI 4) &&& 31)) (n := 4) (by omega) (by omega)
  have g5 : hT h3 N = 101 ∧ inb (nI 3) (hL h3 N) := ⟨T3, by rw [L3]; decide⟩
  obtain ⟨h5, e5⟩ : ∃ hz, hz = wI h3 N 3 (iI (r3 : Int)) := ⟨_, rfl⟩
  have T5 : hT h5 N = 101 := by rw [e5]; exact T3
  have L5 : hL h5 N = 8 := by rw [e5]; exact L3
  have F5 : hI h5 = up2 (hI h3) N 3 (iI (r3 : Int)) := by rw [e5]; rfl
  have w5 : Nw (fun x => x = N) 0 0 h3 h5 := by rw [e5]; exact Nw.wi rfl
  obtain ⟨r4, r4l, eb6⟩ := belN (h := h5) (x >>> ((nI 5) &&& 31)) (n := 400) (by omega) (by omega)
  have g7 : hT h5 N = 101 ∧ inb (nI 4) (hL h5 N) := ⟨T5, by rw [L5]; decide⟩
  obtain ⟨h7, e7⟩ : ∃ hz, hz = wI h5 N 4 (iI (r4 : Int)) := ⟨_, rfl⟩
  have T7 : hT h7 N = 101 := by rw [e7]; exact T5
  have L7 : hL h7 N = 8 := by rw [e7]; exact L5
  have F7 : hI h7 = up2 (hI h5) N 4 (iI (r4 : Int)) := by rw [e7]; rfl
  have w7 : Nw (fun x => x = N) 0 0 h5 h7 := by rw [e7]; exact Nw.wi rfl
  obtain ⟨r5, r5l, eb8⟩ := belN (h := h7) (x >>> ((nI 6) &&& 31)) (n := 9) (by omega) (by omega)
  have g9 : hT h7 N = 101 ∧ inb (nI 5) (hL h7 N) := ⟨T7, by rw [L7]; decide⟩
  obtain ⟨h9, e9⟩ : ∃ hz, hz = wI h7 N 5 (iI (r5 : Int)) := ⟨_, rfl⟩
  have T9 : hT h9 N = 101 := by rw [e9]; exact T7
  have L9 : hL h9 N = 8 := by rw [e9]; exact L7
  have F9 : hI h9 = up2 (hI h7) N 5 (iI (r5 : Int)) := by rw [e9]; rfl
  have w9 : Nw (fun x => x = N) 0 0 h7 h9 := by rw [e9]; exact Nw.wi rfl
  obtain ⟨r6, r6l, eb10⟩ := belN (h := h9) (x >>> ((nI 1) &&& 31)) (n := 60) (by omega) (by omega)
  have g11 : hT h9 N = 101 ∧ inb (nI 6) (hL h9 N) := ⟨T9, by rw [L9]; decide⟩
  obtain ⟨h11, e11⟩ : ∃ hz, hz = wI h9 N 6 (iI (r6 : Int)) := ⟨_, rfl⟩
  have T11 : hT h11 N = 101 := by rw [e11]; exact T9
  have L11 : hL h11 N = 8 := by rw [e11]; exact L9
  have F11 : hI h11 = up2 (hI h9) N 6 (iI (r6 : Int)) := by rw [e11]; rfl
  have w11 : Nw (fun x => x = N) 0 0 h9 h11 := by rw [e11]; exact Nw.wi rfl
  obtain ⟨r7, r7l, eb12⟩ := belN (h := h11) (x >>> ((nI 7) &&& 31)) (n := 400) (by omega) (by omega)
  have g13 : hT h11 N = 101 ∧ inb (nI 7) (hL h11 N) := ⟨T11, by rw [L11]; decide⟩
  obtain ⟨h13, e13⟩ : ∃ hz, hz = wI h11 N 7 (iI (r7 : Int)) := ⟨_, rfl⟩
  have T13 : hT h13 N = 101 := by rw [e13]; exact T11
  have L13 : hL h13 N = 8 := by rw [e13]; exact L11
  have F13 : hI h13 = up2 (hI h11) N 7 (iI (r7 : Int)) := by rw [e13]; rfl
  have w13 : Nw (fun x => x = N) 0 0 h11 h13 := by rw [e13]; exact Nw.wi rfl
  have V0 : hI h13 N 0 = hI h N 0 := by rw [F13, up2_n _ _ _ _ _ _ (by omega), F11, up2_n _ _ _ _ _ _ (by omega), F9, up2_n _ _ _ _ _ _ (by omega), F7, up2_n _ _ _ _ _ _ (by omega), F5, up2_n _ _ _ _ _ _ (by omega), F3, up2_n _ _ _ _ _ _ (by omega), F1, up2_n _ _ _ _ _ _ (by omega)]
  have V1 : hI h13 N 1 = y := by rw [F13, up2_n _ _ _ _ _ _ (by omega), F11, up2_n _ _ _ _ _ _ (by omega), F9, up2_n _ _ _ _ _ _ (by omega), F7, up2_n _ _ _ _ _ _ (by omega), F5, up2_n _ _ _ _ _ _ (by omega), F3, up2_n _ _ _ _ _ _ (by omega), F1, up2_e]
  have V2 : hI h13 N 2 = iI (r2 : Int) := by rw [F13, up2_n _ _ _ _ _ _ (by omega), F11, up2_n _ _ _ _ _ _ (by omega), F9, up2_n _ _ _ _ _ _ (by omega), F7, up2_n _ _ _ _ _ _ (by omega), F5, up2_n _ _ _ _ _ _ (by omega), F3, up2_e]
  have V3 : hI h13 N 3 = iI (r3 : Int) := by rw [F13, up2_n _ _ _ _ _ _ (by omega), F11, up2_n _ _ _ _ _ _ (by omega), F9, up2_n _ _ _ _ _ _ (by omega), F7, up2_n _ _ _ _ _ _ (by omega), F5, up2_e]
  have V4 : hI h13 N 4 = iI (r4 : Int) := by rw [F13, up2_n _ _ _ _ _ _ (by omega), F11, up2_n _ _ _ _ _ _ (by omega), F9, up2_n _ _ _ _ _ _ (by omega), F7, up2_e]
  have V5 : hI h13 N 5 = iI (r5 : Int) := by rw [F13, up2_n _ _ _ _ _ _ (by omega), F11, up2_n _ _ _ _ _ _ (by omega), F9, up2_e]
  have V6 : hI h13 N 6 = iI (r6 : Int) := by rw [F13, up2_n _ _ _ _ _ _ (by omega), F11, up2_e]
  have V7 : hI h13 N 7 = iI (r7 : Int) := by rw [F13, up2_e]
  have ww : Nw (fun x => x = N) 0 0 h h13 := ((((((((Nw.refl (fun x => x = N) h).trans w1 fun _ _ y => y).trans w3 fun _ _ y => y).trans w5 fun _ _ y => y).trans w7 fun _ _ y => y).trans w9 fun _ _ y => y).trans w11 fun _ _ y => y).trans w13 fun _ _ y => y).mono (fun _ _ y => y) rfl rfl
  have tA' : hT h13 A = 109 := (ww.t (by omega)).trans tA
  have lA' : hL h13 A = no := (ww.l (by omega)).trans lA
  refine ⟨h13, ?_, ww, V0, V1, by rw [V2]; exact ⟨(r2 : Int), by omega, by omega, rfl⟩, by rw [V3]; exact ⟨(r3 : Int), by omega, by omega, rfl⟩, by rw [V4]; exact ⟨(r4 : Int), by omega, by omega, rfl⟩, by rw [V5]; exact ⟨(r5 : Int), by omega, by omega, rfl⟩, by rw [V6]; exact ⟨(r6 : Int), by omega, by omega, rfl⟩, by rw [V7]; exact ⟨(r7 : Int), by omega, by omega, rfl⟩⟩
  unfold f_Law_chosen_b669
  rw [gd_P g1, show ix (nI 1) = 1 by decide, lq_E, ← e1, bn_C eb2, gd_P g3, show ix (nI 2) = 2 by decide, lq_E, ← e3, bn_C eb4, gd_P g5, show ix (nI 3) = 3 by decide, lq_E, ← e5, bn_C eb6, gd_P g7, show ix (nI 4) = 4 by decide, lq_E, ← e7, bn_C eb8, gd_P g9, show ix (nI 5) = 5 by decide, lq_E, ← e9, bn_C eb10, gd_P g11, show ix (nI 6) = 6 by decide, lq_E, ← e11, bn_C eb12, gd_P g13, show ix (nI 7) = 7 by decide, lq_E, ← e13, gd_P ⟨tA', by rw [lA']; exact inb_i hi (by omega), T13⟩, ix_i (by omega), lq_E, nI_L, iI_add, lq_E]
  rfl
theorem rem3 (r : Nat) (h : r < 4) : iI (r : Int) - iI (r : Int) / nI 3 * nI 3 = iI ((r % 3 : Nat) : Int) := by
  rw [nI_L, iI_div (by omega) (by omega) (by omega) (by omega), iI_mul, iI_sub, emod_L]
  rfl
theorem orStep {h : AH} {sc n m p b no i : Nat} (hn : n ≤ 3) (hm : m ≤ 3) (hp : 1 ≤ p ∧ p ≤ 4) (hb : 1 ≤ b ∧ b ≤ 3) (hno : no ≤ 7) (hi : i < no) (hs : sc < 200) (S : Scr sc h) (t0 : hT h 320 = 13) (rA : hR h 320 17 = 337 + n + m + p + b) (tA : hT h (337 + n + m + p + b) = 109) (lA : hL h (337 + n + m + p + b) = no) (nh : hN h = 338 + n + m + p + b + i) (k591 : AH → Nat → Nat → Int32 → Int32 → Int32 → Int32 → Option (AH × Nat)) :
    ∃ h', f_Law_chosen_b591 k591 h sc 320 (iI (p : Int)) (iI (b : Int)) (iI (no : Int)) (iI (i : Int)) = k591 h' sc 320 (iI (p : Int)) (iI (b : Int)) (iI (no : Int)) (iI ((i + 1 : Nat) : Int)) ∧ Nw (fun x => x = 337 + n + m + p + b) 1 8 h h' ∧ Or1 n m p b h' i ∧ ∀ s, s ≠ i → hR h' (337 + n + m + p + b) s = hR h (337 + n + m + p + b) s := by
  obtain ⟨N, eN⟩ : ∃ N, hN h = N := ⟨_, rfl⟩
  have i8 : ix (nI 8) = 8 := by decide
  have c1 : ¬ iI (no : Int) ≤ iI (i : Int) := by rw [iI_le (by omega) (by omega) (by omega) (by omega)]; omega
  obtain ⟨v, ev⟩ := cellA S (j := 6) (i := i) (by omega) (by omega)
  obtain ⟨x, ex⟩ : ∃ x, v + ((nI 113) * iI (i : Int)) = x := ⟨_, rfl⟩
  obtain ⟨r, rl', er⟩ := belN (h := h) x (n := 4) (by omega) (by omega)
  obtain ⟨d, ed⟩ : ∃ d : Nat, r % 3 = d := ⟨_, rfl⟩
  have dl : d < 3 := by omega
  have e3 := rem3 r rl'
  rw [ed] at e3
  obtain ⟨hb', eb⟩ : ∃ y, y = hA h 101 8 := ⟨_, rfl⟩
  have wb : Nw (fun _ => False) 1 8 h hb' := by rw [eb]; exact Nw.al h 101 8
  have Tb : hT hb' N = 101 := by rw [eb, ← eN]; exact up1_e _ _ _
  have Lb : hL hb' N = 8 := by rw [eb, ← eN]; exact up1_e _ _ _
  obtain ⟨h1, e1⟩ : ∃ y, y = wI hb' N 0 (iI (d : Int)) := ⟨_, rfl⟩
  have w1 : Nw (fun x => x = N) 0 0 hb' h1 := by rw [e1]; exact Nw.wi rfl
  have T1 : hT h1 N = 101 := by rw [e1]; exact Tb
  have L1 : hL h1 N = 8 := by rw [e1]; exact Lb
  have V1 : hI h1 N 0 = iI (d : Int) := by rw [e1]; exact up2_e _ _ _ _
  have wh1 : Nw (fun _ => False) 1 8 h h1 := (wb.trans w1 fun x hx y => absurd (show x = N from y) (by omega)).mono (fun _ _ y => y) rfl rfl
  have nh1 : hN h1 = N + 1 := by rw [wh1.n]; omega
  have tA1 : hT h1 (337 + n + m + p + b) = 109 := (wh1.t (by omega)).trans tA
  have lA1 : hL h1 (337 + n + m + p + b) = no := (wh1.l (by omega)).trans lA
  have bN : 338 + n + m + p + b + i = N := by omega
  have fin : ∀ (y : Int32), ((iI (d : Int) = iI 1 ∧ Rg 0 ((b : Int) - 1) y) ∨ (∃ d' : Int, (d' = 0 ∨ d' = 2) ∧ iI (d : Int) = iI d' ∧ Rg 0 ((p : Int) - 1) y)) → ∃ h', f_Law_chosen_b669 k591 h1 sc 320 (iI (p : Int)) (iI (b : Int)) (iI (no : Int)) (iI (i : Int)) x (337 + n + m + p + b) (iI (i : Int)) N N (nI 1) y = k591 h' sc 320 (iI (p : Int)) (iI (b : Int)) (iI (no : Int)) (iI ((i + 1 : Nat) : Int)) ∧ Nw (fun x => x = 337 + n + m + p + b) 1 8 h h' ∧ Or1 n m p b h' i ∧ ∀ s, s ≠ i → hR h' (337 + n + m + p + b) s = hR h (337 + n + m + p + b) s := by
    intro y hy
    obtain ⟨h2, q1, q2, q3, q4, q5, q6, q7, q8, q9, q10⟩ := b669_E (k591 := k591) (sc := sc) (a4 := iI (p : Int)) (a5 := iI (b : Int)) (a6 := iI (no : Int)) x y hi hno (show 337 + n + m + p + b < N by omega) (by omega) T1 L1 tA1 lA1
    obtain ⟨f1, f2, f3⟩ := ad_w (A := 337 + n + m + p + b) (N := N) (i := i) ((wh1.trans q2 fun x hx y => absurd (show x = N from y) (by omega)).mono (fun _ _ y => y) rfl rfl) (by omega)
    refine ⟨wR h2 (337 + n + m + p + b) i N, q1, f1, ?_, f3⟩
    unfold Or1
    rw [bN]
    refine ⟨f2, (q2.t (by omega)).trans T1, (q2.l (by omega)).trans L1, ?_, q5, q6, q7, q8, q9, q10⟩
    show (hI h2 N 0 = iI 1 ∧ Rg 0 ((b : Int) - 1) (hI h2 N 1)) ∨ (∃ d : Int, (d = 0 ∨ d = 2) ∧ hI h2 N 0 = iI d ∧ Rg 0 ((p : Int) - 1) (hI h2 N 1))
    rw [q3, q4, V1]
    exact hy
  have go : f_Law_chosen_b591 k591 h sc 320 (iI (p : Int)) (iI (b : Int)) (iI (no : Int)) (iI (i : Int)) = if ¬ iI (d : Int) = nI 1 then bn (f_Law_below h1 (x >>> ((nI 2) &&& 31)) (iI (p : Int))) (fun h13 r14 => f_Law_chosen_b669 k591 h13 sc 320 (iI (p : Int)) (iI (b : Int)) (iI (no : Int)) (iI (i : Int)) x (337 + n + m + p + b) (iI (i : Int)) N N (nI 1) r14) else bn (f_Law_below h1 (x >>> ((nI 2) &&& 31)) (iI (b : Int))) (fun h13 r14 => f_Law_chosen_b669 k591 h13 sc 320 (iI (p : Int)) (iI (b : Int)) (iI (no : Int)) (iI (i : Int)) x (337 + n + m + p + b) (iI (i : Int)) N N (nI 1) r14) := by
    unfold f_Law_chosen_b591
    rw [if_neg c1, bn_C ev, ex, lq_E, bn_C er, e3, lq_E, gd_P t0, i8, eN, rA, lq_E, ← eb, gd_P ⟨Tb, by rw [Lb]; decide⟩, show ix (nI 0) = 0 by decide, lq_E, ← e1]
  by_cases c : ¬ iI (d : Int) = nI 1
  · obtain ⟨y, hy, ey⟩ := below_E (h := h1) (x >>> ((nI 2) &&& 31)) (n := p) (by omega) (by omega)
    have d1 : (d : Int) = 0 ∨ (d : Int) = 2 := by
      rw [nI_L, iI_eq (by omega) (by omega) (by omega) (by omega)] at c
      omega
    obtain ⟨h', f1, f2, f3, f4⟩ := fin (iI (y : Int)) (Or.inr ⟨(d : Int), d1, rfl, ⟨(y : Int), by omega, by omega, rfl⟩⟩)
    exact ⟨h', by rw [go, if_pos c, bn_C ey, f1], f2, f3, f4⟩
  · obtain ⟨y, hy, ey⟩ := below_E (h := h1) (x >>> ((nI 2) &&& 31)) (n := b) (by omega) (by omega)
    have c' : iI (d : Int) = iI 1 := (Classical.not_not.mp c).trans (nI_L 1)
    obtain ⟨h', f1, f2, f3, f4⟩ := fin (iI (y : Int)) (Or.inl ⟨c', ⟨(y : Int), by omega, by omega, rfl⟩⟩)
    exact ⟨h', by rw [go, if_neg c, bn_C ey, f1], f2, f3, f4⟩
theorem orAll {h0 : AH} {sc n m p b no : Nat} (hn : n ≤ 3) (hm : m ≤ 3) (hp : 1 ≤ p ∧ p ≤ 4) (hb : 1 ≤ b ∧ b ≤ 3) (hno : no ≤ 7) (n0 : hN h0 = 338 + n + m + p + b) (hs : sc < 200) (S0' : Scr sc h0) (t0 : hT h0 320 = 13) (r12 : hR h0 320 17 = 337 + n + m + p + b) (tA : hT h0 (337 + n + m + p + b) = 109) (lA : hL h0 (337 + n + m + p + b) = no) :
    ∃ h', f_Law_chosen_l591 FU h0 sc 320 (iI (p : Int)) (iI (b : Int)) (iI (no : Int)) (nI 0) = f_Law_chosen_b591 (fun _ _ _ _ _ _ _ => none) h' sc 320 (iI (p : Int)) (iI (b : Int)) (iI (no : Int)) (iI (no : Int)) ∧ Nw (fun x => x = 337 + n + m + p + b) no (8 * no) h0 h' ∧ ∀ k, k < no → Or1 n m p b h' k := by
  obtain ⟨h', e1, e2, e3⟩ := loopNw (fun fu h i => f_Law_chosen_l591 fu h sc 320 (iI (p : Int)) (iI (b : Int)) (iI (no : Int)) (iI (i : Int))) (fun h => f_Law_chosen_b591 (fun _ _ _ _ _ _ _ => none) h sc 320 (iI (p : Int)) (iI (b : Int)) (iI (no : Int)) (iI (no : Int))) no (fun i h => Nw (fun x => x = 337 + n + m + p + b) i (8 * i) h0 h ∧ ∀ k, k < i → Or1 n m p b h k) (by
    intro fu i h hi ⟨u, al⟩
    have nh := u.n
    obtain ⟨h', g1, g2, g3, g4⟩ := orStep (sc := sc) (n := n) (m := m) (p := p) (b := b) (no := no) hn hm hp hb hno hi hs (S0'.nw u (by omega) (fun y => absurd (show sc = 337 + n + m + p + b from y) (by omega))) ((u.t (by omega)).trans t0) ((congrFun (u.r (x := 320) (by omega) (fun y => absurd (show (320 : Nat) = 337 + n + m + p + b from y) (by omega))) 17).trans r12) ((u.t (by omega)).trans tA) ((u.l (by omega)).trans lA) (by omega) (f_Law_chosen_l591 fu)
    refine ⟨h', g1, (u.trans g2 fun _ _ y => y).mono (fun _ _ y => y) rfl (by omega), fun k hk => ?_⟩
    by_cases c : k = i
    · rw [c]; exact g3
    · exact (al k (by omega)).nw g2 (by omega) (fun y => absurd (show 338 + n + m + p + b + k = 337 + n + m + p + b from y) (by omega)) (g4 k c)) (by
    intro fu h hJ
    show f_Law_chosen_b591 (f_Law_chosen_l591 fu) h sc 320 (iI (p : Int)) (iI (b : Int)) (iI (no : Int)) (iI (no : Int)) = _
    have c : iI (no : Int) ≤ iI (no : Int) := by rw [iI_le (by omega) (by omega) (by omega) (by omega)]; omega
    unfold f_Law_chosen_b591
    simp only [if_pos c]) no 0 FU h0 (by omega) (by unfold FU; omega) ⟨Nw.refl _ _, fun k hk => absurd hk (by omega)⟩
  refine ⟨h', ?_, e2, e3⟩
  rw [show (nI 0 : Int32) = iI ((0 : Nat) : Int) from nI_i 0]
  exact e1

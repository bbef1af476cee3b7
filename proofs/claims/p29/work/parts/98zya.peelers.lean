/-! 98zya L3: making the sim, III: peelers and boats (written by l3/gen98zy.py) -/
def Pe1 (n m : Nat) (h : AH) (k : Nat) : Prop := hR h (335 + n + m) k = 336 + n + m + k ∧ hT h (336 + n + m + k) = 101 ∧ hL h (336 + n + m + k) = 7 ∧ (Rg 0 ((n : Int) - 1) (hI h (336 + n + m + k) 0) ∧ Rg 0 ((m : Int) - 1) (hI h (336 + n + m + k) 1) ∧ Rg 1 9 (hI h (336 + n + m + k) 2)) ∧ hI h (336 + n + m + k) 3 = iI 20 ∧ hI h (336 + n + m + k) 4 = iI 0 ∧ hI h (336 + n + m + k) 5 = iI 0 ∧ hI h (336 + n + m + k) 6 = iI 0
def Bo1 (n m p : Nat) (h : AH) (k : Nat) : Prop := hR h (336 + n + m + p) k = 337 + n + m + p + k ∧ hT h (337 + n + m + p + k) = 101 ∧ hL h (337 + n + m + p + k) = 7 ∧ (Rg 1 40 (hI h (337 + n + m + p + k) 0) ∧ Rg 1 9 (hI h (337 + n + m + p + k) 1)) ∧ hI h (337 + n + m + p + k) 2 = iI 0 ∧ hI h (337 + n + m + p + k) 3 = iI 0 ∧ hI h (337 + n + m + p + k) 4 = iI 0 ∧ hI h (337 + n + m + p + k) 5 = iI 0 ∧ hI h (337 + n + m + p + k) 6 = iI 0
theorem Pe1.nw {n m c d : Nat} {h h' : AH} {P : Nat → Prop} {k : Nat} (r : Pe1 n m h k) (u : Nw P c d h h') (h1 : 336 + n + m + k < hN h) (e1 : ¬ P (336 + n + m + k)) (e2 : hR h' (335 + n + m) k = hR h (335 + n + m) k) : Pe1 n m h' k := by
  unfold Pe1
  rw [u.t (x := 336 + n + m + k) h1, u.l (x := 336 + n + m + k) h1, u.i (x := 336 + n + m + k) h1 e1, e2]
  exact r
theorem Bo1.nw {n m p c d : Nat} {h h' : AH} {P : Nat → Prop} {k : Nat} (r : Bo1 n m p h k) (u : Nw P c d h h') (h1 : 337 + n + m + p + k < hN h) (e1 : ¬ P (337 + n + m + p + k)) (e2 : hR h' (336 + n + m + p) k = hR h (336 + n + m + p) k) : Bo1 n m p h' k := by
  unfold Bo1
  rw [u.t (x := 337 + n + m + p + k) h1, u.l (x := 337 + n + m + p + k) h1, u.i (x := 337 + n + m + p + k) h1 e1, e2]
  exact r
theorem peStep {h : AH} {sc n m p i : Nat} (hn : 1 ≤ n ∧ n ≤ 3) (hm : 1 ≤ m ∧ m ≤ 3) (hp : p ≤ 4) (hi : i < p) (hs : sc < 200) (S : Scr sc h) (t0 : hT h 320 = 13) (rA : hR h 320 15 = 335 + n + m) (tA : hT h (335 + n + m) = 109) (lA : hL h (335 + n + m) = p) (nh : hN h = 336 + n + m + i) (k209 : AH → Nat → Nat → Int32 → Int32 → Int32 → Int32 → Option (AH × Nat)) :
    ∃ h', f_Law_chosen_b209 k209 h sc 320 (iI (n : Int)) (iI (m : Int)) (iI (p : Int)) (iI (i : Int)) = k209 h' sc 320 (iI (n : Int)) (iI (m : Int)) (iI (p : Int)) (iI ((i + 1 : Nat) : Int)) ∧ Nw (fun x => x = 335 + n + m) 1 7 h h' ∧ Pe1 n m h' i ∧ ∀ s, s ≠ i → hR h' (335 + n + m) s = hR h (335 + n + m) s := by
  obtain ⟨N, eN⟩ : ∃ N, hN h = N := ⟨_, rfl⟩
  have i7 : ix (nI 7) = 7 := by decide
  have c1 : ¬ iI (p : Int) ≤ iI (i : Int) := by rw [iI_le (by omega) (by omega) (by omega) (by omega)]; omega
  obtain ⟨hb, eb⟩ : ∃ y, y = hA h 101 7 := ⟨_, rfl⟩
  have wb : Nw (fun _ => False) 1 7 h hb := by rw [eb]; exact Nw.al h 101 7
  have Tb : hT hb N = 101 := by rw [eb, ← eN]; exact up1_e _ _ _
  have Lb : hL hb N = 7 := by rw [eb, ← eN]; exact up1_e _ _ _
  have Sb : Scr sc hb := S.nw wb (by omega) (fun y => y)
  obtain ⟨v1, ec1⟩ := cellA Sb (j := 9) (i := i) (by omega) (by omega)
  obtain ⟨r1, r1l, eb2⟩ := below_E (h := hb) v1 (n := n) (by omega) (by omega)
  have g3 : hT hb N = 101 ∧ inb (nI 0) (hL hb N) := ⟨Tb, by rw [Lb]; decide⟩
  obtain ⟨h3, e3⟩ : ∃ hz, hz = wI hb N 0 (iI (r1 : Int)) := ⟨_, rfl⟩
  have T3 : hT h3 N = 101 := by rw [e3]; exact Tb
  have L3 : hL h3 N = 7 := by rw [e3]; exact Lb
  have S3 : Scr sc h3 := by rw [e3]; exact Sb
  have F3 : hI h3 = up2 (hI hb) N 0 (iI (r1 : Int)) := by rw [e3]; rfl
  have w3 : Nw (fun x => x = N) 0 0 hb h3 := by rw [e3]; exact Nw.wi rfl
  obtain ⟨v2, ec4⟩ := cellA S3 (j := 9) (i := i) (by omega) (by omega)
  obtain ⟨r2, r2l, eb5⟩ := below_E (h := h3) (v2 >>> ((nI 2) &&& 31)) (n := m) (by omega) (by omega)
  have g6 : hT h3 N = 101 ∧ inb (nI 1) (hL h3 N) := ⟨T3, by rw [L3]; decide⟩
  obtain ⟨h6, e6⟩ : ∃ hz, hz = wI h3 N 1 (iI (r2 : Int)) := ⟨_, rfl⟩
  have T6 : hT h6 N = 101 := by rw [e6]; exact T3
  have L6 : hL h6 N = 7 := by rw [e6]; exact L3
  have S6 : Scr sc h6 := by rw [e6]; exact S3
  have F6 : hI h6 = up2 (hI h3) N 1 (iI (r2 : Int)) := by rw [e6]; rfl
  have w6 : Nw (fun x => x = N) 0 0 h3 h6 := by rw [e6]; exact Nw.wi rfl
  obtain ⟨v3, ec7⟩ := cellA S6 (j := 9) (i := i) (by omega) (by omega)
  obtain ⟨r3, r3l, eb8⟩ := belN (h := h6) (v3 >>> ((nI 3) &&& 31)) (n := 9) (by omega) (by omega)
  have g9 : hT h6 N = 101 ∧ inb (nI 2) (hL h6 N) := ⟨T6, by rw [L6]; decide⟩
  obtain ⟨h9, e9⟩ : ∃ hz, hz = wI h6 N 2 (nI 1 + iI (r3 : Int)) := ⟨_, rfl⟩
  have T9 : hT h9 N = 101 := by rw [e9]; exact T6
  have L9 : hL h9 N = 7 := by rw [e9]; exact L6
  have S9 : Scr sc h9 := by rw [e9]; exact S6
  have F9 : hI h9 = up2 (hI h6) N 2 (nI 1 + iI (r3 : Int)) := by rw [e9]; rfl
  have w9 : Nw (fun x => x = N) 0 0 h6 h9 := by rw [e9]; exact Nw.wi rfl
  have g10 : hT h9 N = 101 ∧ inb (nI 3) (hL h9 N) := ⟨T9, by rw [L9]; decide⟩
  obtain ⟨h10, e10⟩ : ∃ hz, hz = wI h9 N 3 (nI 20) := ⟨_, rfl⟩
  have T10 : hT h10 N = 101 := by rw [e10]; exact T9
  have L10 : hL h10 N = 7 := by rw [e10]; exact L9
  have S10 : Scr sc h10 := by rw [e10]; exact S9
  have F10 : hI h10 = up2 (hI h9) N 3 (nI 20) := by rw [e10]; rfl
  have w10 : Nw (fun x => x = N) 0 0 h9 h10 := by rw [e10]; exact Nw.wi rfl
  have g11 : hT h10 N = 101 ∧ inb (nI 4) (hL h10 N) := ⟨T10, by rw [L10]; decide⟩
  obtain ⟨h11, e11⟩ : ∃ hz, hz = wI h10 N 4 (nI 0) := ⟨_, rfl⟩
  have T11 : hT h11 N = 101 := by rw [e11]; exact T10
  have L11 : hL h11 N = 7 := by rw [e11]; exact L10
  have S11 : Scr sc h11 := by rw [e11]; exact S10
  have F11 : hI h11 = up2 (hI h10) N 4 (nI 0) := by rw [e11]; rfl
  have w11 : Nw (fun x => x = N) 0 0 h10 h11 := by rw [e11]; exact Nw.wi rfl
  have g12 : hT h11 N = 101 ∧ inb (nI 5) (hL h11 N) := ⟨T11, by rw [L11]; decide⟩
  obtain ⟨h12, e12⟩ : ∃ hz, hz = wI h11 N 5 (nI 0) := ⟨_, rfl⟩
  have T12 : hT h12 N = 101 := by rw [e12]; exact T11
  have L12 : hL h12 N = 7 := by rw [e12]; exact L11
  have S12 : Scr sc h12 := by rw [e12]; exact S11
  have F12 : hI h12 = up2 (hI h11) N 5 (nI 0) := by rw [e12]; rfl
  have w12 : Nw (fun x => x = N) 0 0 h11 h12 := by rw [e12]; exact Nw.wi rfl
  have g13 : hT h12 N = 101 ∧ inb (nI 6) (hL h12 N) := ⟨T12, by rw [L12]; decide⟩
  obtain ⟨h13, e13⟩ : ∃ hz, hz = wI h12 N 6 (nI 0) := ⟨_, rfl⟩
  have T13 : hT h13 N = 101 := by rw [e13]; exact T12
  have L13 : hL h13 N = 7 := by rw [e13]; exact L12
  have S13 : Scr sc h13 := by rw [e13]; exact S12
  have F13 : hI h13 = up2 (hI h12) N 6 (nI 0) := by rw [e13]; rfl
  have w13 : Nw (fun x => x = N) 0 0 h12 h13 := by rw [e13]; exact Nw.wi rfl
  have V0 : hI h13 N 0 = iI (r1 : Int) := by rw [F13, up2_n _ _ _ _ _ _ (by omega), F12, up2_n _ _ _ _ _ _ (by omega), F11, up2_n _ _ _ _ _ _ (by omega), F10, up2_n _ _ _ _ _ _ (by omega), F9, up2_n _ _ _ _ _ _ (by omega), F6, up2_n _ _ _ _ _ _ (by omega), F3, up2_e]
  have V1 : hI h13 N 1 = iI (r2 : Int) := by rw [F13, up2_n _ _ _ _ _ _ (by omega), F12, up2_n _ _ _ _ _ _ (by omega), F11, up2_n _ _ _ _ _ _ (by omega), F10, up2_n _ _ _ _ _ _ (by omega), F9, up2_n _ _ _ _ _ _ (by omega), F6, up2_e]
  have V2 : hI h13 N 2 = nI 1 + iI (r3 : Int) := by rw [F13, up2_n _ _ _ _ _ _ (by omega), F12, up2_n _ _ _ _ _ _ (by omega), F11, up2_n _ _ _ _ _ _ (by omega), F10, up2_n _ _ _ _ _ _ (by omega), F9, up2_e]
  have V3 : hI h13 N 3 = nI 20 := by rw [F13, up2_n _ _ _ _ _ _ (by omega), F12, up2_n _ _ _ _ _ _ (by omega), F11, up2_n _ _ _ _ _ _ (by omega), F10, up2_e]
  have V4 : hI h13 N 4 = nI 0 := by rw [F13, up2_n _ _ _ _ _ _ (by omega), F12, up2_n _ _ _ _ _ _ (by omega), F11, up2_e]
  have V5 : hI h13 N 5 = nI 0 := by rw [F13, up2_n _ _ _ _ _ _ (by omega), F12, up2_e]
  have V6 : hI h13 N 6 = nI 0 := by rw [F13, up2_e]
  have ww : Nw (fun x => x = N) 0 0 hb h13 := ((((((((Nw.refl (fun x => x = N) hb).trans w3 fun _ _ y => y).trans w6 fun _ _ y => y).trans w9 fun _ _ y => y).trans w10 fun _ _ y => y).trans w11 fun _ _ y => y).trans w12 fun _ _ y => y).trans w13 fun _ _ y => y).mono (fun _ _ y => y) rfl rfl
  have wh : Nw (fun _ => False) 1 7 h h13 := (wb.trans ww fun x hx y => absurd (show x = N from y) (by omega)).mono (fun _ _ y => y) rfl rfl
  have tA' : hT h13 (335 + n + m) = 109 := (wh.t (by omega)).trans tA
  have lA' : hL h13 (335 + n + m) = p := (wh.l (by omega)).trans lA
  obtain ⟨q1, q2, q3⟩ := ad_w (A := 335 + n + m) (N := N) (i := i) wh (by omega)
  have bN : 336 + n + m + i = N := by omega
  refine ⟨wR h13 (335 + n + m) i N, ?_, q1, ?_, q3⟩
  · unfold f_Law_chosen_b209
    rw [if_neg c1, gd_P t0, i7, eN, rA, lq_E, ← eb, bn_C ec1, bn_C eb2, gd_P g3, show ix (nI 0) = 0 by decide, lq_E, ← e3, bn_C ec4, bn_C eb5, gd_P g6, show ix (nI 1) = 1 by decide, lq_E, ← e6, bn_C ec7, bn_C eb8, gd_P g9, show ix (nI 2) = 2 by decide, lq_E, ← e9, gd_P g10, show ix (nI 3) = 3 by decide, lq_E, ← e10, gd_P g11, show ix (nI 4) = 4 by decide, lq_E, ← e11, gd_P g12, show ix (nI 5) = 5 by decide, lq_E, ← e12, gd_P g13, show ix (nI 6) = 6 by decide, lq_E, ← e13, gd_P ⟨tA', by rw [lA']; exact inb_i hi (by omega), T13⟩, ix_i (by omega), lq_E, nI_L, iI_add, lq_E]
    rfl
  · unfold Pe1
    rw [bN]
    exact ⟨q2, T13, L13, ⟨(show Rg 0 ((n : Int) - 1) (hI h13 N 0) by rw [V0]; exact ⟨(r1 : Int), by omega, by omega, rfl⟩), (show Rg 0 ((m : Int) - 1) (hI h13 N 1) by rw [V1]; exact ⟨(r2 : Int), by omega, by omega, rfl⟩), (show Rg 1 9 (hI h13 N 2) by rw [V2, one_i]; exact ⟨((r3 + 1 : Nat) : Int), by omega, by omega, rfl⟩)⟩, V3.trans (nI_L 20), V4.trans (nI_i 0), V5.trans (nI_i 0), V6.trans (nI_i 0)⟩
theorem peAll {h0 : AH} {sc n m p : Nat} (hn : 1 ≤ n ∧ n ≤ 3) (hm : 1 ≤ m ∧ m ≤ 3) (hp : p ≤ 4) (n0 : hN h0 = 336 + n + m) (hs : sc < 200) (S0' : Scr sc h0) (t0 : hT h0 320 = 13) (r12 : hR h0 320 15 = 335 + n + m) (tA : hT h0 (335 + n + m) = 109) (lA : hL h0 (335 + n + m) = p) :
    ∃ h', f_Law_chosen_l209 FU h0 sc 320 (iI (n : Int)) (iI (m : Int)) (iI (p : Int)) (nI 0) = f_Law_chosen_b209 (fun _ _ _ _ _ _ _ => none) h' sc 320 (iI (n : Int)) (iI (m : Int)) (iI (p : Int)) (iI (p : Int)) ∧ Nw (fun x => x = 335 + n + m) p (7 * p) h0 h' ∧ ∀ k, k < p → Pe1 n m h' k := by
  obtain ⟨h', e1, e2, e3⟩ := loopNw (fun fu h i => f_Law_chosen_l209 fu h sc 320 (iI (n : Int)) (iI (m : Int)) (iI (p : Int)) (iI (i : Int))) (fun h => f_Law_chosen_b209 (fun _ _ _ _ _ _ _ => none) h sc 320 (iI (n : Int)) (iI (m : Int)) (iI (p : Int)) (iI (p : Int))) p (fun i h => Nw (fun x => x = 335 + n + m) i (7 * i) h0 h ∧ ∀ k, k < i → Pe1 n m h k) (by
    intro fu i h hi ⟨u, al⟩
    have nh := u.n
    obtain ⟨h', g1, g2, g3, g4⟩ := peStep (sc := sc) (n := n) (m := m) (p := p) hn hm hp hi hs (S0'.nw u (by omega) (fun y => absurd (show sc = 335 + n + m from y) (by omega))) ((u.t (by omega)).trans t0) ((congrFun (u.r (x := 320) (by omega) (fun y => absurd (show (320 : Nat) = 335 + n + m from y) (by omega))) 15).trans r12) ((u.t (by omega)).trans tA) ((u.l (by omega)).trans lA) (by omega) (f_Law_chosen_l209 fu)
    refine ⟨h', g1, (u.trans g2 fun _ _ y => y).mono (fun _ _ y => y) rfl (by omega), fun k hk => ?_⟩
    by_cases c : k = i
    · rw [c]; exact g3
    · exact (al k (by omega)).nw g2 (by omega) (fun y => absurd (show 336 + n + m + k = 335 + n + m from y) (by omega)) (g4 k c)) (by
    intro fu h hJ
    show f_Law_chosen_b209 (f_Law_chosen_l209 fu) h sc 320 (iI (n : Int)) (iI (m : Int)) (iI (p : Int)) (iI (p : Int)) = _
    have c : iI (p : Int) ≤ iI (p : Int) := by rw [iI_le (by omega) (by omega) (by omega) (by omega)]; omega
    unfold f_Law_chosen_b209
    simp only [if_pos c]) p 0 FU h0 (by omega) (by unfold FU; omega) ⟨Nw.refl _ _, fun k hk => absurd hk (by omega)⟩
  refine ⟨h', ?_, e2, e3⟩
  rw [show (nI 0 : Int32) = iI ((0 : Nat) : Int) from nI_i 0]
  exact e1
theorem boStep {h : AH} {sc n m p b i : Nat} (hn : n ≤ 3) (hm : m ≤ 3) (hp : p ≤ 4) (hb4 : b ≤ 3) (hi : i < b) (hs : sc < 200) (S : Scr sc h) (t0 : hT h 320 = 13) (rA : hR h 320 16 = 336 + n + m + p) (tA : hT h (336 + n + m + p) = 109) (lA : hL h (336 + n + m + p) = b) (nh : hN h = 337 + n + m + p + i) (k332 : AH → Nat → Nat → Int32 → Int32 → Int32 → Option (AH × Nat)) :
    ∃ h', f_Law_chosen_b332 k332 h sc 320 (iI (p : Int)) (iI (b : Int)) (iI (i : Int)) = k332 h' sc 320 (iI (p : Int)) (iI (b : Int)) (iI ((i + 1 : Nat) : Int)) ∧ Nw (fun x => x = 336 + n + m + p) 1 7 h h' ∧ Bo1 n m p h' i ∧ ∀ s, s ≠ i → hR h' (336 + n + m + p) s = hR h (336 + n + m + p) s := by
  obtain ⟨N, eN⟩ : ∃ N, hN h = N := ⟨_, rfl⟩
  have i7 : ix (nI 7) = 7 := by decide
  have c1 : ¬ iI (b : Int) ≤ iI (i : Int) := by rw [iI_le (by omega) (by omega) (by omega) (by omega)]; omega
  obtain ⟨hb, eb⟩ : ∃ y, y = hA h 101 7 := ⟨_, rfl⟩
  have wb : Nw (fun _ => False) 1 7 h hb := by rw [eb]; exact Nw.al h 101 7
  have Tb : hT hb N = 101 := by rw [eb, ← eN]; exact up1_e _ _ _
  have Lb : hL hb N = 7 := by rw [eb, ← eN]; exact up1_e _ _ _
  have Sb : Scr sc hb := S.nw wb (by omega) (fun y => y)
  obtain ⟨v1, ec1⟩ := cellN Sb (j := 14) (by omega)
  obtain ⟨r1, r1l, eb2⟩ := belN (h := hb) (v1 >>> (((nI 2) * iI (i : Int)) &&& 31)) (n := 40) (by omega) (by omega)
  have g3 : hT hb N = 101 ∧ inb (nI 0) (hL hb N) := ⟨Tb, by rw [Lb]; decide⟩
  obtain ⟨h3, e3⟩ : ∃ hz, hz = wI hb N 0 (nI 1 + iI (r1 : Int)) := ⟨_, rfl⟩
  have T3 : hT h3 N = 101 := by rw [e3]; exact Tb
  have L3 : hL h3 N = 7 := by rw [e3]; exact Lb
  have S3 : Scr sc h3 := by rw [e3]; exact Sb
  have F3 : hI h3 = up2 (hI hb) N 0 (nI 1 + iI (r1 : Int)) := by rw [e3]; rfl
  have w3 : Nw (fun x => x = N) 0 0 hb h3 := by rw [e3]; exact Nw.wi rfl
  obtain ⟨v2, ec4⟩ := cellN S3 (j := 15) (by omega)
  obtain ⟨r2, r2l, eb5⟩ := belN (h := h3) (v2 >>> (((nI 2) * iI (i : Int)) &&& 31)) (n := 9) (by omega) (by omega)
  have g6 : hT h3 N = 101 ∧ inb (nI 1) (hL h3 N) := ⟨T3, by rw [L3]; decide⟩
  obtain ⟨h6, e6⟩ : ∃ hz, hz = wI h3 N 1 (nI 1 + iI (r2 : Int)) := ⟨_, rfl⟩
  have T6 : hT h6 N = 101 := by rw [e6]; exact T3
  have L6 : hL h6 N = 7 := by rw [e6]; exact L3
  have S6 : Scr sc h6 := by rw [e6]; exact S3
  have F6 : hI h6 = up2 (hI h3) N 1 (nI 1 + iI (r2 : Int)) := by rw [e6]; rfl
  have w6 : Nw (fun x => x = N) 0 0 h3 h6 := by rw [e6]; exact Nw.wi rfl
  have g7 : hT h6 N = 101 ∧ inb (nI 2) (hL h6 N) := ⟨T6, by rw [L6]; decide⟩
  obtain ⟨h7, e7⟩ : ∃ hz, hz = wI h6 N 2 (nI 0) := ⟨_, rfl⟩
  have T7 : hT h7 N = 101 := by rw [e7]; exact T6
  have L7 : hL h7 N = 7 := by rw [e7]; exact L6
  have S7 : Scr sc h7 := by rw [e7]; exact S6
  have F7 : hI h7 = up2 (hI h6) N 2 (nI 0) := by rw [e7]; rfl
  have w7 : Nw (fun x => x = N) 0 0 h6 h7 := by rw [e7]; exact Nw.wi rfl
  have g8 : hT h7 N = 101 ∧ inb (nI 3) (hL h7 N) := ⟨T7, by rw [L7]; decide⟩
  obtain ⟨h8, e8⟩ : ∃ hz, hz = wI h7 N 3 (nI 0) := ⟨_, rfl⟩
  have T8 : hT h8 N = 101 := by rw [e8]; exact T7
  have L8 : hL h8 N = 7 := by rw [e8]; exact L7
  have S8 : Scr sc h8 := by rw [e8]; exact S7
  have F8 : hI h8 = up2 (hI h7) N 3 (nI 0) := by rw [e8]; rfl
  have w8 : Nw (fun x => x = N) 0 0 h7 h8 := by rw [e8]; exact Nw.wi rfl
  have g9 : hT h8 N = 101 ∧ inb (nI 4) (hL h8 N) := ⟨T8, by rw [L8]; decide⟩
  obtain ⟨h9, e9⟩ : ∃ hz, hz = wI h8 N 4 (nI 0) := ⟨_, rfl⟩
  have T9 : hT h9 N = 101 := by rw [e9]; exact T8
  have L9 : hL h9 N = 7 := by rw [e9]; exact L8
  have S9 : Scr sc h9 := by rw [e9]; exact S8
  have F9 : hI h9 = up2 (hI h8) N 4 (nI 0) := by rw [e9]; rfl
  have w9 : Nw (fun x => x = N) 0 0 h8 h9 := by rw [e9]; exact Nw.wi rfl
  have g10 : hT h9 N = 101 ∧ inb (nI 5) (hL h9 N) := ⟨T9, by rw [L9]; decide⟩
  obtain ⟨h10, e10⟩ : ∃ hz, hz = wI h9 N 5 (nI 0) := ⟨_, rfl⟩
  have T10 : hT h10 N = 101 := by rw [e10]; exact T9
  have L10 : hL h10 N = 7 := by rw [e10]; exact L9
  have S10 : Scr sc h10 := by rw [e10]; exact S9
  have F10 : hI h10 = up2 (hI h9) N 5 (nI 0) := by rw [e10]; rfl
  have w10 : Nw (fun x => x = N) 0 0 h9 h10 := by rw [e10]; exact Nw.wi rfl
  have g11 : hT h10 N = 101 ∧ inb (nI 6) (hL h10 N) := ⟨T10, by rw [L10]; decide⟩
  obtain ⟨h11, e11⟩ : ∃ hz, hz = wI h10 N 6 (nI 0) := ⟨_, rfl⟩
  have T11 : hT h11 N = 101 := by rw [e11]; exact T10
  have L11 : hL h11 N = 7 := by rw [e11]; exact L10
  have S11 : Scr sc h11 := by rw [e11]; exact S10
  have F11 : hI h11 = up2 (hI h10) N 6 (nI 0) := by rw [e11]; rfl
  have w11 : Nw (fun x => x = N) 0 0 h10 h11 := by rw [e11]; exact Nw.wi rfl
  have V0 : hI h11 N 0 = nI 1 + iI (r1 : Int) := by rw [F11, up2_n _ _ _ _ _ _ (by omega), F10, up2_n _ _ _ _ _ _ (by omega), F9, up2_n _ _ _ _ _ _ (by omega), F8, up2_n _ _ _ _ _ _ (by omega), F7, up2_n _ _ _ _ _ _ (by omega), F6, up2_n _ _ _ _ _ _ (by omega), F3, up2_e]
  have V1 : hI h11 N 1 = nI 1 + iI (r2 : Int) := by rw [F11, up2_n _ _ _ _ _ _ (by omega), F10, up2_n _ _ _ _ _ _ (by omega), F9, up2_n _ _ _ _ _ _ (by omega), F8, up2_n _ _ _ _ _ _ (by omega), F7, up2_n _ _ _ _ _ _ (by omega), F6, up2_e]
  have V2 : hI h11 N 2 = nI 0 := by rw [F11, up2_n _ _ _ _ _ _ (by omega), F10, up2_n _ _ _ _ _ _ (by omega), F9, up2_n _ _ _ _ _ _ (by omega), F8, up2_n _ _ _ _ _ _ (by omega), F7, up2_e]
  have V3 : hI h11 N 3 = nI 0 := by rw [F11, up2_n _ _ _ _ _ _ (by omega), F10, up2_n _ _ _ _ _ _ (by omega), F9, up2_n _ _ _ _ _ _ (by omega), F8, up2_e]
  have V4 : hI h11 N 4 = nI 0 := by rw [F11, up2_n _ _ _ _ _ _ (by omega), F10, up2_n _ _ _ _ _ _ (by omega), F9, up2_e]
  have V5 : hI h11 N 5 = nI 0 := by rw [F11, up2_n _ _ _ _ _ _ (by omega), F10, up2_e]
  have V6 : hI h11 N 6 = nI 0 := by rw [F11, up2_e]
  have ww : Nw (fun x => x = N) 0 0 hb h11 := ((((((((Nw.refl (fun x => x = N) hb).trans w3 fun _ _ y => y).trans w6 fun _ _ y => y).trans w7 fun _ _ y => y).trans w8 fun _ _ y => y).trans w9 fun _ _ y => y).trans w10 fun _ _ y => y).trans w11 fun _ _ y => y).mono (fun _ _ y => y) rfl rfl
  have wh : Nw (fun _ => False) 1 7 h h11 := (wb.trans ww fun x hx y => absurd (show x = N from y) (by omega)).mono (fun _ _ y => y) rfl rfl
  have tA' : hT h11 (336 + n + m + p) = 109 := (wh.t (by omega)).trans tA
  have lA' : hL h11 (336 + n + m + p) = b := (wh.l (by omega)).trans lA
  obtain ⟨q1, q2, q3⟩ := ad_w (A := 336 + n + m + p) (N := N) (i := i) wh (by omega)
  have bN : 337 + n + m + p + i = N := by omega
  refine ⟨wR h11 (336 + n + m + p) i N, ?_, q1, ?_, q3⟩
  · unfold f_Law_chosen_b332
    rw [if_neg c1, gd_P t0, i7, eN, rA, lq_E, ← eb, bn_C ec1, bn_C eb2, gd_P g3, show ix (nI 0) = 0 by decide, lq_E, ← e3, bn_C ec4, bn_C eb5, gd_P g6, show ix (nI 1) = 1 by decide, lq_E, ← e6, gd_P g7, show ix (nI 2) = 2 by decide, lq_E, ← e7, gd_P g8, show ix (nI 3) = 3 by decide, lq_E, ← e8, gd_P g9, show ix (nI 4) = 4 by decide, lq_E, ← e9, gd_P g10, show ix (nI 5) = 5 by decide, lq_E, ← e10, gd_P g11, show ix (nI 6) = 6 by decide, lq_E, ← e11, gd_P ⟨tA', by rw [lA']; exact inb_i hi (by omega), T11⟩, ix_i (by omega), lq_E, nI_L, iI_add, lq_E]
    rfl
  · unfold Bo1
    rw [bN]
    exact ⟨q2, T11, L11, ⟨(show Rg 1 40 (hI h11 N 0) by rw [V0, one_i]; exact ⟨((r1 + 1 : Nat) : Int), by omega, by omega, rfl⟩), (show Rg 1 9 (hI h11 N 1) by rw [V1, one_i]; exact ⟨((r2 + 1 : Nat) : Int), by omega, by omega, rfl⟩)⟩, V2.trans (nI_i 0), V3.trans (nI_i 0), V4.trans (nI_i 0), V5.trans (nI_i 0), V6.trans (nI_i 0)⟩
theorem boAll {h0 : AH} {sc n m p b : Nat} (hn : n ≤ 3) (hm : m ≤ 3) (hp : p ≤ 4) (hb4 : b ≤ 3) (n0 : hN h0 = 337 + n + m + p) (hs : sc < 200) (S0' : Scr sc h0) (t0 : hT h0 320 = 13) (r12 : hR h0 320 16 = 336 + n + m + p) (tA : hT h0 (336 + n + m + p) = 109) (lA : hL h0 (336 + n + m + p) = b) :
    ∃ h', f_Law_chosen_l332 FU h0 sc 320 (iI (p : Int)) (iI (b : Int)) (nI 0) = f_Law_chosen_b332 (fun _ _ _ _ _ _ => none) h' sc 320 (iI (p : Int)) (iI (b : Int)) (iI (b : Int)) ∧ Nw (fun x => x = 336 + n + m + p) b (7 * b) h0 h' ∧ ∀ k, k < b → Bo1 n m p h' k := by
  obtain ⟨h', e1, e2, e3⟩ := loopNw (fun fu h i => f_Law_chosen_l332 fu h sc 320 (iI (p : Int)) (iI (b : Int)) (iI (i : Int))) (fun h => f_Law_chosen_b332 (fun _ _ _ _ _ _ => none) h sc 320 (iI (p : Int)) (iI (b : Int)) (iI (b : Int))) b (fun i h => Nw (fun x => x = 336 + n + m + p) i (7 * i) h0 h ∧ ∀ k, k < i → Bo1 n m p h k) (by
    intro fu i h hi ⟨u, al⟩
    have nh := u.n
    obtain ⟨h', g1, g2, g3, g4⟩ := boStep (sc := sc) (n := n) (m := m) (p := p) (b := b) hn hm hp hb4 hi hs (S0'.nw u (by omega) (fun y => absurd (show sc = 336 + n + m + p from y) (by omega))) ((u.t (by omega)).trans t0) ((congrFun (u.r (x := 320) (by omega) (fun y => absurd (show (320 : Nat) = 336 + n + m + p from y) (by omega))) 16).trans r12) ((u.t (by omega)).trans tA) ((u.l (by omega)).trans lA) (by omega) (f_Law_chosen_l332 fu)
    refine ⟨h', g1, (u.trans g2 fun _ _ y => y).mono (fun _ _ y => y) rfl (by omega), fun k hk => ?_⟩
    by_cases c : k = i
    · rw [c]; exact g3
    · exact (al k (by omega)).nw g2 (by omega) (fun y => absurd (show 337 + n + m + p + k = 336 + n + m + p from y) (by omega)) (g4 k c)) (by
    intro fu h hJ
    show f_Law_chosen_b332 (f_Law_chosen_l332 fu) h sc 320 (iI (p : Int)) (iI (b : Int)) (iI (b : Int)) = _
    have c : iI (b : Int) ≤ iI (b : Int) := by rw [iI_le (by omega) (by omega) (by omega) (by omega)]; omega
    unfold f_Law_chosen_b332
    simp only [if_pos c]) b 0 FU h0 (by omega) (by unfold FU; omega) ⟨Nw.refl _ _, fun k hk => absurd hk (by omega)⟩
  refine ⟨h', ?_, e2, e3⟩
  rw [show (nI 0 : Int32) = iI ((0 : Nat) : Int) from nI_i 0]
  exact e1

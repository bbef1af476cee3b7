/-! 98zy L3: making the sim, II: gardens and racks (written by l3/gen98zy.py) -/
theorem Scr.nw {sc : Nat} {h h' : AH} {P : Nat → Prop} {c d : Nat} (k : Scr sc h) (u : Nw P c d h h') (hs : sc < hN h) (n : ¬ P sc) : Scr sc h' := by
  have e := u.e hs n
  exact ⟨e.1.trans k.1, by rw [e.2.1]; exact k.2⟩
theorem cellA {sc : Nat} {h : AH} (k : Scr sc h) {j i : Nat} (hj : j < 1000) (hi : i < 1000) : ∃ v, f_Law_cell h sc (nI j + iI (i : Int)) = some (h, v) := by
  obtain ⟨v, e⟩ := cell_E k (i := j + i) (by omega)
  exact ⟨v, by rw [nI_i, iI_add]; exact e⟩
theorem cellN {sc : Nat} {h : AH} (k : Scr sc h) {j : Nat} (hj : j < 1000) : ∃ v, f_Law_cell h sc (nI j) = some (h, v) := by
  obtain ⟨v, e⟩ := cell_E k (i := j) (by omega)
  exact ⟨v, by rw [nI_i]; exact e⟩
theorem belN {h : AH} (v : Int32) {n : Nat} (h1 : 1 ≤ n) (h2 : n < 100000) : ∃ r : Nat, r < n ∧ f_Law_below h v (nI n) = some (h, iI (r : Int)) := by
  obtain ⟨r, r1, r2⟩ := below_E (h := h) v h1 (by omega)
  exact ⟨r, r1, by rw [nI_i n]; exact r2⟩
theorem one_i (r : Nat) : nI 1 + iI (r : Int) = iI ((r + 1 : Nat) : Int) := by
  rw [nI_L, iI_add, Int.add_comm]
  rfl
-- one more object in a row of them: h2 is the heap with it
theorem ad_w {h h2 : AH} {A N i c d : Nat} (u : Nw (fun _ => False) c d h h2) (hA' : A < hN h) : Nw (fun x => x = A) c d h (wR h2 A i N) ∧ hR (wR h2 A i N) A i = N ∧ (∀ s, s ≠ i → hR (wR h2 A i N) A s = hR h A s) := by
  refine ⟨((u.mono (Q := fun x => x = A) (fun _ _ y => y.elim) rfl rfl).trans (Nw.wr (P := fun x => x = A) rfl) fun _ _ y => y).mono (fun _ _ y => y) rfl rfl, up2_e _ _ _ _, fun s hs => ?_⟩
  show up2 (hR h2) A i N A s = _
  rw [up2_n _ _ _ _ _ _ (fun y => hs y.2), u.r hA' (fun y => y)]
def Ga1 (h : AH) (k : Nat) : Prop := hR h 332 k = 333 + k ∧ hT h (333 + k) = 101 ∧ hL h (333 + k) = 3 ∧ Rg 0 99 (hI h (333 + k) 0) ∧ Rg 0 20 (hI h (333 + k) 1) ∧ Rg 1 9 (hI h (333 + k) 2)
theorem Ga1.nw {c d : Nat} {h h' : AH} {P : Nat → Prop} {k : Nat} (r : Ga1 h k) (u : Nw P c d h h') (h1 : 333 + k < hN h) (e1 : ¬ P (333 + k)) (e2 : hR h' (332) k = hR h (332) k) : Ga1 h' k := by
  unfold Ga1
  rw [u.t (x := 333 + k) h1, u.l (x := 333 + k) h1, u.i (x := 333 + k) h1 e1, e2]
  exact r
theorem b105_E {k30 : AH → Nat → Nat → Int32 → Int32 → Option (AH × Nat)} {h : AH} {sc n i N B : Nat} {a2 : Int32} (x : Int32) (hB : 1 ≤ B) (hB2 : B < 100) (hi : i < n) (hn : n ≤ 100) (t : hT h N = 101) (l : hL h N = 3) (tA : hT h 332 = 109) (lA : hL h 332 = n) :
    ∃ r : Nat, r < B ∧ f_Law_chosen_b105 k30 h sc 320 a2 (iI (i : Int)) 332 (iI (i : Int)) N N (nI 2) (nI 1) x (nI B) = k30 (wR (wI h N 2 (iI ((r + 1 : Nat) : Int))) 332 i N) sc 320 a2 (iI ((i + 1 : Nat) : Int)) := by
  obtain ⟨r, r1, r2⟩ := belN (h := h) x hB (by omega)
  refine ⟨r, r1, ?_⟩
  unfold f_Law_chosen_b105
  rw [bn_C r2, gd_P ⟨t, by rw [l]; decide⟩, show ix (nI 2) = 2 by decide, lq_E, one_i, gd_P (by rw [hT_wi, hL_wi]; exact ⟨tA, by rw [lA]; exact inb_i hi (by omega), t⟩), ix_i (by omega), lq_E, nI_L, iI_add, lq_E]
  rfl
theorem gaStep {h0 h : AH} {sc n i : Nat} (n0 : hN h0 = 333) (hi : i < n) (hn : n ≤ 3) (hs : sc < 200) (S : Scr sc h) (t0 : hT h 320 = 13) (r12 : hR h 320 12 = 332) (tA : hT h 332 = 109) (lA : hL h 332 = n) (nh : hN h = 333 + i) (k30 : AH → Nat → Nat → Int32 → Int32 → Option (AH × Nat)) :
    ∃ h', f_Law_chosen_b30 k30 h sc 320 (iI (n : Int)) (iI (i : Int)) = k30 h' sc 320 (iI (n : Int)) (iI ((i + 1 : Nat) : Int)) ∧ Nw (fun x => x = 332) 1 3 h h' ∧ Ga1 h' i ∧ ∀ s, s ≠ i → hR h' 332 s = hR h 332 s := by
  obtain ⟨N, eN⟩ : ∃ N, hN h = N := ⟨_, rfl⟩
  have i3 : ix (nI 3) = 3 := by decide
  have c1 : ¬ iI (n : Int) ≤ iI (i : Int) := by rw [iI_le (by omega) (by omega) (by omega) (by omega)]; omega
  obtain ⟨hb, eb⟩ : ∃ y, y = hA h 101 3 := ⟨_, rfl⟩
  have wb : Nw (fun _ => False) 1 3 h hb := by rw [eb]; exact Nw.al h 101 3
  have Tb : hT hb N = 101 := by rw [eb, ← eN]; exact up1_e _ _ _
  have Lb : hL hb N = 3 := by rw [eb, ← eN]; exact up1_e _ _ _
  have Sb : Scr sc hb := S.nw wb (by omega) (fun y => y)
  obtain ⟨v1, ec1⟩ := cellA Sb (j := 1) (i := i) (by omega) (by omega)
  obtain ⟨r1, r1l, eb2⟩ := belN (h := hb) v1 (n := 100) (by omega) (by omega)
  have g3 : hT hb N = 101 ∧ inb (nI 0) (hL hb N) := ⟨Tb, by rw [Lb]; decide⟩
  obtain ⟨h3, e3⟩ : ∃ hz, hz = wI hb N 0 (iI (r1 : Int)) := ⟨_, rfl⟩
  have T3 : hT h3 N = 101 := by rw [e3]; exact Tb
  have L3 : hL h3 N = 3 := by rw [e3]; exact Lb
  have S3 : Scr sc h3 := by rw [e3]; exact Sb
  have F3 : hI h3 = up2 (hI hb) N 0 (iI (r1 : Int)) := by rw [e3]; rfl
  have w3 : Nw (fun x => x = N) 0 0 hb h3 := by rw [e3]; exact Nw.wi rfl
  obtain ⟨v2, ec4⟩ := cellA S3 (j := 1) (i := i) (by omega) (by omega)
  obtain ⟨r2, r2l, eb5⟩ := belN (h := h3) (v2 >>> ((nI 2) &&& 31)) (n := 21) (by omega) (by omega)
  have g6 : hT h3 N = 101 ∧ inb (nI 1) (hL h3 N) := ⟨T3, by rw [L3]; decide⟩
  obtain ⟨h6, e6⟩ : ∃ hz, hz = wI h3 N 1 (iI (r2 : Int)) := ⟨_, rfl⟩
  have T6 : hT h6 N = 101 := by rw [e6]; exact T3
  have L6 : hL h6 N = 3 := by rw [e6]; exact L3
  have S6 : Scr sc h6 := by rw [e6]; exact S3
  have F6 : hI h6 = up2 (hI h3) N 1 (iI (r2 : Int)) := by rw [e6]; rfl
  have w6 : Nw (fun x => x = N) 0 0 h3 h6 := by rw [e6]; exact Nw.wi rfl
  obtain ⟨v3, ec7⟩ := cellA S6 (j := 1) (i := i) (by omega) (by omega)
  obtain ⟨v4, ec8⟩ := cellN S6 (j := 2) (by omega)
  obtain ⟨r4, r4l, eb9⟩ := belN (h := h6) v4 (n := 2) (by omega) (by omega)
  have V0 : hI h6 N 0 = iI (r1 : Int) := by rw [F6, up2_n _ _ _ _ _ _ (by omega), F3, up2_e]
  have V1 : hI h6 N 1 = iI (r2 : Int) := by rw [F6, up2_e]
  have ww : Nw (fun x => x = N) 0 0 hb h6 := (((Nw.refl (fun x => x = N) hb).trans w3 fun _ _ y => y).trans w6 fun _ _ y => y).mono (fun _ _ y => y) rfl rfl
  have wh : Nw (fun _ => False) 1 3 h h6 := (wb.trans ww fun x hx y => absurd (show x = N from y) (by omega)).mono (fun _ _ y => y) rfl rfl
  have tA' : hT h6 332 = 109 := (wh.t (by omega)).trans tA
  have lA' : hL h6 332 = n := (wh.l (by omega)).trans lA
  have fin : ∀ r : Nat, r < 9 → ∃ h', h' = wR (wI h6 N 2 (iI ((r + 1 : Nat) : Int))) 332 i N ∧ Nw (fun x => x = 332) 1 3 h h' ∧ Ga1 h' i ∧ ∀ s, s ≠ i → hR h' 332 s = hR h 332 s := by
    intro r hr
    have wl : Nw (fun x => x = N) 0 0 h6 (wI h6 N 2 (iI ((r + 1 : Nat) : Int))) := Nw.wi rfl
    obtain ⟨q1, q2, q3⟩ := ad_w (A := 332) (N := N) (i := i) ((wh.trans wl fun x hx y => absurd (show x = N from y) (by omega)).mono (fun _ _ y => y) rfl rfl) (by omega)
    refine ⟨_, rfl, q1, ⟨q2.trans (by omega), ?_, ?_, ?_, ?_, ?_⟩, q3⟩
    · rw [show 333 + i = N by omega]; exact T6
    · rw [show 333 + i = N by omega]; exact L6
    · rw [show 333 + i = N by omega]
      show Rg 0 99 (up2 (hI h6) N 2 (iI ((r + 1 : Nat) : Int)) N 0)
      rw [up2_n _ _ _ _ _ _ (by omega), V0]
      exact ⟨(r1 : Int), by omega, by omega, rfl⟩
    · rw [show 333 + i = N by omega]
      show Rg 0 20 (up2 (hI h6) N 2 (iI ((r + 1 : Nat) : Int)) N 1)
      rw [up2_n _ _ _ _ _ _ (by omega), V1]
      exact ⟨(r2 : Int), by omega, by omega, rfl⟩
    · rw [show 333 + i = N by omega]
      show Rg 1 9 (up2 (hI h6) N 2 (iI ((r + 1 : Nat) : Int)) N 2)
      rw [up2_e]
      exact ⟨((r + 1 : Nat) : Int), by omega, by omega, rfl⟩
  have go : f_Law_chosen_b30 k30 h sc 320 (iI (n : Int)) (iI (i : Int)) = if ¬ iI (r4 : Int) = 0 then f_Law_chosen_b105 k30 h6 sc 320 (iI (n : Int)) (iI (i : Int)) 332 (iI (i : Int)) N N (nI 2) (nI 1) (v3 >>> ((nI 4) &&& 31)) (nI 3) else f_Law_chosen_b105 k30 h6 sc 320 (iI (n : Int)) (iI (i : Int)) 332 (iI (i : Int)) N N (nI 2) (nI 1) (v3 >>> ((nI 4) &&& 31)) (nI 9) := by
    unfold f_Law_chosen_b30
    rw [if_neg c1, gd_P t0, i3, eN, r12, lq_E, ← eb, bn_C ec1, bn_C eb2, gd_P g3, show ix (nI 0) = 0 by decide, lq_E, ← e3, bn_C ec4, bn_C eb5, gd_P g6, show ix (nI 1) = 1 by decide, lq_E, ← e6, bn_C ec7, bn_C ec8, bn_C eb9]
  by_cases c : ¬ iI (r4 : Int) = 0
  · obtain ⟨r, hr, er⟩ := b105_E (k30 := k30) (sc := sc) (a2 := iI (n : Int)) (B := 3) (v3 >>> ((nI 4) &&& 31)) (by omega) (by omega) hi (by omega) T6 L6 tA' lA'
    obtain ⟨h', eh, f1, f2, f3⟩ := fin r (by omega)
    exact ⟨h', by rw [go, if_pos c, er, eh], f1, f2, f3⟩
  · obtain ⟨r, hr, er⟩ := b105_E (k30 := k30) (sc := sc) (a2 := iI (n : Int)) (B := 9) (v3 >>> ((nI 4) &&& 31)) (by omega) (by omega) hi (by omega) T6 L6 tA' lA'
    obtain ⟨h', eh, f1, f2, f3⟩ := fin r (by omega)
    exact ⟨h', by rw [go, if_neg c, er, eh], f1, f2, f3⟩
theorem gaAll {h0 : AH} {sc n : Nat} (hn : n ≤ 3) (n0 : hN h0 = 333) (hs : sc < 200) (S0' : Scr sc h0) (t0 : hT h0 320 = 13) (r12 : hR h0 320 12 = 332) (tA : hT h0 (332) = 109) (lA : hL h0 (332) = n) :
    ∃ h', f_Law_chosen_l30 FU h0 sc 320 (iI (n : Int)) (nI 0) = f_Law_chosen_b30 (fun _ _ _ _ _ => none) h' sc 320 (iI (n : Int)) (iI (n : Int)) ∧ Nw (fun x => x = 332) n (3 * n) h0 h' ∧ ∀ k, k < n → Ga1 h' k := by
  obtain ⟨h', e1, e2, e3⟩ := loopNw (fun fu h i => f_Law_chosen_l30 fu h sc 320 (iI (n : Int)) (iI (i : Int))) (fun h => f_Law_chosen_b30 (fun _ _ _ _ _ => none) h sc 320 (iI (n : Int)) (iI (n : Int))) n (fun i h => Nw (fun x => x = 332) i (3 * i) h0 h ∧ ∀ k, k < i → Ga1 h k) (by
    intro fu i h hi ⟨u, al⟩
    have nh := u.n
    obtain ⟨h', g1, g2, g3, g4⟩ := gaStep (sc := sc) (n := n) n0 hi hn hs (S0'.nw u (by omega) (fun y => absurd (show sc = 332 from y) (by omega))) ((u.t (by omega)).trans t0) ((congrFun (u.r (x := 320) (by omega) (fun y => absurd (show (320 : Nat) = 332 from y) (by omega))) 12).trans r12) ((u.t (by omega)).trans tA) ((u.l (by omega)).trans lA) (by omega) (f_Law_chosen_l30 fu)
    refine ⟨h', g1, (u.trans g2 fun _ _ y => y).mono (fun _ _ y => y) rfl (by omega), fun k hk => ?_⟩
    by_cases c : k = i
    · rw [c]; exact g3
    · exact (al k (by omega)).nw g2 (by omega) (fun y => absurd (show 333 + k = 332 from y) (by omega)) (g4 k c)) (by
    intro fu h hJ
    show f_Law_chosen_b30 (f_Law_chosen_l30 fu) h sc 320 (iI (n : Int)) (iI (n : Int)) = _
    have c : iI (n : Int) ≤ iI (n : Int) := by rw [iI_le (by omega) (by omega) (by omega) (by omega)]; omega
    unfold f_Law_chosen_b30
    simp only [if_pos c]) n 0 FU h0 (by omega) (by unfold FU; omega) ⟨Nw.refl _ _, fun k hk => absurd hk (by omega)⟩
  refine ⟨h', ?_, e2, e3⟩
  rw [show (nI 0 : Int32) = iI ((0 : Nat) : Int) from nI_i 0]
  exact e1
def Ho1 (n : Nat) (h : AH) (k : Nat) : Prop := Rg 1 60 (hI h (333 + n) k)
theorem hoAll {h0 : AH} {sc n m : Nat} (hn : n ≤ 3) (hm : m ≤ 3) (n0 : 333 + n < hN h0) (hs : sc < 200) (S0' : Scr sc h0) (t0 : hT h0 320 = 13) (r13 : hR h0 320 13 = 333 + n) (tA : hT h0 (333 + n) = 101) (lA : hL h0 (333 + n) = m) :
    ∃ h', f_Law_chosen_l149 FU h0 sc 320 (iI (n : Int)) (iI (m : Int)) (nI 0) = f_Law_chosen_b149 (fun _ _ _ _ _ _ => none) h' sc 320 (iI (n : Int)) (iI (m : Int)) (iI (m : Int)) ∧ Nw (fun x => x = 333 + n) 0 0 h0 h' ∧ hR h' = hR h0 ∧ ∀ k, k < m → Ho1 n h' k := by
  obtain ⟨h', e1, e2, e4, e3⟩ := loopNw (fun fu h i => f_Law_chosen_l149 fu h sc 320 (iI (n : Int)) (iI (m : Int)) (iI (i : Int))) (fun h => f_Law_chosen_b149 (fun _ _ _ _ _ _ => none) h sc 320 (iI (n : Int)) (iI (m : Int)) (iI (m : Int))) m (fun i h => Nw (fun x => x = 333 + n) 0 0 h0 h ∧ hR h = hR h0 ∧ ∀ k, k < i → Ho1 n h k) (by
    intro fu i h hi ⟨u, ur, al⟩
    have nh := u.n
    have S : Scr sc h := S0'.nw u (by omega) (fun y => absurd (show sc = 333 + n from y) (by omega))
    obtain ⟨v, ev⟩ := cellA S (j := 5) (i := i) (by omega) (by omega)
    obtain ⟨r, hr, er⟩ := belN (h := h) v (n := 60) (by omega) (by omega)
    have t1 : hT h 320 = 13 := (u.t (by omega)).trans t0
    have q1 : hT h (333 + n) = 101 := (u.t (by omega)).trans tA
    have q2 : hL h (333 + n) = m := (u.l (by omega)).trans lA
    have q3 : hR h 320 13 = 333 + n := by rw [ur]; exact r13
    refine ⟨wI h (333 + n) i (iI ((r + 1 : Nat) : Int)), ?_, (u.trans (Nw.wi (P := fun x => x = 333 + n) rfl) fun _ _ y => y).mono (fun _ _ y => y) rfl rfl, ur, fun k hk => ?_⟩
    · show f_Law_chosen_b149 (f_Law_chosen_l149 fu) h sc 320 (iI (n : Int)) (iI (m : Int)) (iI (i : Int)) = _
      have c1 : ¬ iI (m : Int) ≤ iI (i : Int) := by rw [iI_le (by omega) (by omega) (by omega) (by omega)]; omega
      unfold f_Law_chosen_b149
      rw [if_neg c1, gd_P t1, q3, bn_C ev, bn_C er, gd_P ⟨q1, by rw [q2]; exact inb_i hi (by omega)⟩, ix_i (by omega), one_i, lq_E, nI_L, iI_add, lq_E]
      rfl
    · unfold Ho1
      show Rg 1 60 (up2 (hI h) (333 + n) i (iI ((r + 1 : Nat) : Int)) (333 + n) k)
      by_cases c : k = i
      · rw [c, up2_e]
        exact ⟨((r + 1 : Nat) : Int), by omega, by omega, rfl⟩
      · rw [up2_n _ _ _ _ _ _ (fun y => c y.2)]
        exact al k (by omega)) (by
    intro fu h hJ
    show f_Law_chosen_b149 (f_Law_chosen_l149 fu) h sc 320 (iI (n : Int)) (iI (m : Int)) (iI (m : Int)) = _
    have c : iI (m : Int) ≤ iI (m : Int) := by rw [iI_le (by omega) (by omega) (by omega) (by omega)]; omega
    unfold f_Law_chosen_b149
    simp only [if_pos c]) m 0 FU h0 (by omega) (by unfold FU; omega) ⟨Nw.refl _ _, rfl, fun k hk => absurd hk (by omega)⟩
  refine ⟨h', ?_, e2, e4, e3⟩
  rw [show (nI 0 : Int32) = iI ((0 : Nat) : Int) from nI_i 0]
  exact e1

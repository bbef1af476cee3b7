/-! 98g L3: the whole text, II -/
section
variable {xA n m p b no : Nat} {O : Nat → Nat → Int} {T C Pb : Int} {h0 : AH} {g : GM}
theorem text1_E (hNm : Nm n m p b) (hs0 : Sm xA n m p b no O h0 g) (st0 : St h0) (hv : Iv n m p b T C Pb g) : ∃ h' bs, f_Sim_text h0 320 = f_Sim_text_b219 (fun _ _ _ _ => none) h' 320 (hN h0) (iI (b : Int)) ∧ Tx h0 (hN h0) bs h' ∧ Co 101 h0 h' ∧ bs.length ≤ 418 ∧
    bs = fl (lnS (fun i => tkG i (g (7 + i) 0).toNat (g (7 + i) 1).toNat (g (7 + i) 2).toNat) n ++ (lnS (fun i => tkR i (g (11 + 5 * i) 0).toNat) m ++ (lnS (fun i => tkP i (g (31 + i) 0).toNat (g (31 + i) 1).toNat (g (31 + i) 2).toNat) p ++ lnS (fun i => tkB i (g (39 + i) 0).toNat (g (39 + i) 1).toNat) b))) := by
  have hN' := hNm
  unfold Nm at hN'
  have h200 : 200 ≤ hN h0 := by have := hs0.2.2.2.2.2.1; unfold tp at this; omega
  have vG := hv.2.2.1
  have vR : ∀ i, i < m → 1 ≤ g (11 + 5 * i) 0 ∧ g (11 + 5 * i) 0 ≤ 60 := fun i hi => by have := hv.2.2.2.1 i hi; unfold IvR1 at this; omega
  have vP := hv.2.2.2.2.1
  have vB : ∀ i, i < b → 1 ≤ g (39 + i) 0 ∧ g (39 + i) 0 ≤ 40 ∧ 1 ≤ g (39 + i) 1 ∧ g (39 + i) 1 ≤ 9 := fun i hi => by have := hv.2.2.2.2.2.1 i hi; omega
  obtain ⟨h1, e1, tb0, t1, c1⟩ := Tx.new (h := h0) h200
  generalize ha : hN h0 = a at *
  obtain ⟨h2, e2, t2, c2, -⟩ := loopT (fun fu h i => f_Sim_text_l10 fu h 320 a (iI (i : Int))) (fun h => f_Sim_text_l91 FU h 320 a (iI 0)) (fun i => tkG i (g (7 + i) 0).toNat (g (7 + i) 1).toNat (g (7 + i) 2).toNat) n 9 42 (fun _ => True) (by
    intro fu i h bs hi hl t _
    obtain ⟨h', k1, k2, k3⟩ := txG hNm hs0 st0 vG t (by omega) hi (f_Sim_text_l10 fu)
    exact ⟨h', k1, k2, k3, trivial⟩) (by
    intro fu h bs t _
    have hm := t.sm hNm hs0
    show f_Sim_text_b10 (f_Sim_text_l10 fu) h 320 a (iI (n : Int)) = _
    unfold f_Sim_text_b10
    rw [gd_P hm.1.t, gd_P (by rw [hm.1.r12]; exact hm.1.tga), if_pos (by rw [hm.1.r12, hm.1.lga, nI_i, iI_le (by omega) (by omega) (by omega) (by omega)]; omega), nI_L]) (fun i _ => Nat.le_refl 42) (by unfold FU; omega) t1 trivial (by rw [List.length_nil]; omega)
  rw [List.nil_append] at t2
  have l2 := Nat.le_trans (fl_len (lnS (fun i => tkG i (g (7 + i) 0).toNat (g (7 + i) 1).toNat (g (7 + i) 2).toNat) n)) (lenLn (B := 42) fun i _ => Nat.le_refl 42)
  generalize lnS (fun i => tkG i (g (7 + i) 0).toNat (g (7 + i) 1).toNat (g (7 + i) 2).toNat) n = A1 at *
  obtain ⟨h3, e3, t3, c3, -⟩ := loopT (fun fu h i => f_Sim_text_l91 fu h 320 a (iI (i : Int))) (fun h => f_Sim_text_l138 FU h 320 a (iI 0)) (fun i => tkR i (g (11 + 5 * i) 0).toNat) m 5 18 (fun _ => True) (by
    intro fu i h bs hi hl t _
    obtain ⟨h', k1, k2, k3⟩ := txR hNm hs0 st0 vR t (by omega) hi (f_Sim_text_l91 fu)
    exact ⟨h', k1, k2, k3, trivial⟩) (by
    intro fu h bs t _
    have hm := t.sm hNm hs0
    show f_Sim_text_b91 (f_Sim_text_l91 fu) h 320 a (iI (m : Int)) = _
    unfold f_Sim_text_b91
    rw [gd_P hm.1.t, gd_P (by rw [hm.1.r14]; exact hm.1.tra), if_pos (by rw [hm.1.r14, hm.1.lra, nI_i, iI_le (by omega) (by omega) (by omega) (by omega)]; omega), nI_L]) (fun i _ => Nat.le_refl 18) (by unfold FU; omega) t2 trivial (by omega)
  have l3 := Nat.le_trans (fl_len (lnS (fun i => tkR i (g (11 + 5 * i) 0).toNat) m)) (lenLn (B := 18) fun i _ => Nat.le_refl 18)
  generalize lnS (fun i => tkR i (g (11 + 5 * i) 0).toNat) m = A2 at *
  rw [← fl_app] at t3
  have l23 : (fl (A1 ++ A2)).length ≤ 180 := by rw [fl_app, List.length_append]; omega
  obtain ⟨h4, e4, t4, c4, -⟩ := loopT (fun fu h i => f_Sim_text_l138 fu h 320 a (iI (i : Int))) (fun h => f_Sim_text_l219 FU h 320 a (iI 0)) (fun i => tkP i (g (31 + i) 0).toNat (g (31 + i) 1).toNat (g (31 + i) 2).toNat) p 9 32 (fun _ => True) (by
    intro fu i h bs hi hl t _
    obtain ⟨h', k1, k2, k3⟩ := txP hNm hs0 st0 vP t (by omega) hi (f_Sim_text_l138 fu)
    exact ⟨h', k1, k2, k3, trivial⟩) (by
    intro fu h bs t _
    have hm := t.sm hNm hs0
    show f_Sim_text_b138 (f_Sim_text_l138 fu) h 320 a (iI (p : Int)) = _
    unfold f_Sim_text_b138
    rw [gd_P hm.1.t, gd_P (by rw [hm.1.r15]; exact hm.1.tpe), if_pos (by rw [hm.1.r15, hm.1.lpe, nI_i, iI_le (by omega) (by omega) (by omega) (by omega)]; omega), nI_L]) (fun i _ => Nat.le_refl 32) (by unfold FU; omega) t3 trivial (by omega)
  have l4 := Nat.le_trans (fl_len (lnS (fun i => tkP i (g (31 + i) 0).toNat (g (31 + i) 1).toNat (g (31 + i) 2).toNat) p)) (lenLn (B := 32) fun i _ => Nat.le_refl 32)
  generalize lnS (fun i => tkP i (g (31 + i) 0).toNat (g (31 + i) 1).toNat (g (31 + i) 2).toNat) p = A3 at *
  rw [← fl_app] at t4
  have l234 : (fl ((A1 ++ A2) ++ A3)).length ≤ 308 := by rw [fl_app, List.length_append]; omega
  obtain ⟨h5, e5, t5, c5, -⟩ := loopT (fun fu h i => f_Sim_text_l219 fu h 320 a (iI (i : Int))) (fun h => f_Sim_text_b219 (fun _ _ _ _ => none) h 320 a (iI (b : Int))) (fun i => tkB i (g (39 + i) 0).toNat (g (39 + i) 1).toNat) b 7 28 (fun _ => True) (by
    intro fu i h bs hi hl t _
    obtain ⟨h', k1, k2, k3⟩ := txB hNm hs0 st0 vB t (by omega) hi (f_Sim_text_l219 fu)
    exact ⟨h', k1, k2, k3, trivial⟩) (by
    intro fu h bs t _
    have hm := t.sm hNm hs0
    show f_Sim_text_b219 (f_Sim_text_l219 fu) h 320 a (iI (b : Int)) = _
    have c : nI (hL h (hR h 320 16)) ≤ iI (b : Int) := by rw [hm.1.r16, hm.1.lbo, nI_i, iI_le (by omega) (by omega) (by omega) (by omega)]; omega
    unfold f_Sim_text_b219
    simp only [if_pos c]) (fun i _ => Nat.le_refl 28) (by unfold FU; omega) t4 trivial (by omega)
  have l5 := Nat.le_trans (fl_len (lnS (fun i => tkB i (g (39 + i) 0).toNat (g (39 + i) 1).toNat) b)) (lenLn (B := 28) fun i _ => Nat.le_refl 28)
  generalize lnS (fun i => tkB i (g (39 + i) 0).toNat (g (39 + i) 1).toNat) b = A4 at *
  rw [← fl_app] at t5
  refine ⟨h5, _, ?_, t5, ((((c1.trans c2).trans c3).trans c4).trans c5).mono (by omega), ?_, ?_⟩
  · refine Eq.trans ?_ (e2.trans (e3.trans (e4.trans e5)))
    unfold f_Sim_text
    rw [lq_E, ha, gd_P tb0, e1, bv_S, lq_E, nI_L]
    rfl
  · rw [fl_app, List.length_append]; omega
  · rw [List.append_assoc, List.append_assoc]
theorem text2_E (hNm : Nm n m p b) (hs0 : Sm xA n m p b no O h0 g) (st0 : St h0) (hv : Iv n m p b T C Pb g) {a : Nat} {bs : List Nat} {h : AH} (t : Tx h0 a bs h) (hl : bs.length ≤ 418) : ∃ h', f_Sim_text_b219 (fun _ _ _ _ => none) h 320 a (iI (b : Int)) = f_Sim_text_b332 (fun _ _ _ _ => none) h' 320 a (iI 12) ∧ Tx h0 a (bs ++ fl (tkVs g ++ lnS (tkHs g) 12)) h' ∧ Co 65 h h' ∧ (fl (tkVs g ++ lnS (tkHs g) 12)).length ≤ 260 := by
  have hN' := hNm
  unfold Nm at hN'
  have vH := hv.2.1
  have vS := hv.1
  unfold IvSc at vS
  have v : 1 ≤ g 0 13 ∧ g 0 13 ≤ 60 ∧ 0 ≤ g 0 14 ∧ g 0 14 ≤ 5 := by omega
  clear vS hv
  have hm := t.sm hNm hs0
  have lV : (fl (tkVs g)).length ≤ 44 := by
    refine Nat.le_trans (fl_len _) ?_
    unfold tkVs
    split
    · exact Nat.zero_le _
    · exact Nat.le_refl 44
  -- the river
  have hr : ∃ h1, f_Sim_text_b219 (fun _ _ _ _ => none) h 320 a (iI (b : Int)) = f_Sim_text_l332 FU h1 320 a (iI 0) ∧ Tx h0 a (bs ++ fl (tkVs g)) h1 ∧ Co 5 h h1 := by
    have go : ∀ (x : Option (AH × Nat)), (if ¬ hI h 320 5 = nI 20 then f_Sim_text_b299 h 320 a else if hI h 320 6 = nI 1 then f_Sim_text_b330 h 320 a else f_Sim_text_b299 h 320 a) = x → f_Sim_text_b219 (fun _ _ _ _ => none) h 320 a (iI (b : Int)) = x := by
      intro x hx
      unfold f_Sim_text_b219
      rw [gd_P hm.1.t, gd_P (by rw [hm.1.r16]; exact hm.1.tbo), if_pos (by rw [hm.1.r16, hm.1.lbo, nI_i, iI_le (by omega) (by omega) (by omega) (by omega)]; omega)]
      exact hx
    have e330 : ∀ h, f_Sim_text_b330 h 320 a = f_Sim_text_l332 FU h 320 a (iI 0) := fun h => by unfold f_Sim_text_b330; rw [nI_L]
    by_cases c : g 0 13 = 20 ∧ g 0 14 = 1
    · refine ⟨h, go _ ?_, by unfold tkVs; rw [if_pos c, show fl [] = [] from rfl, List.append_nil]; exact t, (Co.refl h).mono (by omega)⟩
      rw [hm.miles, hm.current, c.1, c.2, if_neg (fun k => k (by rw [nI_L])), if_pos (by rw [nI_L]), e330]
    · obtain ⟨h1, k1, k2, k3⟩ := txV hNm hs0 st0 v t (by omega)
      refine ⟨h1, go _ ?_, by unfold tkVs; rw [if_neg c]; exact k2, k3⟩
      by_cases c1 : g 0 13 = 20
      · rw [hm.miles, hm.current, c1, if_neg (fun k => k (by rw [nI_L])), if_neg (by rw [nI_L, iI_eq (by omega) (by omega) (by omega) (by omega)]; omega), k1, e330]
      · rw [hm.miles, if_pos (by rw [nI_L, iI_eq (by omega) (by omega) (by omega) (by omega)]; exact c1), k1, e330]
  obtain ⟨h1, e1, t1, c1⟩ := hr
  have lH1 : ∀ i, i < 12 → lenB (tkHs g i) ≤ 17 := fun i _ => by
    unfold tkHs
    split
    · exact Nat.zero_le _
    · exact Nat.le_refl 17
  obtain ⟨h2, e2, t2, c2, -⟩ := loopT (fun fu h i => f_Sim_text_l332 fu h 320 a (iI (i : Int))) (fun h => f_Sim_text_b332 (fun _ _ _ _ => none) h 320 a (iI 12)) (tkHs g) 12 5 17 (fun _ => True) (by
    intro fu i h bs hi hl t _
    by_cases c : g 6 i = 1
    · have hm := t.sm hNm hs0
      have vi := vH i hi
      refine ⟨h, ?_, by unfold tkHs; rw [if_pos c, show fl [] = [] from rfl, List.append_nil]; exact t, (Co.refl h).mono (by omega), trivial⟩
      show f_Sim_text_b332 (f_Sim_text_l332 fu) h 320 a (iI (i : Int)) = _
      unfold f_Sim_text_b332
      rw [if_neg (by rw [nI_L, iI_le (by omega) (by omega) (by omega) (by omega)]; omega), gd_P hm.1.t, gd_P (hm.1.h1 hi), if_pos (by rw [hm.h3 hi, c, nI_L])]
      unfold f_Sim_text_b379
      rw [lq_E, nI_L, iI_add]
      rfl
    · obtain ⟨h', k1, k2, k3⟩ := txH hNm hs0 st0 vH t (by omega) hi c (f_Sim_text_l332 fu)
      exact ⟨h', k1, by unfold tkHs; rw [if_neg c]; exact k2, k3, trivial⟩) (by
    intro fu h bs t _
    show f_Sim_text_b332 (f_Sim_text_l332 fu) h 320 a (iI 12) = _
    have c : nI 12 ≤ iI 12 := by rw [nI_L, iI_le (by omega) (by omega) (by omega) (by omega)]; omega
    unfold f_Sim_text_b332
    simp only [if_pos c]) lH1 (by unfold FU; omega) t1 trivial (by rw [List.length_append]; omega)
  have l2 := Nat.le_trans (fl_len (lnS (tkHs g) 12)) (lenLn lH1)
  refine ⟨h2, e1.trans e2, by rw [fl_app, ← List.append_assoc]; exact t2, (c1.trans c2).mono (by omega), by rw [fl_app, List.length_append]; omega⟩
theorem text3_E (hNm : Nm n m p b) (hs0 : Sm xA n m p b no O h0 g) (st0 : St h0) (hv : Iv n m p b T C Pb g) (hno : no ≤ 7) (hW : ∀ i, i < no → Wk n m p b (O i)) {a : Nat} {bs : List Nat} {h : AH} (t : Tx h0 a bs h) (hl : bs.length ≤ 680) : ∃ h' s, f_Sim_text_b332 (fun _ _ _ _ => none) h 320 a (iI 12) = some (h', s) ∧ Str h' s (bs ++ fl (lnS (tkCs g) 4 ++ lnS (fun i => tkO n m p b (O i)) no)) ∧ s < hN h' ∧ hR h' s 0 < hN h' ∧ (∀ x, x < hN h0 → E4 h0 h' x) ∧ Co 443 h h' ∧ (fl (lnS (tkCs g) 4 ++ lnS (fun i => tkO n m p b (O i)) no)).length ≤ 838 ∧ hN h0 ≤ s ∧ hN h0 ≤ hR h' s 0 := by
  have hN' := hNm
  unfold Nm at hN'
  have vQ := hv.2.2.2.2.2.2.1
  have i4 : (iI 4).toNatClampNeg = 4 := by rw [iI_ix (by omega) (by omega)]; rfl
  have a2 := t.1.2.1
  have a3 := t.1.2.2.1
  have a5 := t.1.2.2.2.2.1
  -- the row of first prices
  obtain ⟨F, hF⟩ : ∃ F : Nat → Nat → Int32, F = (up2 (up2 (up2 (up2 (up1 (hI h) (hN h) (fun _ => 0)) (hN h) 0 (iI 8)) (hN h) 1 (iI 5)) (hN h) 2 (iI 3)) (hN h) 3 (iI 1)) := ⟨_, rfl⟩
  have gx : Gx 1 4 h (sI (hA h 101 4) F) := Gx.row F fun x hx => by
    rw [hF]
    funext s
    simp (disch := omega) only [up2_n, up1_n]
  have t1 := t.ext gx.1 gx.2.2.2
  have rx : Rx (hN h) a (sI (hA h 101 4) F) := by
    have er : hR (sI (hA h 101 4) F) a 0 = hR h a 0 := congrFun (gx.2.2.2 a a2).2.2.2 0
    refine ⟨by rw [hN_s, hN_a]; omega, by omega, by rw [er]; omega, by rw [hT_s, hT_a, up1_e], by rw [hL_s, hL_a, up1_e], fun k hk => ?_⟩
    rw [hI_s, hF]
    rcases (show k = 0 ∨ k = 1 ∨ k = 2 ∨ k = 3 by omega) with rfl | rfl | rfl | rfl
    · simp (disch := omega) only [up2_n, up2_e]; rfl
    · simp (disch := omega) only [up2_n, up2_e]; rfl
    · simp (disch := omega) only [up2_n, up2_e]; rfl
    · simp (disch := omega) only [up2_n, up2_e]; rfl
  have e1 : f_Sim_text_b332 (fun _ _ _ _ => none) h 320 a (iI 12) = f_Sim_text_l408 FU (sI (hA h 101 4) F) 320 a (hN h) (iI 0) := by
    rw [hF]
    have n1 : (12 : Int) ≤ 12 := Int.le_refl _
    clear gx t1 rx hv vQ st0 t
    simp only [f_Sim_text_b332, nI_L, z_i, i4]
    simp (disch := first | decide | omega) only [↓lq_E, ↓reduceIte, Nat.add_zero, true_and, and_true, gd_T, bn_S, bv_S, lq_E, wI_s, sI_s, hI_s, hT_s, hL_s, hR_s, hJ_s, hN_s, hU_s, hN_a, hU_a, hT_a, hL_a, hI_a, hR_a, hJ_a, up1_e, up1_n, z_i, iI_lt, iI_le, iI_eq, iI_ix, Int.toNat_natCast, toNat_L, n1, gd_P, inb, ix]
  have lC1 : ∀ i, i < 4 → lenB (tkCs g i) ≤ 17 := fun i hi => by
    unfold tkCs
    split
    · exact Nat.zero_le _
    · have := kbG hi
      show 5 + 1 + (kb (18 + i) + 1 + (3 + 0 + (1 + 0 + 0))) ≤ 17
      omega
  obtain ⟨h2, e2, t2, c2, -⟩ := loopT (fun fu h' i => f_Sim_text_l408 fu h' 320 a (hN h) (iI (i : Int))) (fun h' => f_Sim_text_l477 FU h' 320 a (337 + n + m + p + b) (iI (no : Int)) (iI 0)) (tkCs g) 4 5 17 (Rx (hN h) a) (by
    intro fu i h' bs hi hl t x
    by_cases c : g (43 + i) 1 = fP i
    · have hm := t.sm hNm hs0
      refine ⟨h', ?_, by unfold tkCs; rw [if_pos c, show fl [] = [] from rfl, List.append_nil]; exact t, (Co.refl h').mono (by omega), x⟩
      show f_Sim_text_b408 (f_Sim_text_l408 fu) h' 320 a (hN h) (iI (i : Int)) = _
      unfold f_Sim_text_b408
      rw [if_neg (by rw [nI_L, iI_le (by omega) (by omega) (by omega) (by omega)]; omega), gd_P hm.1.t, gd_P (hm.1.c1 hi), gd_P ⟨x.2.2.2.1, by rw [x.2.2.2.2.1]; exact inb_i hi (by omega)⟩, if_pos (by rw [hm.c3 hi, ix_i (by omega), x.2.2.2.2.2 i hi, c])]
      unfold f_Sim_text_b459
      rw [lq_E, nI_L, iI_add]
      rfl
    · obtain ⟨h3, k1, k2, k3, k4⟩ := txC hNm hs0 st0 vQ t x (by omega) hi c (f_Sim_text_l408 fu)
      exact ⟨h3, k1, by unfold tkCs; rw [if_neg c]; exact k2, k3, k4⟩) (by
    intro fu h' bs t _
    have hm := t.sm hNm hs0
    show f_Sim_text_b408 (f_Sim_text_l408 fu) h' 320 a (hN h) (iI 4) = _
    unfold f_Sim_text_b408
    rw [if_pos (by rw [nI_L, iI_le (by omega) (by omega) (by omega) (by omega)]; omega), gd_P hm.1.t, hm.1.r17, lq_E, gd_P hm.1.tor, hm.1.lor, nI_i, nI_L, lq_E]) lC1 (by unfold FU; omega) t1 rx (by omega)
  have l2 := Nat.le_trans (fl_len (lnS (tkCs g) 4)) (lenLn lC1)
  generalize lnS (tkCs g) 4 = A1 at *
  have lO1 : ∀ i, i < no → lenB (tkO n m p b (O i)) ≤ 110 := fun i hi => lenO (by have := (hW i hi).2.2.1; omega)
  obtain ⟨h3, e3, t3, c3, -⟩ := loopT (fun fu h' i => f_Sim_text_l477 fu h' 320 a (337 + n + m + p + b) (iI (no : Int)) (iI (i : Int))) (fun h' => f_Sim_text_b477 (fun _ _ _ _ _ _ => none) h' 320 a (337 + n + m + p + b) (iI (no : Int)) (iI (no : Int))) (fun i => tkO n m p b (O i)) no 60 110 (fun _ => True) (by
    intro fu i h' bs hi hl t _
    obtain ⟨h', k1, k2, k3⟩ := txO hNm hs0 st0 t (by omega) hi (by omega) (hW i hi) (f_Sim_text_l477 fu)
    exact ⟨h', k1, k2, k3, trivial⟩) (by
    intro fu h' bs t _
    show f_Sim_text_b477 (f_Sim_text_l477 fu) h' 320 a (337 + n + m + p + b) (iI (no : Int)) (iI (no : Int)) = _
    have c : iI (no : Int) ≤ iI (no : Int) := by rw [iI_le (by omega) (by omega) (by omega) (by omega)]; omega
    unfold f_Sim_text_b477
    simp only [if_pos c]) lO1 (by unfold FU; omega) t2 trivial (by rw [List.length_append]; omega)
  have l3 := Nat.le_trans (fl_len (lnS (fun i => tkO n m p b (O i)) no)) (lenLn lO1)
  generalize lnS (fun i => tkO n m p b (O i)) no = A2 at *
  obtain ⟨hf, k1, k2, k3, k4, k5, k6⟩ := toString_E t3.1
  refine ⟨hf, hN h3, ?_, by rw [fl_app, ← List.append_assoc]; exact k2, by omega, by omega, fun x hx => (t3.2.2.2 x hx).trans (k6 x (by have := t3.2.2.1; omega)), ?_, by rw [fl_app, List.length_append]; omega, t3.2.2.1, by have := t3.2.2.1; omega⟩
  · refine e1.trans (e2.trans (e3.trans ?_))
    unfold f_Sim_text_b477
    rw [if_pos (by rw [iI_le (by omega) (by omega) (by omega) (by omega)]; omega), gd_P t3.1.1, bn_C k1]
  · have cA : Co 1 h (sI (hA h 101 4) F) := ⟨gx.1, gx.2.1, by have := gx.2.2.1; omega⟩
    have cZ : Co 2 h3 hf := ⟨by omega, by omega, by omega⟩
    exact (((cA.trans c2).trans c3).trans cZ).mono (by omega)
theorem text_E (hNm : Nm n m p b) (hs0 : Sm xA n m p b no O h0 g) (st0 : St h0) (hv : Iv n m p b T C Pb g) (hno : no ≤ 7) (hW : ∀ i, i < no → Wk n m p b (O i)) : ∃ h' s, f_Sim_text h0 320 = some (h', s) ∧ Str h' s (fl (tkAll n m p b no O g)) ∧ s < hN h' ∧ hR h' s 0 < hN h' ∧ (∀ x, x < hN h0 → E4 h0 h' x) ∧ Co 609 h0 h' ∧ (fl (tkAll n m p b no O g)).length ≤ 1516 ∧ hN h0 ≤ s ∧ hN h0 ≤ hR h' s 0 := by
  obtain ⟨h1, bs, a1, a2, a3, a4, a5⟩ := text1_E hNm hs0 st0 hv
  obtain ⟨h2, b1, b2, b3, b4⟩ := text2_E hNm hs0 st0 hv a2 a4
  obtain ⟨h3, s, c1, c2, c3, c4, c5, c6, c7, c8⟩ := text3_E hNm hs0 st0 hv hno hW b2 (by rw [List.length_append]; omega)
  have eq1 : (bs ++ fl (tkVs g ++ lnS (tkHs g) 12)) ++ fl (lnS (tkCs g) 4 ++ lnS (fun i => tkO n m p b (O i)) no) = fl (tkAll n m p b no O g) := by
    rw [a5]
    unfold tkAll
    simp only [fl_app, List.append_assoc]
  rw [eq1] at c2
  refine ⟨h3, s, a1.trans (b1.trans c1), c2, c3, c4, c5, ((a3.trans b3).trans c6).mono (by omega), ?_, c8⟩
  rw [← eq1, List.length_append, List.length_append]
  omega
end

/-! 98w L3: the lines, read (written by l3/gen98w.py) -/
section
variable {hb : AH} {K r : List Nat} {ds : List (Nat × Nat)} {ps : Nat}
theorem lnG : Rd hb K (fun h => f_Grammar_readsLine h 254) (1 :: 55 :: 2 :: 56 :: 3 :: 56 :: 4 :: 56 :: 44 :: r) ds ps (44 :: r) ds (ps + 8) := by
  intro h g
  obtain ⟨h1, e1, g1⟩ := nameOf_E g (by decide)
  obtain ⟨h2, e2, g2⟩ := numberOf_E g1 (by decide)
  obtain ⟨h3, e3, g3⟩ := numberOf_E g2 (by decide)
  obtain ⟨h4, e4, g4⟩ := numberOf_E g3 (by decide)
  refine ⟨h4, ?_, g4⟩
  show f_Grammar_readsLine h 254 = _
  unfold f_Grammar_readsLine
  rw [gd_P g.t, g.cu, lq_E, if_pos rfl, bn_C e1, if_neg (by decide), gd_P g1.t, bn_C e2, if_neg (by decide), gd_P g2.t, bn_C e3, if_neg (by decide), gd_P g3.t, bn_C e4, if_neg (by decide)]
  rfl
theorem lnR : Rd hb K (fun h => f_Grammar_readsLine h 254) (5 :: 55 :: 6 :: 56 :: 44 :: r) ds ps (44 :: r) ds (ps + 4) := by
  intro h g
  obtain ⟨h1, e1, g1⟩ := nameOf_E g (by decide)
  obtain ⟨h2, e2, g2⟩ := numberOf_E g1 (by decide)
  refine ⟨h2, ?_, g2⟩
  show f_Grammar_readsLine h 254 = _
  unfold f_Grammar_readsLine
  rw [gd_P g.t, g.cu, lq_E, if_neg (by decide), if_neg (by decide), if_neg (by decide), if_neg (by decide), if_pos rfl, bn_C e1, if_neg (by decide), gd_P g1.t, bn_C e2, if_neg (by decide)]
  rfl
theorem lnP : Rd hb K (fun h => f_Grammar_readsLine h 254) (7 :: 55 :: 8 :: 55 :: 9 :: 55 :: 10 :: 56 :: 44 :: r) ds ps (44 :: r) ds (ps + 8) := by
  intro h g
  obtain ⟨h1, e1, g1⟩ := nameOf_E g (by decide)
  obtain ⟨h2, e2, g2⟩ := nameOf_E g1 (by decide)
  obtain ⟨h3, e3, g3⟩ := nameOf_E g2 (by decide)
  obtain ⟨h4, e4, g4⟩ := numberOf_E g3 (by decide)
  refine ⟨h4, ?_, g4⟩
  show f_Grammar_readsLine h 254 = _
  unfold f_Grammar_readsLine
  rw [gd_P g.t, g.cu, lq_E, if_neg (by decide), if_neg (by decide), if_neg (by decide), if_neg (by decide), if_neg (by decide), if_neg (by decide), if_pos rfl, bn_C e1, if_neg (by decide), gd_P g1.t, bn_C e2, if_neg (by decide), gd_P g2.t, bn_C e3, if_neg (by decide), gd_P g3.t, bn_C e4, if_neg (by decide)]
  rfl
theorem lnB : Rd hb K (fun h => f_Grammar_readsLine h 254) (11 :: 55 :: 6 :: 56 :: 12 :: 56 :: 44 :: r) ds ps (44 :: r) ds (ps + 6) := by
  intro h g
  obtain ⟨h1, e1, g1⟩ := nameOf_E g (by decide)
  obtain ⟨h2, e2, g2⟩ := numberOf_E g1 (by decide)
  obtain ⟨h3, e3, g3⟩ := numberOf_E g2 (by decide)
  refine ⟨h3, ?_, g3⟩
  show f_Grammar_readsLine h 254 = _
  unfold f_Grammar_readsLine
  rw [gd_P g.t, g.cu, lq_E, if_neg (by decide), if_neg (by decide), if_neg (by decide), if_neg (by decide), if_neg (by decide), if_neg (by decide), if_neg (by decide), if_neg (by decide), if_neg (by decide), if_neg (by decide), if_pos rfl, bn_C e1, if_neg (by decide), gd_P g1.t, bn_C e2, if_neg (by decide), gd_P g2.t, bn_C e3, if_neg (by decide)]
  rfl
theorem lnV : Rd hb K (fun h => f_Grammar_readsLine h 254) (13 :: 56 :: 14 :: 56 :: 44 :: r) ds ps (44 :: r) ds (ps + 4) := by
  intro h g
  obtain ⟨h1, e1, g1⟩ := numberOf_E g (by decide)
  obtain ⟨h2, e2, g2⟩ := numberOf_E g1 (by decide)
  refine ⟨h2, ?_, g2⟩
  show f_Grammar_readsLine h 254 = _
  unfold f_Grammar_readsLine
  rw [gd_P g.t, g.cu, lq_E, if_neg (by decide), if_neg (by decide), if_neg (by decide), if_neg (by decide), if_neg (by decide), if_neg (by decide), if_neg (by decide), if_neg (by decide), if_neg (by decide), if_neg (by decide), if_neg (by decide), if_neg (by decide), if_pos rfl, bn_C e1, if_neg (by decide), gd_P g1.t, bn_C e2, if_neg (by decide)]
  rfl
theorem lnH : Rd hb K (fun h => f_Grammar_readsLine h 254) (15 :: 56 :: 16 :: 56 :: 44 :: r) ds ps (44 :: r) ds (ps + 4) := by
  intro h g
  obtain ⟨h1, e1, g1⟩ := numberOf_E g (by decide)
  obtain ⟨h2, e2, g2⟩ := numberOf_E g1 (by decide)
  refine ⟨h2, ?_, g2⟩
  show f_Grammar_readsLine h 254 = _
  unfold f_Grammar_readsLine
  rw [gd_P g.t, g.cu, lq_E, if_neg (by decide), if_neg (by decide), if_neg (by decide), if_neg (by decide), if_neg (by decide), if_neg (by decide), if_neg (by decide), if_neg (by decide), if_neg (by decide), if_neg (by decide), if_neg (by decide), if_neg (by decide), if_neg (by decide), if_neg (by decide), if_pos rfl, bn_C e1, if_neg (by decide), gd_P g1.t, bn_C e2, if_neg (by decide)]
  rfl
theorem lnC {gk : Nat} (hg : isGr gk) : Rd hb K (fun h => f_Grammar_readsLine h 254) (17 :: gk :: 56 :: 44 :: r) ds ps (44 :: r) ds (ps + 3) := by
  intro h g
  obtain ⟨h1, e1, g1⟩ := rdy g (by decide)
  obtain ⟨h2, e2, g2⟩ := rdy g1 (by unfold isGr at hg; omega)
  obtain ⟨h3, e3, g3⟩ := rdy g2 (by decide)
  refine ⟨h3, ?_, g3⟩
  show f_Grammar_readsLine h 254 = _
  unfold f_Grammar_readsLine
  rw [gd_P g.t, g.cu, lq_E, if_neg (by decide), if_neg (by decide), if_neg (by decide), if_neg (by decide), if_neg (by decide), if_neg (by decide), if_neg (by decide), if_neg (by decide), if_neg (by decide), if_neg (by decide), if_neg (by decide), if_neg (by decide), if_neg (by decide), if_neg (by decide), if_neg (by decide), if_neg (by decide), if_pos rfl, bn_C e1, if_neg (by decide), gd_P g1.t, g1.cu, bn_C (isGrade_y hg), if_neg (by decide), gd_P g1.t, g1.cu, bn_C e2, if_neg (by decide), gd_P g2.t, bn_C e3, if_neg (by decide)]
  rfl
theorem owt {k : Nat} {q : List Nat} {dq : List (Nat × Nat)} {l : Nat} (hk : k = 22 ∨ k = 25) (v : Rd hb K (fun h => gG 60 0 h 254 (nI 0) (nI 0)) q ds (ps + 3) (44 :: r) (ds ++ dq) (ps + 3 + l)) (hd : (ds ++ dq).length < 400) : Rd hb K (fun h => f_Grammar_readsLine h 254) (k :: 55 :: 26 :: q) ds ps (44 :: r) (ds ++ (dq ++ [(k, ps + 1)])) (ps + 3 + l) := by
  intro h g
  obtain ⟨h1, e1, g1⟩ := nameOf_E g (by omega)
  obtain ⟨h2, e2, g2⟩ := rdy g1 (by decide)
  obtain ⟨h3, e3, g3⟩ := v h2 g2
  obtain ⟨h4, e4, g4⟩ := adn (k := k) (v := ps + 1) g3 hd
  rw [List.append_assoc] at g4
  refine ⟨h4, ?_, g4⟩
  have e3' : gG GN 0 h2 254 (nI 0) (nI 0) = some (h3, iI 1) := e3
  have e : f_Grammar_readsOrderWithTest h 254 (nI k) = some (h4, iI 1) := by
    unfold f_Grammar_readsOrderWithTest
    rw [gd_P g.t, g.p1, lq_E, bn_C e1, if_neg (by decide), gd_P g1.t, bn_C e2, if_neg (by decide), gd_P g2.t, bn_C e3', if_pos (by decide), gd_P g3.t, g3.r1, gd_P g3.tO, e4, bv_S]
    rfl
  show f_Grammar_readsLine h 254 = _
  unfold f_Grammar_readsLine
  rw [gd_P g.t, g.cu, lq_E]
  rcases hk with rfl | rfl
  · rw [if_neg (by decide), if_neg (by decide), if_neg (by decide), if_neg (by decide), if_neg (by decide), if_neg (by decide), if_neg (by decide), if_neg (by decide), if_neg (by decide), if_neg (by decide), if_neg (by decide), if_neg (by decide), if_neg (by decide), if_neg (by decide), if_neg (by decide), if_neg (by decide), if_neg (by decide), if_neg (by decide), if_neg (by decide), if_neg (by decide), if_neg (by decide), if_pos rfl, bn_C e, gd_P nrm3]
  · rw [if_neg (by decide), if_neg (by decide), if_neg (by decide), if_neg (by decide), if_neg (by decide), if_neg (by decide), if_neg (by decide), if_neg (by decide), if_neg (by decide), if_neg (by decide), if_neg (by decide), if_neg (by decide), if_neg (by decide), if_neg (by decide), if_neg (by decide), if_neg (by decide), if_neg (by decide), if_neg (by decide), if_neg (by decide), if_neg (by decide), if_neg (by decide), if_neg (by decide), if_neg (by decide), if_neg (by decide), if_pos rfl, bn_C e, gd_P nrm3]
theorem lod {gk : Nat} {q q2 : List Nat} {dq : List (Nat × Nat)} {l : Nat} (hg : isGr gk) (v : Rd hb K (fun h => gG 60 3 h 254 (nI 0) (nI 0)) q ds (ps + 3) (8 :: gk :: q2) (ds ++ dq) (ps + 3 + l)) (hd : (ds ++ dq).length < 400) {h : AH} (g : GSt hb K (23 :: 55 :: 24 :: q) ds ps h) :
    ∃ h6 : AH, GSt hb K q2 (ds ++ (dq ++ [(56, ps + 3 + l + 1)])) (ps + 3 + l + 2) h6 ∧ (f_Grammar_readsLoading h 254 = bn (f_Grammar_reads h6 254 (nI 26)) fun h30 r31 =>
      if ¬ r31 = 0 then
        gd (hT h30 254 = 10) <|
        bn (gG GN 0 h30 254 (nI 0) (nI 0)) fun h34 r35 =>
        if ¬ r35 = 0 then
          f_Grammar_readsLoading_b115 h34 254 (iI ((ps + 1 : Nat) : Int))
        else
          some (h34, (nI 0))
      else
        gd (hT h30 254 = 10) <|
        gd (hT h30 (hR h30 254 1) = 2) <|
        bv (f_Orders_add h30 (hR h30 254 1) (nI 60) (hI h30 254 2)) fun h39 =>
        f_Grammar_readsLoading_b115 h39 254 (iI ((ps + 1 : Nat) : Int))) := by
  obtain ⟨h1, e1, g1⟩ := nameOf_E g (by decide)
  obtain ⟨h2, e2, g2⟩ := rdy g1 (by decide)
  obtain ⟨h3, e3, g3⟩ := v h2 g2
  obtain ⟨h4, e4, g4⟩ := rdy g3 (by decide)
  obtain ⟨h5, e5, g5⟩ := adn (k := 56) (v := ps + 3 + l + 1) g4 hd
  obtain ⟨h6, e6, g6⟩ := rdy g5 (by unfold isGr at hg; omega)
  rw [List.append_assoc] at g6
  refine ⟨h6, g6, ?_⟩
  have e3' : gG GN 3 h2 254 (nI 0) (nI 0) = some (h3, iI 1) := e3
  unfold f_Grammar_readsLoading
  rw [gd_P g.t, g.p1, lq_E, bn_C e1, if_neg (by decide), gd_P g1.t, bn_C e2, if_neg (by decide), gd_P g2.t, bn_C e3', if_neg (by decide), gd_P g3.t, bn_C e4, if_pos (by decide), gd_P g4.t, g4.r1, gd_P g4.tO, g4.pz, e5, bv_S, gd_P g5.t, g5.cu, bn_C (isGrade_y hg), if_neg (by decide), gd_P g5.t, g5.cu, bn_C e6, if_pos (by decide), gd_P g6.t]
theorem lod1 {gk : Nat} {q : List Nat} {dq : List (Nat × Nat)} {l : Nat} (hg : isGr gk) (v : Rd hb K (fun h => gG 60 3 h 254 (nI 0) (nI 0)) q ds (ps + 3) (8 :: gk :: 44 :: r) (ds ++ dq) (ps + 3 + l)) (hd : ds.length + dq.length ≤ 390) : Rd hb K (fun h => f_Grammar_readsLine h 254) (23 :: 55 :: 24 :: q) ds ps (44 :: r) (ds ++ (dq ++ [(56, ps + 3 + l + 1), (60, ps + 3 + l + 2), (23, ps + 1)])) (ps + 3 + l + 2) := by
  intro h g
  obtain ⟨h6, g6, e⟩ := lod hg v (by rw [List.length_append]; omega) g
  obtain ⟨h7, e7, g7⟩ := adn (k := 60) (v := ps + 3 + l + 2) g6 (by simp only [List.length_append, List.length_singleton]; omega)
  obtain ⟨h8, e8, g8⟩ := adn (k := 23) (v := ps + 1) g7 (by simp only [List.length_append, List.length_singleton]; omega)
  simp only [List.append_assoc, List.cons_append, List.nil_append] at g8
  refine ⟨h8, ?_, g8⟩
  rw [bn_C (rdn g6 (by decide) (nz (by decide))), if_neg (by decide), gd_P g6.t, g6.r1, gd_P g6.tO, g6.pz, e7, bv_S] at e
  unfold f_Grammar_readsLoading_b115 at e
  rw [gd_P g7.t, g7.r1, gd_P g7.tO, e8, bv_S] at e
  show f_Grammar_readsLine h 254 = _
  unfold f_Grammar_readsLine
  rw [gd_P g.t, g.cu, lq_E, if_neg (by decide), if_neg (by decide), if_neg (by decide), if_neg (by decide), if_neg (by decide), if_neg (by decide), if_neg (by decide), if_neg (by decide), if_neg (by decide), if_neg (by decide), if_neg (by decide), if_neg (by decide), if_neg (by decide), if_neg (by decide), if_neg (by decide), if_neg (by decide), if_neg (by decide), if_neg (by decide), if_neg (by decide), if_neg (by decide), if_neg (by decide), if_neg (by decide), if_pos rfl, bn_C e, show nI 1 = iI 1 from rfl, gd_P nrm3]
theorem lod2 {gk : Nat} {q q2 : List Nat} {dq d2 : List (Nat × Nat)} {l l2 : Nat} (hg : isGr gk) (v : Rd hb K (fun h => gG 60 3 h 254 (nI 0) (nI 0)) q ds (ps + 3) (8 :: gk :: 26 :: q2) (ds ++ dq) (ps + 3 + l)) (v2 : Rd hb K (fun h => gG 60 0 h 254 (nI 0) (nI 0)) q2 (ds ++ (dq ++ [(56, ps + 3 + l + 1)])) (ps + 3 + l + 3) (44 :: r) ((ds ++ (dq ++ [(56, ps + 3 + l + 1)])) ++ d2) (ps + 3 + l + 3 + l2)) (hd : ds.length + dq.length + d2.length ≤ 390) : Rd hb K (fun h => f_Grammar_readsLine h 254) (23 :: 55 :: 24 :: q) ds ps (44 :: r) (ds ++ (dq ++ ((56, ps + 3 + l + 1) :: (d2 ++ [(23, ps + 1)])))) (ps + 3 + l + 3 + l2) := by
  intro h g
  obtain ⟨h6, g6, e⟩ := lod hg v (by rw [List.length_append]; omega) g
  obtain ⟨h7, e7, g7⟩ := rdy g6 (by decide)
  obtain ⟨h8, e8, g8⟩ := v2 h7 g7
  obtain ⟨h9, e9, g9⟩ := adn (k := 23) (v := ps + 1) g8 (by simp only [List.length_append, List.length_singleton]; omega)
  simp only [List.append_assoc, List.cons_append, List.nil_append] at g9
  refine ⟨h9, ?_, g9⟩
  have e8' : gG GN 0 h7 254 (nI 0) (nI 0) = some (h8, iI 1) := e8
  rw [bn_C e7, if_pos (by decide), gd_P g7.t, bn_C e8', if_pos (by decide)] at e
  unfold f_Grammar_readsLoading_b115 at e
  rw [gd_P g8.t, g8.r1, gd_P g8.tO, e9, bv_S] at e
  show f_Grammar_readsLine h 254 = _
  unfold f_Grammar_readsLine
  rw [gd_P g.t, g.cu, lq_E, if_neg (by decide), if_neg (by decide), if_neg (by decide), if_neg (by decide), if_neg (by decide), if_neg (by decide), if_neg (by decide), if_neg (by decide), if_neg (by decide), if_neg (by decide), if_neg (by decide), if_neg (by decide), if_neg (by decide), if_neg (by decide), if_neg (by decide), if_neg (by decide), if_neg (by decide), if_neg (by decide), if_neg (by decide), if_neg (by decide), if_neg (by decide), if_neg (by decide), if_pos rfl, bn_C e, show nI 1 = iI 1 from rfl, gd_P nrm3]
end

/-! THEIR ANSWERS ARE RUNS (written by wip/p29/gen_sh.py) -/
set_option maxRecDepth 100000 in
set_option maxHeartbeats 4000000 in
theorem f_Grammar_readsLoading_b115_ev {h' : AH} {r : Int32} (d : Nat) (hd : 63 ≤ d)  (h : AH) (a0 : Nat) (a1 : Int32)   (e : f_Grammar_readsLoading_b115  h a0 a1 = some (h', r)) : Eb (Ev tb mL d) 171 (115, [.ref a0, .int a1], [], h) h' (some (.int r)) := by
  unfold f_Grammar_readsLoading_b115 at e
  refine eb_n 1 (116, [.ref a0, .int a1], [.ref a0], h) (rfl) ?_
  obtain ⟨g1, e⟩ := gd_some e
  refine eb_g (p := hT h a0 = 10) (119, [.ref a0, .int a1], [.ref (hR h a0 1)], h) rfl g1 ?_
  refine eb_n 2 (122, [.ref a0, .int a1], [.int a1, .int (nI 23), .ref (hR h a0 1)], h) (rfl) ?_
  obtain ⟨g2, e⟩ := gd_some e
  obtain ⟨h3, eh3, e⟩ := bv_some e
  refine eb_cg (p := hT h (hR h a0 1) = 2) rfl g2 (f_Orders_add_ev d (Nat.le_trans (by decide) hd) eh3) ?_
  show Eb _ 171 (125, [.ref a0, .int a1], [], h3) _ _
  refine eb_n 1 (126, [.ref a0, .int a1], [.int (nI 1)], h3) (rfl) ?_
  rw [(sp_inj e).1, (sp_inj e).2]
  exact eb_rg (p := nrm 3 (nI 1)) rfl nrm_31
set_option maxRecDepth 100000 in
set_option maxHeartbeats 4000000 in
theorem f_Grammar_readsLoading_ev (d0 : Nat) (hd0 : 64 ≤ d0) {h' : AH} {r : Int32} {h : AH} {a0 : Nat} (e : f_Grammar_readsLoading h a0 = some (h', r)) : Ev tb mL d0 171 [.ref a0] h h' (some (.int r)) := by
  obtain ⟨d, rfl⟩ : ∃ d, d0 = d + 1 := ⟨d0 - 1, by omega⟩
  have hd : 63 ≤ d := by omega
  refine ⟨Nat.le_of_ble_eq_true rfl, ?_⟩
  show Eb (Ev tb mL d) 171 (0, [.ref a0, .retAddr 0], [], h) h' (some (.int r))
  unfold f_Grammar_readsLoading at e
  refine eb_n 1 (1, [.ref a0, .retAddr 0], [.ref a0], h) (rfl) ?_
  obtain ⟨g1, e⟩ := gd_some e
  refine eb_g (p := hT h a0 = 10) (4, [.ref a0, .retAddr 0], [.int (hI h a0 2)], h) rfl g1 ?_
  obtain ⟨x2, hx2, e⟩ := lq_some e
  refine eb_n 3 (7, [.ref a0, .int x2], [], h) (by subst hx2; rfl) ?_
  refine eb_n 2 (10, [.ref a0, .int x2], [.int (nI 23), .ref a0], h) (rfl) ?_
  obtain ⟨h3, r4, eh3, e⟩ := bn_some e
  refine eb_cg (p := hT h a0 = 10) rfl g1 (f_Grammar_readsNameOf_ev d (Nat.le_trans (by decide) hd) eh3) ?_
  show Eb _ 171 (13, [.ref a0, .int x2], [.int r4], h3) _ _
  refine eb_b (c := r4 = 0) (42, [.ref a0, .int x2], [], h3) (16, [.ref a0, .int x2], [], h3) rfl (fun c5 => ?_) (fun c5 => ?_)
  · replace e := ite_t c5 e
    refine eb_n 1 (43, [.ref a0, .int x2], [.int (nI 0)], h3) (rfl) ?_
    rw [(sp_inj e).1, (sp_inj e).2]
    exact eb_rg (p := nrm 3 (nI 0)) rfl nrm_30
  · replace e := ite_f c5 e
    refine eb_n 2 (19, [.ref a0, .int x2], [.int (nI 24), .ref a0], h3) (rfl) ?_
    obtain ⟨g6, e⟩ := gd_some e
    obtain ⟨h7, r8, eh7, e⟩ := bn_some e
    refine eb_cg (p := hT h3 a0 = 10) rfl g6 (f_Grammar_reads_ev d (Nat.le_trans (by decide) hd) eh7) ?_
    show Eb _ 171 (22, [.ref a0, .int x2], [.int r8], h7) _ _
    refine eb_b (c := r8 = 0) (42, [.ref a0, .int x2], [], h7) (25, [.ref a0, .int x2], [], h7) rfl (fun c9 => ?_) (fun c9 => ?_)
    · replace e := ite_t c9 e
      refine eb_n 1 (43, [.ref a0, .int x2], [.int (nI 0)], h7) (rfl) ?_
      rw [(sp_inj e).1, (sp_inj e).2]
      exact eb_rg (p := nrm 3 (nI 0)) rfl nrm_30
    · replace e := ite_f c9 e
      refine eb_n 2 (27, [.ref a0, .int x2], [.int (nI 0), .ref a0], h7) (rfl) ?_
      obtain ⟨g10, e⟩ := gd_some e
      obtain ⟨h11, r12, eh11, e⟩ := bn_some e
      refine eb_cg (p := hT h7 a0 = 10) rfl g10 (gG_ev_3 d (Nat.le_trans (by decide) hd) eh11) ?_
      show Eb _ 171 (30, [.ref a0, .int x2], [.int r12], h11) _ _
      refine eb_b (c := r12 = 0) (42, [.ref a0, .int x2], [], h11) (33, [.ref a0, .int x2], [], h11) rfl (fun c13 => ?_) (fun c13 => ?_)
      · replace e := ite_t c13 e
        refine eb_n 1 (43, [.ref a0, .int x2], [.int (nI 0)], h11) (rfl) ?_
        rw [(sp_inj e).1, (sp_inj e).2]
        exact eb_rg (p := nrm 3 (nI 0)) rfl nrm_30
      · replace e := ite_f c13 e
        refine eb_n 2 (36, [.ref a0, .int x2], [.int (nI 8), .ref a0], h11) (rfl) ?_
        obtain ⟨g14, e⟩ := gd_some e
        obtain ⟨h15, r16, eh15, e⟩ := bn_some e
        refine eb_cg (p := hT h11 a0 = 10) rfl g14 (f_Grammar_reads_ev d (Nat.le_trans (by decide) hd) eh15) ?_
        show Eb _ 171 (39, [.ref a0, .int x2], [.int r16], h15) _ _
        refine eb_b (c := ¬ r16 = 0) (44, [.ref a0, .int x2], [], h15) (42, [.ref a0, .int x2], [], h15) rfl (fun c17 => ?_) (fun c17 => ?_)
        · replace e := ite_t c17 e
          refine eb_n 1 (45, [.ref a0, .int x2], [.ref a0], h15) (rfl) ?_
          obtain ⟨g18, e⟩ := gd_some e
          refine eb_g (p := hT h15 a0 = 10) (48, [.ref a0, .int x2], [.ref (hR h15 a0 1)], h15) rfl g18 ?_
          refine eb_n 2 (51, [.ref a0, .int x2], [.ref a0, .int (nI 56), .ref (hR h15 a0 1)], h15) (rfl) ?_
          refine eb_g (p := hT h15 a0 = 10) (54, [.ref a0, .int x2], [.int (hI h15 a0 2), .int (nI 56), .ref (hR h15 a0 1)], h15) rfl g18 ?_
          obtain ⟨g19, e⟩ := gd_some e
          obtain ⟨h20, eh20, e⟩ := bv_some e
          refine eb_cg (p := hT h15 (hR h15 a0 1) = 2) rfl g19 (f_Orders_add_ev d (Nat.le_trans (by decide) hd) eh20) ?_
          show Eb _ 171 (57, [.ref a0, .int x2], [], h20) _ _
          refine eb_n 1 (58, [.ref a0, .int x2], [.ref a0], h20) (rfl) ?_
          obtain ⟨g21, e⟩ := gd_some e
          refine eb_g (p := hT h20 a0 = 10) (61, [.ref a0, .int x2], [.int (hI h20 a0 3)], h20) rfl g21 ?_
          obtain ⟨h22, r23, eh22, e⟩ := bn_some e
          refine eb_c rfl (f_Grammar_isGrade_ev d (Nat.le_trans (by decide) hd) eh22) ?_
          show Eb _ 171 (64, [.ref a0, .int x2], [.int r23], h22) _ _
          refine eb_b (c := r23 = 0) (78, [.ref a0, .int x2], [], h22) (67, [.ref a0, .int x2], [], h22) rfl (fun c24 => ?_) (fun c24 => ?_)
          · replace e := ite_t c24 e
            refine eb_n 1 (79, [.ref a0, .int x2], [.int (nI 0)], h22) (rfl) ?_
            rw [(sp_inj e).1, (sp_inj e).2]
            exact eb_rg (p := nrm 3 (nI 0)) rfl nrm_30
          · replace e := ite_f c24 e
            refine eb_n 2 (69, [.ref a0, .int x2], [.ref a0, .ref a0], h22) (rfl) ?_
            obtain ⟨g25, e⟩ := gd_some e
            refine eb_g (p := hT h22 a0 = 10) (72, [.ref a0, .int x2], [.int (hI h22 a0 3), .ref a0], h22) rfl g25 ?_
            obtain ⟨h26, r27, eh26, e⟩ := bn_some e
            refine eb_cg (p := hT h22 a0 = 10) rfl g25 (f_Grammar_reads_ev d (Nat.le_trans (by decide) hd) eh26) ?_
            show Eb _ 171 (75, [.ref a0, .int x2], [.int r27], h26) _ _
            refine eb_b (c := ¬ r27 = 0) (80, [.ref a0, .int x2], [], h26) (78, [.ref a0, .int x2], [], h26) rfl (fun c28 => ?_) (fun c28 => ?_)
            · replace e := ite_t c28 e
              refine eb_n 2 (83, [.ref a0, .int x2], [.int (nI 26), .ref a0], h26) (rfl) ?_
              obtain ⟨g29, e⟩ := gd_some e
              obtain ⟨h30, r31, eh30, e⟩ := bn_some e
              refine eb_cg (p := hT h26 a0 = 10) rfl g29 (f_Grammar_reads_ev d (Nat.le_trans (by decide) hd) eh30) ?_
              show Eb _ 171 (86, [.ref a0, .int x2], [.int r31], h30) _ _
              refine eb_b (c := ¬ r31 = 0) (105, [.ref a0, .int x2], [], h30) (89, [.ref a0, .int x2], [], h30) rfl (fun c32 => ?_) (fun c32 => ?_)
              · replace e := ite_t c32 e
                refine eb_n 2 (107, [.ref a0, .int x2], [.int (nI 0), .ref a0], h30) (rfl) ?_
                obtain ⟨g33, e⟩ := gd_some e
                obtain ⟨h34, r35, eh34, e⟩ := bn_some e
                refine eb_cg (p := hT h30 a0 = 10) rfl g33 (gG_ev_0 d (Nat.le_trans (by decide) hd) eh34) ?_
                show Eb _ 171 (110, [.ref a0, .int x2], [.int r35], h34) _ _
                refine eb_b (c := ¬ r35 = 0) (115, [.ref a0, .int x2], [], h34) (113, [.ref a0, .int x2], [], h34) rfl (fun c36 => ?_) (fun c36 => ?_)
                · replace e := ite_t c36 e
                  exact f_Grammar_readsLoading_b115_ev d hd   _ _ _  e
                · replace e := ite_f c36 e
                  refine eb_n 1 (114, [.ref a0, .int x2], [.int (nI 0)], h34) (rfl) ?_
                  rw [(sp_inj e).1, (sp_inj e).2]
                  exact eb_rg (p := nrm 3 (nI 0)) rfl nrm_30
              · replace e := ite_f c32 e
                refine eb_n 1 (90, [.ref a0, .int x2], [.ref a0], h30) (rfl) ?_
                obtain ⟨g37, e⟩ := gd_some e
                refine eb_g (p := hT h30 a0 = 10) (93, [.ref a0, .int x2], [.ref (hR h30 a0 1)], h30) rfl g37 ?_
                refine eb_n 2 (96, [.ref a0, .int x2], [.ref a0, .int (nI 60), .ref (hR h30 a0 1)], h30) (rfl) ?_
                refine eb_g (p := hT h30 a0 = 10) (99, [.ref a0, .int x2], [.int (hI h30 a0 2), .int (nI 60), .ref (hR h30 a0 1)], h30) rfl g37 ?_
                obtain ⟨g38, e⟩ := gd_some e
                obtain ⟨h39, eh39, e⟩ := bv_some e
                refine eb_cg (p := hT h30 (hR h30 a0 1) = 2) rfl g38 (f_Orders_add_ev d (Nat.le_trans (by decide) hd) eh39) ?_
                show Eb _ 171 (102, [.ref a0, .int x2], [], h39) _ _
                refine eb_n 1 (115, [.ref a0, .int x2], [], h39) (rfl) ?_
                exact f_Grammar_readsLoading_b115_ev d hd   _ _ _  e
            · replace e := ite_f c28 e
              refine eb_n 1 (79, [.ref a0, .int x2], [.int (nI 0)], h26) (rfl) ?_
              rw [(sp_inj e).1, (sp_inj e).2]
              exact eb_rg (p := nrm 3 (nI 0)) rfl nrm_30
        · replace e := ite_f c17 e
          refine eb_n 1 (43, [.ref a0, .int x2], [.int (nI 0)], h15) (rfl) ?_
          rw [(sp_inj e).1, (sp_inj e).2]
          exact eb_rg (p := nrm 3 (nI 0)) rfl nrm_30
set_option maxRecDepth 100000 in
set_option maxHeartbeats 4000000 in
theorem f_Grammar_readsLine_ev (d0 : Nat) (hd0 : 65 ≤ d0) {h' : AH} {r : Int32} {h : AH} {a0 : Nat} (e : f_Grammar_readsLine h a0 = some (h', r)) : Ev tb mL d0 133 [.ref a0] h h' (some (.int r)) := by
  obtain ⟨d, rfl⟩ : ∃ d, d0 = d + 1 := ⟨d0 - 1, by omega⟩
  have hd : 64 ≤ d := by omega
  refine ⟨Nat.le_of_ble_eq_true rfl, ?_⟩
  show Eb (Ev tb mL d) 133 (0, [.ref a0], [], h) h' (some (.int r))
  unfold f_Grammar_readsLine at e
  refine eb_n 1 (1, [.ref a0], [.ref a0], h) (rfl) ?_
  obtain ⟨g1, e⟩ := gd_some e
  refine eb_g (p := hT h a0 = 10) (4, [.ref a0], [.int (hI h a0 3)], h) rfl g1 ?_
  obtain ⟨x2, hx2, e⟩ := lq_some e
  rw [← hx2]
  by_cases c3 : x2 = nI 1
  · replace e := ite_t c3 e
    refine eb_n 1 (120, [.ref a0], [], h) (by rw [c3]; rfl) ?_
    refine eb_n 2 (122, [.ref a0], [.int (nI 1), .ref a0], h) (rfl) ?_
    obtain ⟨h4, r5, eh4, e⟩ := bn_some e
    refine eb_cg (p := hT h a0 = 10) rfl g1 (f_Grammar_readsNameOf_ev d (Nat.le_trans (by decide) hd) eh4) ?_
    show Eb _ 133 (125, [.ref a0], [.int r5], h4) _ _
    refine eb_b (c := r5 = 0) (156, [.ref a0], [], h4) (128, [.ref a0], [], h4) rfl (fun c6 => ?_) (fun c6 => ?_)
    · replace e := ite_t c6 e
      refine eb_n 1 (157, [.ref a0], [.int (nI 0)], h4) (rfl) ?_
      rw [(sp_inj e).1, (sp_inj e).2]
      exact eb_rg (p := nrm 3 (nI 0)) rfl nrm_30
    · replace e := ite_f c6 e
      refine eb_n 2 (130, [.ref a0], [.int (nI 2), .ref a0], h4) (rfl) ?_
      obtain ⟨g7, e⟩ := gd_some e
      obtain ⟨h8, r9, eh8, e⟩ := bn_some e
      refine eb_cg (p := hT h4 a0 = 10) rfl g7 (f_Grammar_readsNumberOf_ev d (Nat.le_trans (by decide) hd) eh8) ?_
      show Eb _ 133 (133, [.ref a0], [.int r9], h8) _ _
      refine eb_b (c := r9 = 0) (156, [.ref a0], [], h8) (136, [.ref a0], [], h8) rfl (fun c10 => ?_) (fun c10 => ?_)
      · replace e := ite_t c10 e
        refine eb_n 1 (157, [.ref a0], [.int (nI 0)], h8) (rfl) ?_
        rw [(sp_inj e).1, (sp_inj e).2]
        exact eb_rg (p := nrm 3 (nI 0)) rfl nrm_30
      · replace e := ite_f c10 e
        refine eb_n 2 (138, [.ref a0], [.int (nI 3), .ref a0], h8) (rfl) ?_
        obtain ⟨g11, e⟩ := gd_some e
        obtain ⟨h12, r13, eh12, e⟩ := bn_some e
        refine eb_cg (p := hT h8 a0 = 10) rfl g11 (f_Grammar_readsNumberOf_ev d (Nat.le_trans (by decide) hd) eh12) ?_
        show Eb _ 133 (141, [.ref a0], [.int r13], h12) _ _
        refine eb_b (c := r13 = 0) (156, [.ref a0], [], h12) (144, [.ref a0], [], h12) rfl (fun c14 => ?_) (fun c14 => ?_)
        · replace e := ite_t c14 e
          refine eb_n 1 (157, [.ref a0], [.int (nI 0)], h12) (rfl) ?_
          rw [(sp_inj e).1, (sp_inj e).2]
          exact eb_rg (p := nrm 3 (nI 0)) rfl nrm_30
        · replace e := ite_f c14 e
          refine eb_n 2 (146, [.ref a0], [.int (nI 4), .ref a0], h12) (rfl) ?_
          obtain ⟨g15, e⟩ := gd_some e
          obtain ⟨h16, r17, eh16, e⟩ := bn_some e
          refine eb_cg (p := hT h12 a0 = 10) rfl g15 (f_Grammar_readsNumberOf_ev d (Nat.le_trans (by decide) hd) eh16) ?_
          show Eb _ 133 (149, [.ref a0], [.int r17], h16) _ _
          refine eb_b (c := r17 = 0) (156, [.ref a0], [], h16) (152, [.ref a0], [], h16) rfl (fun c18 => ?_) (fun c18 => ?_)
          · replace e := ite_t c18 e
            refine eb_n 1 (157, [.ref a0], [.int (nI 0)], h16) (rfl) ?_
            rw [(sp_inj e).1, (sp_inj e).2]
            exact eb_rg (p := nrm 3 (nI 0)) rfl nrm_30
          · replace e := ite_f c18 e
            refine eb_n 2 (157, [.ref a0], [.int (nI 1)], h16) (rfl) ?_
            rw [(sp_inj e).1, (sp_inj e).2]
            exact eb_rg (p := nrm 3 (nI 1)) rfl nrm_31
  replace e := ite_f c3 e
  by_cases c19 : x2 = nI 2
  · replace e := ite_t c19 e
    refine eb_n 1 (368, [.ref a0], [], h) (by rw [c19]; rfl) ?_
    refine eb_n 1 (369, [.ref a0], [.int (nI 0)], h) (rfl) ?_
    rw [(sp_inj e).1, (sp_inj e).2]
    exact eb_rg (p := nrm 3 (nI 0)) rfl nrm_30
  replace e := ite_f c19 e
  by_cases c20 : x2 = nI 3
  · replace e := ite_t c20 e
    refine eb_n 1 (368, [.ref a0], [], h) (by rw [c20]; rfl) ?_
    refine eb_n 1 (369, [.ref a0], [.int (nI 0)], h) (rfl) ?_
    rw [(sp_inj e).1, (sp_inj e).2]
    exact eb_rg (p := nrm 3 (nI 0)) rfl nrm_30
  replace e := ite_f c20 e
  by_cases c21 : x2 = nI 4
  · replace e := ite_t c21 e
    refine eb_n 1 (368, [.ref a0], [], h) (by rw [c21]; rfl) ?_
    refine eb_n 1 (369, [.ref a0], [.int (nI 0)], h) (rfl) ?_
    rw [(sp_inj e).1, (sp_inj e).2]
    exact eb_rg (p := nrm 3 (nI 0)) rfl nrm_30
  replace e := ite_f c21 e
  by_cases c22 : x2 = nI 5
  · replace e := ite_t c22 e
    refine eb_n 1 (158, [.ref a0], [], h) (by rw [c22]; rfl) ?_
    refine eb_n 2 (160, [.ref a0], [.int (nI 5), .ref a0], h) (rfl) ?_
    obtain ⟨h23, r24, eh23, e⟩ := bn_some e
    refine eb_cg (p := hT h a0 = 10) rfl g1 (f_Grammar_readsNameOf_ev d (Nat.le_trans (by decide) hd) eh23) ?_
    show Eb _ 133 (163, [.ref a0], [.int r24], h23) _ _
    refine eb_b (c := r24 = 0) (179, [.ref a0], [], h23) (166, [.ref a0], [], h23) rfl (fun c25 => ?_) (fun c25 => ?_)
    · replace e := ite_t c25 e
      refine eb_n 1 (180, [.ref a0], [.int (nI 0)], h23) (rfl) ?_
      rw [(sp_inj e).1, (sp_inj e).2]
      exact eb_rg (p := nrm 3 (nI 0)) rfl nrm_30
    · replace e := ite_f c25 e
      refine eb_n 2 (169, [.ref a0], [.int (nI 6), .ref a0], h23) (rfl) ?_
      obtain ⟨g26, e⟩ := gd_some e
      obtain ⟨h27, r28, eh27, e⟩ := bn_some e
      refine eb_cg (p := hT h23 a0 = 10) rfl g26 (f_Grammar_readsNumberOf_ev d (Nat.le_trans (by decide) hd) eh27) ?_
      show Eb _ 133 (172, [.ref a0], [.int r28], h27) _ _
      refine eb_b (c := r28 = 0) (179, [.ref a0], [], h27) (175, [.ref a0], [], h27) rfl (fun c29 => ?_) (fun c29 => ?_)
      · replace e := ite_t c29 e
        refine eb_n 1 (180, [.ref a0], [.int (nI 0)], h27) (rfl) ?_
        rw [(sp_inj e).1, (sp_inj e).2]
        exact eb_rg (p := nrm 3 (nI 0)) rfl nrm_30
      · replace e := ite_f c29 e
        refine eb_n 2 (180, [.ref a0], [.int (nI 1)], h27) (rfl) ?_
        rw [(sp_inj e).1, (sp_inj e).2]
        exact eb_rg (p := nrm 3 (nI 1)) rfl nrm_31
  replace e := ite_f c22 e
  by_cases c30 : x2 = nI 6
  · replace e := ite_t c30 e
    refine eb_n 1 (368, [.ref a0], [], h) (by rw [c30]; rfl) ?_
    refine eb_n 1 (369, [.ref a0], [.int (nI 0)], h) (rfl) ?_
    rw [(sp_inj e).1, (sp_inj e).2]
    exact eb_rg (p := nrm 3 (nI 0)) rfl nrm_30
  replace e := ite_f c30 e
  by_cases c31 : x2 = nI 7
  · replace e := ite_t c31 e
    refine eb_n 1 (181, [.ref a0], [], h) (by rw [c31]; rfl) ?_
    refine eb_n 2 (184, [.ref a0], [.int (nI 7), .ref a0], h) (rfl) ?_
    obtain ⟨h32, r33, eh32, e⟩ := bn_some e
    refine eb_cg (p := hT h a0 = 10) rfl g1 (f_Grammar_readsNameOf_ev d (Nat.le_trans (by decide) hd) eh32) ?_
    show Eb _ 133 (187, [.ref a0], [.int r33], h32) _ _
    refine eb_b (c := r33 = 0) (221, [.ref a0], [], h32) (190, [.ref a0], [], h32) rfl (fun c34 => ?_) (fun c34 => ?_)
    · replace e := ite_t c34 e
      refine eb_n 1 (222, [.ref a0], [.int (nI 0)], h32) (rfl) ?_
      rw [(sp_inj e).1, (sp_inj e).2]
      exact eb_rg (p := nrm 3 (nI 0)) rfl nrm_30
    · replace e := ite_f c34 e
      refine eb_n 2 (193, [.ref a0], [.int (nI 8), .ref a0], h32) (rfl) ?_
      obtain ⟨g35, e⟩ := gd_some e
      obtain ⟨h36, r37, eh36, e⟩ := bn_some e
      refine eb_cg (p := hT h32 a0 = 10) rfl g35 (f_Grammar_readsNameOf_ev d (Nat.le_trans (by decide) hd) eh36) ?_
      show Eb _ 133 (196, [.ref a0], [.int r37], h36) _ _
      refine eb_b (c := r37 = 0) (221, [.ref a0], [], h36) (199, [.ref a0], [], h36) rfl (fun c38 => ?_) (fun c38 => ?_)
      · replace e := ite_t c38 e
        refine eb_n 1 (222, [.ref a0], [.int (nI 0)], h36) (rfl) ?_
        rw [(sp_inj e).1, (sp_inj e).2]
        exact eb_rg (p := nrm 3 (nI 0)) rfl nrm_30
      · replace e := ite_f c38 e
        refine eb_n 2 (202, [.ref a0], [.int (nI 9), .ref a0], h36) (rfl) ?_
        obtain ⟨g39, e⟩ := gd_some e
        obtain ⟨h40, r41, eh40, e⟩ := bn_some e
        refine eb_cg (p := hT h36 a0 = 10) rfl g39 (f_Grammar_readsNameOf_ev d (Nat.le_trans (by decide) hd) eh40) ?_
        show Eb _ 133 (205, [.ref a0], [.int r41], h40) _ _
        refine eb_b (c := r41 = 0) (221, [.ref a0], [], h40) (208, [.ref a0], [], h40) rfl (fun c42 => ?_) (fun c42 => ?_)
        · replace e := ite_t c42 e
          refine eb_n 1 (222, [.ref a0], [.int (nI 0)], h40) (rfl) ?_
          rw [(sp_inj e).1, (sp_inj e).2]
          exact eb_rg (p := nrm 3 (nI 0)) rfl nrm_30
        · replace e := ite_f c42 e
          refine eb_n 2 (211, [.ref a0], [.int (nI 10), .ref a0], h40) (rfl) ?_
          obtain ⟨g43, e⟩ := gd_some e
          obtain ⟨h44, r45, eh44, e⟩ := bn_some e
          refine eb_cg (p := hT h40 a0 = 10) rfl g43 (f_Grammar_readsNumberOf_ev d (Nat.le_trans (by decide) hd) eh44) ?_
          show Eb _ 133 (214, [.ref a0], [.int r45], h44) _ _
          refine eb_b (c := r45 = 0) (221, [.ref a0], [], h44) (217, [.ref a0], [], h44) rfl (fun c46 => ?_) (fun c46 => ?_)
          · replace e := ite_t c46 e
            refine eb_n 1 (222, [.ref a0], [.int (nI 0)], h44) (rfl) ?_
            rw [(sp_inj e).1, (sp_inj e).2]
            exact eb_rg (p := nrm 3 (nI 0)) rfl nrm_30
          · replace e := ite_f c46 e
            refine eb_n 2 (222, [.ref a0], [.int (nI 1)], h44) (rfl) ?_
            rw [(sp_inj e).1, (sp_inj e).2]
            exact eb_rg (p := nrm 3 (nI 1)) rfl nrm_31
  replace e := ite_f c31 e
  by_cases c47 : x2 = nI 8
  · replace e := ite_t c47 e
    refine eb_n 1 (368, [.ref a0], [], h) (by rw [c47]; rfl) ?_
    refine eb_n 1 (369, [.ref a0], [.int (nI 0)], h) (rfl) ?_
    rw [(sp_inj e).1, (sp_inj e).2]
    exact eb_rg (p := nrm 3 (nI 0)) rfl nrm_30
  replace e := ite_f c47 e
  by_cases c48 : x2 = nI 9
  · replace e := ite_t c48 e
    refine eb_n 1 (368, [.ref a0], [], h) (by rw [c48]; rfl) ?_
    refine eb_n 1 (369, [.ref a0], [.int (nI 0)], h) (rfl) ?_
    rw [(sp_inj e).1, (sp_inj e).2]
    exact eb_rg (p := nrm 3 (nI 0)) rfl nrm_30
  replace e := ite_f c48 e
  by_cases c49 : x2 = nI 10
  · replace e := ite_t c49 e
    refine eb_n 1 (368, [.ref a0], [], h) (by rw [c49]; rfl) ?_
    refine eb_n 1 (369, [.ref a0], [.int (nI 0)], h) (rfl) ?_
    rw [(sp_inj e).1, (sp_inj e).2]
    exact eb_rg (p := nrm 3 (nI 0)) rfl nrm_30
  replace e := ite_f c49 e
  by_cases c50 : x2 = nI 11
  · replace e := ite_t c50 e
    refine eb_n 1 (223, [.ref a0], [], h) (by rw [c50]; rfl) ?_
    refine eb_n 2 (226, [.ref a0], [.int (nI 11), .ref a0], h) (rfl) ?_
    obtain ⟨h51, r52, eh51, e⟩ := bn_some e
    refine eb_cg (p := hT h a0 = 10) rfl g1 (f_Grammar_readsNameOf_ev d (Nat.le_trans (by decide) hd) eh51) ?_
    show Eb _ 133 (229, [.ref a0], [.int r52], h51) _ _
    refine eb_b (c := r52 = 0) (254, [.ref a0], [], h51) (232, [.ref a0], [], h51) rfl (fun c53 => ?_) (fun c53 => ?_)
    · replace e := ite_t c53 e
      refine eb_n 1 (255, [.ref a0], [.int (nI 0)], h51) (rfl) ?_
      rw [(sp_inj e).1, (sp_inj e).2]
      exact eb_rg (p := nrm 3 (nI 0)) rfl nrm_30
    · replace e := ite_f c53 e
      refine eb_n 2 (235, [.ref a0], [.int (nI 6), .ref a0], h51) (rfl) ?_
      obtain ⟨g54, e⟩ := gd_some e
      obtain ⟨h55, r56, eh55, e⟩ := bn_some e
      refine eb_cg (p := hT h51 a0 = 10) rfl g54 (f_Grammar_readsNumberOf_ev d (Nat.le_trans (by decide) hd) eh55) ?_
      show Eb _ 133 (238, [.ref a0], [.int r56], h55) _ _
      refine eb_b (c := r56 = 0) (254, [.ref a0], [], h55) (241, [.ref a0], [], h55) rfl (fun c57 => ?_) (fun c57 => ?_)
      · replace e := ite_t c57 e
        refine eb_n 1 (255, [.ref a0], [.int (nI 0)], h55) (rfl) ?_
        rw [(sp_inj e).1, (sp_inj e).2]
        exact eb_rg (p := nrm 3 (nI 0)) rfl nrm_30
      · replace e := ite_f c57 e
        refine eb_n 2 (244, [.ref a0], [.int (nI 12), .ref a0], h55) (rfl) ?_
        obtain ⟨g58, e⟩ := gd_some e
        obtain ⟨h59, r60, eh59, e⟩ := bn_some e
        refine eb_cg (p := hT h55 a0 = 10) rfl g58 (f_Grammar_readsNumberOf_ev d (Nat.le_trans (by decide) hd) eh59) ?_
        show Eb _ 133 (247, [.ref a0], [.int r60], h59) _ _
        refine eb_b (c := r60 = 0) (254, [.ref a0], [], h59) (250, [.ref a0], [], h59) rfl (fun c61 => ?_) (fun c61 => ?_)
        · replace e := ite_t c61 e
          refine eb_n 1 (255, [.ref a0], [.int (nI 0)], h59) (rfl) ?_
          rw [(sp_inj e).1, (sp_inj e).2]
          exact eb_rg (p := nrm 3 (nI 0)) rfl nrm_30
        · replace e := ite_f c61 e
          refine eb_n 2 (255, [.ref a0], [.int (nI 1)], h59) (rfl) ?_
          rw [(sp_inj e).1, (sp_inj e).2]
          exact eb_rg (p := nrm 3 (nI 1)) rfl nrm_31
  replace e := ite_f c50 e
  by_cases c62 : x2 = nI 12
  · replace e := ite_t c62 e
    refine eb_n 1 (368, [.ref a0], [], h) (by rw [c62]; rfl) ?_
    refine eb_n 1 (369, [.ref a0], [.int (nI 0)], h) (rfl) ?_
    rw [(sp_inj e).1, (sp_inj e).2]
    exact eb_rg (p := nrm 3 (nI 0)) rfl nrm_30
  replace e := ite_f c62 e
  by_cases c63 : x2 = nI 13
  · replace e := ite_t c63 e
    refine eb_n 1 (256, [.ref a0], [], h) (by rw [c63]; rfl) ?_
    refine eb_n 2 (259, [.ref a0], [.int (nI 13), .ref a0], h) (rfl) ?_
    obtain ⟨h64, r65, eh64, e⟩ := bn_some e
    refine eb_cg (p := hT h a0 = 10) rfl g1 (f_Grammar_readsNumberOf_ev d (Nat.le_trans (by decide) hd) eh64) ?_
    show Eb _ 133 (262, [.ref a0], [.int r65], h64) _ _
    refine eb_b (c := r65 = 0) (278, [.ref a0], [], h64) (265, [.ref a0], [], h64) rfl (fun c66 => ?_) (fun c66 => ?_)
    · replace e := ite_t c66 e
      refine eb_n 1 (279, [.ref a0], [.int (nI 0)], h64) (rfl) ?_
      rw [(sp_inj e).1, (sp_inj e).2]
      exact eb_rg (p := nrm 3 (nI 0)) rfl nrm_30
    · replace e := ite_f c66 e
      refine eb_n 2 (268, [.ref a0], [.int (nI 14), .ref a0], h64) (rfl) ?_
      obtain ⟨g67, e⟩ := gd_some e
      obtain ⟨h68, r69, eh68, e⟩ := bn_some e
      refine eb_cg (p := hT h64 a0 = 10) rfl g67 (f_Grammar_readsNumberOf_ev d (Nat.le_trans (by decide) hd) eh68) ?_
      show Eb _ 133 (271, [.ref a0], [.int r69], h68) _ _
      refine eb_b (c := r69 = 0) (278, [.ref a0], [], h68) (274, [.ref a0], [], h68) rfl (fun c70 => ?_) (fun c70 => ?_)
      · replace e := ite_t c70 e
        refine eb_n 1 (279, [.ref a0], [.int (nI 0)], h68) (rfl) ?_
        rw [(sp_inj e).1, (sp_inj e).2]
        exact eb_rg (p := nrm 3 (nI 0)) rfl nrm_30
      · replace e := ite_f c70 e
        refine eb_n 2 (279, [.ref a0], [.int (nI 1)], h68) (rfl) ?_
        rw [(sp_inj e).1, (sp_inj e).2]
        exact eb_rg (p := nrm 3 (nI 1)) rfl nrm_31
  replace e := ite_f c63 e
  by_cases c71 : x2 = nI 14
  · replace e := ite_t c71 e
    refine eb_n 1 (368, [.ref a0], [], h) (by rw [c71]; rfl) ?_
    refine eb_n 1 (369, [.ref a0], [.int (nI 0)], h) (rfl) ?_
    rw [(sp_inj e).1, (sp_inj e).2]
    exact eb_rg (p := nrm 3 (nI 0)) rfl nrm_30
  replace e := ite_f c71 e
  by_cases c72 : x2 = nI 15
  · replace e := ite_t c72 e
    refine eb_n 1 (280, [.ref a0], [], h) (by rw [c72]; rfl) ?_
    refine eb_n 2 (283, [.ref a0], [.int (nI 15), .ref a0], h) (rfl) ?_
    obtain ⟨h73, r74, eh73, e⟩ := bn_some e
    refine eb_cg (p := hT h a0 = 10) rfl g1 (f_Grammar_readsNumberOf_ev d (Nat.le_trans (by decide) hd) eh73) ?_
    show Eb _ 133 (286, [.ref a0], [.int r74], h73) _ _
    refine eb_b (c := r74 = 0) (302, [.ref a0], [], h73) (289, [.ref a0], [], h73) rfl (fun c75 => ?_) (fun c75 => ?_)
    · replace e := ite_t c75 e
      refine eb_n 1 (303, [.ref a0], [.int (nI 0)], h73) (rfl) ?_
      rw [(sp_inj e).1, (sp_inj e).2]
      exact eb_rg (p := nrm 3 (nI 0)) rfl nrm_30
    · replace e := ite_f c75 e
      refine eb_n 2 (292, [.ref a0], [.int (nI 16), .ref a0], h73) (rfl) ?_
      obtain ⟨g76, e⟩ := gd_some e
      obtain ⟨h77, r78, eh77, e⟩ := bn_some e
      refine eb_cg (p := hT h73 a0 = 10) rfl g76 (f_Grammar_readsNumberOf_ev d (Nat.le_trans (by decide) hd) eh77) ?_
      show Eb _ 133 (295, [.ref a0], [.int r78], h77) _ _
      refine eb_b (c := r78 = 0) (302, [.ref a0], [], h77) (298, [.ref a0], [], h77) rfl (fun c79 => ?_) (fun c79 => ?_)
      · replace e := ite_t c79 e
        refine eb_n 1 (303, [.ref a0], [.int (nI 0)], h77) (rfl) ?_
        rw [(sp_inj e).1, (sp_inj e).2]
        exact eb_rg (p := nrm 3 (nI 0)) rfl nrm_30
      · replace e := ite_f c79 e
        refine eb_n 2 (303, [.ref a0], [.int (nI 1)], h77) (rfl) ?_
        rw [(sp_inj e).1, (sp_inj e).2]
        exact eb_rg (p := nrm 3 (nI 1)) rfl nrm_31
  replace e := ite_f c72 e
  by_cases c80 : x2 = nI 16
  · replace e := ite_t c80 e
    refine eb_n 1 (368, [.ref a0], [], h) (by rw [c80]; rfl) ?_
    refine eb_n 1 (369, [.ref a0], [.int (nI 0)], h) (rfl) ?_
    rw [(sp_inj e).1, (sp_inj e).2]
    exact eb_rg (p := nrm 3 (nI 0)) rfl nrm_30
  replace e := ite_f c80 e
  by_cases c81 : x2 = nI 17
  · replace e := ite_t c81 e
    refine eb_n 1 (304, [.ref a0], [], h) (by rw [c81]; rfl) ?_
    refine eb_n 2 (307, [.ref a0], [.int (nI 17), .ref a0], h) (rfl) ?_
    obtain ⟨h82, r83, eh82, e⟩ := bn_some e
    refine eb_cg (p := hT h a0 = 10) rfl g1 (f_Grammar_reads_ev d (Nat.le_trans (by decide) hd) eh82) ?_
    show Eb _ 133 (310, [.ref a0], [.int r83], h82) _ _
    refine eb_b (c := r83 = 0) (347, [.ref a0], [], h82) (313, [.ref a0], [], h82) rfl (fun c84 => ?_) (fun c84 => ?_)
    · replace e := ite_t c84 e
      refine eb_n 1 (348, [.ref a0], [.int (nI 0)], h82) (rfl) ?_
      rw [(sp_inj e).1, (sp_inj e).2]
      exact eb_rg (p := nrm 3 (nI 0)) rfl nrm_30
    · replace e := ite_f c84 e
      refine eb_n 1 (314, [.ref a0], [.ref a0], h82) (rfl) ?_
      obtain ⟨g85, e⟩ := gd_some e
      refine eb_g (p := hT h82 a0 = 10) (317, [.ref a0], [.int (hI h82 a0 3)], h82) rfl g85 ?_
      obtain ⟨h86, r87, eh86, e⟩ := bn_some e
      refine eb_c rfl (f_Grammar_isGrade_ev d (Nat.le_trans (by decide) hd) eh86) ?_
      show Eb _ 133 (320, [.ref a0], [.int r87], h86) _ _
      refine eb_b (c := r87 = 0) (347, [.ref a0], [], h86) (323, [.ref a0], [], h86) rfl (fun c88 => ?_) (fun c88 => ?_)
      · replace e := ite_t c88 e
        refine eb_n 1 (348, [.ref a0], [.int (nI 0)], h86) (rfl) ?_
        rw [(sp_inj e).1, (sp_inj e).2]
        exact eb_rg (p := nrm 3 (nI 0)) rfl nrm_30
      · replace e := ite_f c88 e
        refine eb_n 2 (325, [.ref a0], [.ref a0, .ref a0], h86) (rfl) ?_
        obtain ⟨g89, e⟩ := gd_some e
        refine eb_g (p := hT h86 a0 = 10) (328, [.ref a0], [.int (hI h86 a0 3), .ref a0], h86) rfl g89 ?_
        obtain ⟨h90, r91, eh90, e⟩ := bn_some e
        refine eb_cg (p := hT h86 a0 = 10) rfl g89 (f_Grammar_reads_ev d (Nat.le_trans (by decide) hd) eh90) ?_
        show Eb _ 133 (331, [.ref a0], [.int r91], h90) _ _
        refine eb_b (c := r91 = 0) (347, [.ref a0], [], h90) (334, [.ref a0], [], h90) rfl (fun c92 => ?_) (fun c92 => ?_)
        · replace e := ite_t c92 e
          refine eb_n 1 (348, [.ref a0], [.int (nI 0)], h90) (rfl) ?_
          rw [(sp_inj e).1, (sp_inj e).2]
          exact eb_rg (p := nrm 3 (nI 0)) rfl nrm_30
        · replace e := ite_f c92 e
          refine eb_n 2 (337, [.ref a0], [.int (nI 56), .ref a0], h90) (rfl) ?_
          obtain ⟨g93, e⟩ := gd_some e
          obtain ⟨h94, r95, eh94, e⟩ := bn_some e
          refine eb_cg (p := hT h90 a0 = 10) rfl g93 (f_Grammar_reads_ev d (Nat.le_trans (by decide) hd) eh94) ?_
          show Eb _ 133 (340, [.ref a0], [.int r95], h94) _ _
          refine eb_b (c := r95 = 0) (347, [.ref a0], [], h94) (343, [.ref a0], [], h94) rfl (fun c96 => ?_) (fun c96 => ?_)
          · replace e := ite_t c96 e
            refine eb_n 1 (348, [.ref a0], [.int (nI 0)], h94) (rfl) ?_
            rw [(sp_inj e).1, (sp_inj e).2]
            exact eb_rg (p := nrm 3 (nI 0)) rfl nrm_30
          · replace e := ite_f c96 e
            refine eb_n 2 (348, [.ref a0], [.int (nI 1)], h94) (rfl) ?_
            rw [(sp_inj e).1, (sp_inj e).2]
            exact eb_rg (p := nrm 3 (nI 1)) rfl nrm_31
  replace e := ite_f c81 e
  by_cases c97 : x2 = nI 18
  · replace e := ite_t c97 e
    refine eb_n 1 (368, [.ref a0], [], h) (by rw [c97]; rfl) ?_
    refine eb_n 1 (369, [.ref a0], [.int (nI 0)], h) (rfl) ?_
    rw [(sp_inj e).1, (sp_inj e).2]
    exact eb_rg (p := nrm 3 (nI 0)) rfl nrm_30
  replace e := ite_f c97 e
  by_cases c98 : x2 = nI 19
  · replace e := ite_t c98 e
    refine eb_n 1 (368, [.ref a0], [], h) (by rw [c98]; rfl) ?_
    refine eb_n 1 (369, [.ref a0], [.int (nI 0)], h) (rfl) ?_
    rw [(sp_inj e).1, (sp_inj e).2]
    exact eb_rg (p := nrm 3 (nI 0)) rfl nrm_30
  replace e := ite_f c98 e
  by_cases c99 : x2 = nI 20
  · replace e := ite_t c99 e
    refine eb_n 1 (368, [.ref a0], [], h) (by rw [c99]; rfl) ?_
    refine eb_n 1 (369, [.ref a0], [.int (nI 0)], h) (rfl) ?_
    rw [(sp_inj e).1, (sp_inj e).2]
    exact eb_rg (p := nrm 3 (nI 0)) rfl nrm_30
  replace e := ite_f c99 e
  by_cases c100 : x2 = nI 21
  · replace e := ite_t c100 e
    refine eb_n 1 (368, [.ref a0], [], h) (by rw [c100]; rfl) ?_
    refine eb_n 1 (369, [.ref a0], [.int (nI 0)], h) (rfl) ?_
    rw [(sp_inj e).1, (sp_inj e).2]
    exact eb_rg (p := nrm 3 (nI 0)) rfl nrm_30
  replace e := ite_f c100 e
  by_cases c101 : x2 = nI 22
  · replace e := ite_t c101 e
    refine eb_n 1 (349, [.ref a0], [], h) (by rw [c101]; rfl) ?_
    refine eb_n 2 (352, [.ref a0], [.int (nI 22), .ref a0], h) (rfl) ?_
    obtain ⟨h102, r103, eh102, e⟩ := bn_some e
    refine eb_cg (p := hT h a0 = 10) rfl g1 (f_Grammar_readsOrderWithTest_ev d (Nat.le_trans (by decide) hd) eh102) ?_
    show Eb _ 133 (355, [.ref a0], [.int r103], h102) _ _
    obtain ⟨g104, e⟩ := gd_some e
    rw [(sp_inj e).1, (sp_inj e).2]
    exact eb_rg (p := nrm 3 r103) rfl g104
  replace e := ite_f c101 e
  by_cases c105 : x2 = nI 23
  · replace e := ite_t c105 e
    refine eb_n 1 (356, [.ref a0], [], h) (by rw [c105]; rfl) ?_
    refine eb_n 1 (357, [.ref a0], [.ref a0], h) (rfl) ?_
    obtain ⟨h106, r107, eh106, e⟩ := bn_some e
    refine eb_cg (p := hT h a0 = 10) rfl g1 (f_Grammar_readsLoading_ev d (Nat.le_trans (by decide) hd) eh106) ?_
    show Eb _ 133 (360, [.ref a0], [.int r107], h106) _ _
    obtain ⟨g108, e⟩ := gd_some e
    rw [(sp_inj e).1, (sp_inj e).2]
    exact eb_rg (p := nrm 3 r107) rfl g108
  replace e := ite_f c105 e
  by_cases c109 : x2 = nI 24
  · replace e := ite_t c109 e
    refine eb_n 1 (368, [.ref a0], [], h) (by rw [c109]; rfl) ?_
    refine eb_n 1 (369, [.ref a0], [.int (nI 0)], h) (rfl) ?_
    rw [(sp_inj e).1, (sp_inj e).2]
    exact eb_rg (p := nrm 3 (nI 0)) rfl nrm_30
  replace e := ite_f c109 e
  by_cases c110 : x2 = nI 25
  · replace e := ite_t c110 e
    refine eb_n 1 (361, [.ref a0], [], h) (by rw [c110]; rfl) ?_
    refine eb_n 2 (364, [.ref a0], [.int (nI 25), .ref a0], h) (rfl) ?_
    obtain ⟨h111, r112, eh111, e⟩ := bn_some e
    refine eb_cg (p := hT h a0 = 10) rfl g1 (f_Grammar_readsOrderWithTest_ev d (Nat.le_trans (by decide) hd) eh111) ?_
    show Eb _ 133 (367, [.ref a0], [.int r112], h111) _ _
    obtain ⟨g113, e⟩ := gd_some e
    rw [(sp_inj e).1, (sp_inj e).2]
    exact eb_rg (p := nrm 3 r112) rfl g113
  replace e := ite_f c110 e
  refine eb_1 (f' := (368, [.ref a0], [], h)) (tsw_d (tsw_out (x := x2) (lo := 1) (n := 25) (by decide) (by decide) (fun k hk => match k, hk with | 0, _ => c3 | 1, _ => c19 | 2, _ => c20 | 3, _ => c21 | 4, _ => c22 | 5, _ => c30 | 6, _ => c31 | 7, _ => c47 | 8, _ => c48 | 9, _ => c49 | 10, _ => c50 | 11, _ => c62 | 12, _ => c63 | 13, _ => c71 | 14, _ => c72 | 15, _ => c80 | 16, _ => c81 | 17, _ => c97 | 18, _ => c98 | 19, _ => c99 | 20, _ => c100 | 21, _ => c101 | 22, _ => c105 | 23, _ => c109 | 24, _ => c110 | k + 25, hk => absurd hk (by omega))) rfl rfl) ?_
  refine eb_n 1 (369, [.ref a0], [.int (nI 0)], h) (rfl) ?_
  rw [(sp_inj e).1, (sp_inj e).2]
  exact eb_rg (p := nrm 3 (nI 0)) rfl nrm_30
set_option maxRecDepth 100000 in
set_option maxHeartbeats 4000000 in
theorem f_Grammar_readsList_b29_ev {h' : AH} {r : Int32} (d : Nat) (hd : 65 ≤ d) (k29 : AH → Nat → Int32 → Option (AH × Int32)) (hk29 : ∀ (h : AH) (a0 : Nat) (a1 : Int32)  , k29 h a0 a1 = some (h', r) → Eb (Ev tb mL d) 96 (29, [.ref a0, .int a1], [], h) h' (some (.int r)))  (h : AH) (a0 : Nat) (a1 : Int32)   (e : f_Grammar_readsList_b29 k29 h a0 a1 = some (h', r)) : Eb (Ev tb mL d) 96 (29, [.ref a0, .int a1], [], h) h' (some (.int r)) := by
  unfold f_Grammar_readsList_b29 at e
  refine eb_n 2 (33, [.ref a0, .int a1], [.int (nI 400), .int a1], h) (rfl) ?_
  refine eb_b (c := (nI 400) < a1) (71, [.ref a0, .int a1], [], h) (36, [.ref a0, .int a1], [], h) rfl (fun c1 => ?_) (fun c1 => ?_)
  · replace e := ite_t c1 e
    refine eb_n 1 (72, [.ref a0, .int a1], [.int (nI 0)], h) (rfl) ?_
    rw [(sp_inj e).1, (sp_inj e).2]
    exact eb_rg (p := nrm 3 (nI 0)) rfl nrm_30
  · replace e := ite_f c1 e
    refine eb_n 1 (37, [.ref a0, .int a1], [.ref a0], h) (rfl) ?_
    obtain ⟨g2, e⟩ := gd_some e
    refine eb_g (p := hT h a0 = 10) (40, [.ref a0, .int a1], [.int (hI h a0 3)], h) rfl g2 ?_
    refine eb_n 1 (42, [.ref a0, .int a1], [.int (nI 57), .int (hI h a0 3)], h) (rfl) ?_
    refine eb_b (c := ¬ (hI h a0 3) = (nI 57)) (47, [.ref a0, .int a1], [], h) (45, [.ref a0, .int a1], [], h) rfl (fun c3 => ?_) (fun c3 => ?_)
    · replace e := ite_t c3 e
      refine eb_n 1 (48, [.ref a0, .int a1], [.ref a0], h) (rfl) ?_
      obtain ⟨h4, r5, eh4, e⟩ := bn_some e
      refine eb_cg (p := hT h a0 = 10) rfl g2 (f_Grammar_readsLine_ev d (Nat.le_trans (by decide) hd) eh4) ?_
      show Eb _ 96 (51, [.ref a0, .int a1], [.int r5], h4) _ _
      refine eb_b (c := r5 = 0) (63, [.ref a0, .int a1], [], h4) (54, [.ref a0, .int a1], [], h4) rfl (fun c6 => ?_) (fun c6 => ?_)
      · replace e := ite_t c6 e
        refine eb_n 1 (64, [.ref a0, .int a1], [.int (nI 0)], h4) (rfl) ?_
        rw [(sp_inj e).1, (sp_inj e).2]
        exact eb_rg (p := nrm 3 (nI 0)) rfl nrm_30
      · replace e := ite_f c6 e
        refine eb_n 2 (57, [.ref a0, .int a1], [.int (nI 44), .ref a0], h4) (rfl) ?_
        obtain ⟨g7, e⟩ := gd_some e
        obtain ⟨h8, r9, eh8, e⟩ := bn_some e
        refine eb_cg (p := hT h4 a0 = 10) rfl g7 (f_Grammar_reads_ev d (Nat.le_trans (by decide) hd) eh8) ?_
        show Eb _ 96 (60, [.ref a0, .int a1], [.int r9], h8) _ _
        refine eb_b (c := ¬ r9 = 0) (65, [.ref a0, .int a1], [], h8) (63, [.ref a0, .int a1], [], h8) rfl (fun c10 => ?_) (fun c10 => ?_)
        · replace e := ite_t c10 e
          obtain ⟨x11, hx11, e⟩ := lq_some e
          refine eb_n 1 (68, [.ref a0, .int x11], [], h8) (by subst hx11; rfl) ?_
          refine eb_n 1 (29, [.ref a0, .int x11], [], h8) (rfl) ?_
          exact hk29 _ _ _  e
        · replace e := ite_f c10 e
          refine eb_n 1 (64, [.ref a0, .int a1], [.int (nI 0)], h8) (rfl) ?_
          rw [(sp_inj e).1, (sp_inj e).2]
          exact eb_rg (p := nrm 3 (nI 0)) rfl nrm_30
    · replace e := ite_f c3 e
      refine eb_n 1 (46, [.ref a0, .int a1], [.int (nI 1)], h) (rfl) ?_
      rw [(sp_inj e).1, (sp_inj e).2]
      exact eb_rg (p := nrm 3 (nI 1)) rfl nrm_31
set_option maxRecDepth 100000 in
set_option maxHeartbeats 4000000 in
theorem f_Grammar_readsList_l29_ev {h' : AH} {r : Int32} (d : Nat) (hd : 65 ≤ d)  : ∀ (n : Nat) (h : AH) (a0 : Nat) (a1 : Int32)   (_ : f_Grammar_readsList_l29  n h a0 a1 = some (h', r)), Eb (Ev tb mL d) 96 (29, [.ref a0, .int a1], [], h) h' (some (.int r)) := by
  intro n
  induction n with
  | zero => intro h a0 a1  e; exact nomatch e
  | succ n ih =>
    intro h a0 a1  e
    exact f_Grammar_readsList_b29_ev d hd _ (fun h a0 a1  e => ih h a0 a1  e) h a0 a1  e
set_option maxRecDepth 100000 in
set_option maxHeartbeats 4000000 in
theorem f_Grammar_readsList_ev (d0 : Nat) (hd0 : 66 ≤ d0) {h' : AH} {r : Int32} {h : AH} {a0 : Nat} (e : f_Grammar_readsList h a0 = some (h', r)) : Ev tb mL d0 96 [.ref a0] h h' (some (.int r)) := by
  obtain ⟨d, rfl⟩ : ∃ d, d0 = d + 1 := ⟨d0 - 1, by omega⟩
  have hd : 65 ≤ d := by omega
  refine ⟨Nat.le_of_ble_eq_true rfl, ?_⟩
  show Eb (Ev tb mL d) 96 (0, [.ref a0, .retAddr 0], [], h) h' (some (.int r))
  unfold f_Grammar_readsList at e
  refine eb_n 2 (2, [.ref a0, .retAddr 0], [.int (nI 0), .ref a0], h) (rfl) ?_
  obtain ⟨g1, e⟩ := gd_some e
  obtain ⟨h2, eh2, e⟩ := lq_some e
  refine eb_g (p := hT h a0 = 10) (5, [.ref a0, .retAddr 0], [], h2) (by rw [eh2]; rfl) g1 ?_
  refine eb_n 2 (7, [.ref a0, .retAddr 0], [.ref a0, .ref a0], h2) (rfl) ?_
  obtain ⟨g3, e⟩ := gd_some e
  refine eb_g (p := hT h2 a0 = 10) (10, [.ref a0, .retAddr 0], [.ref (hR h2 a0 0), .ref a0], h2) rfl g3 ?_
  refine eb_n 1 (11, [.ref a0, .retAddr 0], [.ref a0, .ref (hR h2 a0 0), .ref a0], h2) (rfl) ?_
  refine eb_g (p := hT h2 a0 = 10) (14, [.ref a0, .retAddr 0], [.int (hI h2 a0 2), .ref (hR h2 a0 0), .ref a0], h2) rfl g3 ?_
  obtain ⟨g4, e⟩ := gd_some e
  obtain ⟨h5, r6, eh5, e⟩ := bn_some e
  refine eb_cg (p := hT h2 (hR h2 a0 0) = 11) rfl g4 (f_Tokens_kindOf_I_ev d (Nat.le_trans (by decide) hd) eh5) ?_
  show Eb _ 96 (17, [.ref a0, .retAddr 0], [.int r6, .ref a0], h5) _ _
  obtain ⟨g7, e⟩ := gd_some e
  obtain ⟨h8, eh8, e⟩ := lq_some e
  refine eb_g (p := hT h5 a0 = 10) (20, [.ref a0, .retAddr 0], [], h8) (by rw [eh8]; rfl) g7 ?_
  refine eb_n 1 (21, [.ref a0, .retAddr 0], [.ref a0], h8) (rfl) ?_
  obtain ⟨g9, e⟩ := gd_some e
  refine eb_g (p := hT h8 a0 = 10) (24, [.ref a0, .retAddr 0], [.ref (hR h8 a0 1)], h8) rfl g9 ?_
  obtain ⟨g10, e⟩ := gd_some e
  obtain ⟨h11, eh11, e⟩ := bv_some e
  refine eb_cg (p := hT h8 (hR h8 a0 1) = 2) rfl g10 (f_Orders_clear_ev d (Nat.le_trans (by decide) hd) eh11) ?_
  show Eb _ 96 (27, [.ref a0, .retAddr 0], [], h11) _ _
  refine eb_n 2 (29, [.ref a0, .int (nI 0)], [], h11) (rfl) ?_
  exact f_Grammar_readsList_l29_ev d hd   FU _ _ _  e
set_option maxRecDepth 100000 in
set_option maxHeartbeats 4000000 in
theorem f_Grammar_place_ev (d0 : Nat) (hd0 : 1 ≤ d0) {h' : AH} {r : Int32} {h : AH} {a0 : Nat} (e : f_Grammar_place h a0 = some (h', r)) : Ev tb mL d0 97 [.ref a0] h h' (some (.int r)) := by
  obtain ⟨d, rfl⟩ : ∃ d, d0 = d + 1 := ⟨d0 - 1, by omega⟩
  have hd : 0 ≤ d := by omega
  refine ⟨Nat.le_of_ble_eq_true rfl, ?_⟩
  show Eb (Ev tb mL d) 97 (0, [.ref a0], [], h) h' (some (.int r))
  unfold f_Grammar_place at e
  refine eb_n 1 (1, [.ref a0], [.ref a0], h) (rfl) ?_
  obtain ⟨g1, e⟩ := gd_some e
  refine eb_g (p := hT h a0 = 10) (4, [.ref a0], [.int (hI h a0 2)], h) rfl g1 ?_
  rw [(sp_inj e).1, (sp_inj e).2]
  exact eb_rg (p := nrm 0 (hI h a0 2)) rfl (nrm_0 _)
set_option maxRecDepth 100000 in
set_option maxHeartbeats 4000000 in
theorem f_Tokens_startOf_ev (d0 : Nat) (hd0 : 1 ≤ d0) {h' : AH} {r : Int32} {h : AH} {a0 : Nat} {a1 : Int32} (e : f_Tokens_startOf h a0 a1 = some (h', r)) : Ev tb mL d0 98 [.ref a0, .int a1] h h' (some (.int r)) := by
  obtain ⟨d, rfl⟩ : ∃ d, d0 = d + 1 := ⟨d0 - 1, by omega⟩
  have hd : 0 ≤ d := by omega
  refine ⟨Nat.le_of_ble_eq_true rfl, ?_⟩
  show Eb (Ev tb mL d) 98 (0, [.ref a0, .int a1], [], h) h' (some (.int r))
  unfold f_Tokens_startOf at e
  refine eb_n 1 (1, [.ref a0, .int a1], [.int a1], h) (rfl) ?_
  refine eb_b (c := a1 < 0) (22, [.ref a0, .int a1], [], h) (4, [.ref a0, .int a1], [], h) rfl (fun c1 => ?_) (fun c1 => ?_)
  · replace e := ite_t c1 e
    refine eb_n 1 (23, [.ref a0, .int a1], [.int (nI 0)], h) (rfl) ?_
    rw [(sp_inj e).1, (sp_inj e).2]
    exact eb_rg (p := nrm 0 (nI 0)) rfl (nrm_0 _)
  · replace e := ite_f c1 e
    refine eb_n 2 (6, [.ref a0, .int a1], [.ref a0, .int a1], h) (rfl) ?_
    obtain ⟨g2, e⟩ := gd_some e
    refine eb_g (p := hT h a0 = 11) (9, [.ref a0, .int a1], [.ref (hR h a0 2), .int a1], h) rfl g2 ?_
    obtain ⟨g3, e⟩ := gd_some e
    refine eb_g (p := hT h (hR h a0 2) = 101) (10, [.ref a0, .int a1], [.int (nI (hL h (hR h a0 2))), .int a1], h) rfl g3 ?_
    refine eb_b (c := (nI (hL h (hR h a0 2))) ≤ a1) (22, [.ref a0, .int a1], [], h) (13, [.ref a0, .int a1], [], h) rfl (fun c4 => ?_) (fun c4 => ?_)
    · replace e := ite_t c4 e
      refine eb_n 1 (23, [.ref a0, .int a1], [.int (nI 0)], h) (rfl) ?_
      rw [(sp_inj e).1, (sp_inj e).2]
      exact eb_rg (p := nrm 0 (nI 0)) rfl (nrm_0 _)
    · replace e := ite_f c4 e
      refine eb_n 1 (14, [.ref a0, .int a1], [.ref a0], h) (rfl) ?_
      refine eb_g (p := hT h a0 = 11) (17, [.ref a0, .int a1], [.ref (hR h a0 2)], h) rfl g2 ?_
      refine eb_n 1 (18, [.ref a0, .int a1], [.int a1, .ref (hR h a0 2)], h) (rfl) ?_
      obtain ⟨g5, e⟩ := gd_some e
      refine eb_g (p := hT h (hR h a0 2) = 101 ∧ inb a1 (hL h (hR h a0 2))) (19, [.ref a0, .int a1], [.int (hI h (hR h a0 2) (ix a1))], h) rfl g5 ?_
      refine eb_n 1 (23, [.ref a0, .int a1], [.int (hI h (hR h a0 2) (ix a1))], h) (rfl) ?_
      rw [(sp_inj e).1, (sp_inj e).2]
      exact eb_rg (p := nrm 0 (hI h (hR h a0 2) (ix a1))) rfl (nrm_0 _)
set_option maxRecDepth 100000 in
set_option maxHeartbeats 4000000 in
theorem f_Roll_clear_ev (d0 : Nat) (hd0 : 1 ≤ d0) {h' : AH} {h : AH} {a0 : Nat} (e : f_Roll_clear h a0 = some h') : Ev tb mL d0 135 [.ref a0] h h' none := by
  obtain ⟨d, rfl⟩ : ∃ d, d0 = d + 1 := ⟨d0 - 1, by omega⟩
  have hd : 0 ≤ d := by omega
  refine ⟨Nat.le_of_ble_eq_true rfl, ?_⟩
  show Eb (Ev tb mL d) 135 (0, [.ref a0], [], h) h' none
  unfold f_Roll_clear at e
  refine eb_n 2 (2, [.ref a0], [.int (nI 0), .ref a0], h) (rfl) ?_
  obtain ⟨g1, e⟩ := gd_some e
  obtain ⟨h2, eh2, e⟩ := lq_some e
  refine eb_g (p := hT h a0 = 12) (5, [.ref a0], [], h2) (by rw [eh2]; rfl) g1 ?_
  rw [sv_inj e]
  exact eb_r rfl
set_option maxRecDepth 100000 in
set_option maxHeartbeats 4000000 in
theorem f_Tokens_wordOf_b22_ev {h' : AH} {r : Int64} (d : Nat) (hd : 0 ≤ d)  (h : AH)   (d0 : Value) (d1 : Value) (e : f_Tokens_wordOf_b22  h  = some (h', r)) : Eb (Ev tb mL d) 211 (22, [d0, d1], [], h) h' (some (.long r)) := by
  unfold f_Tokens_wordOf_b22 at e
  refine eb_n 1 (23, [d0, d1], [.long (Int64.ofNat 0)], h) (rfl) ?_
  rw [(sp_inj e).1, (sp_inj e).2]
  exact eb_r rfl
set_option maxRecDepth 100000 in
set_option maxHeartbeats 4000000 in
theorem f_Tokens_wordOf_ev (d0 : Nat) (hd0 : 1 ≤ d0) {h' : AH} {r : Int64} {h : AH} {a0 : Nat} {a1 : Int32} (e : f_Tokens_wordOf h a0 a1 = some (h', r)) : Ev tb mL d0 211 [.ref a0, .int a1] h h' (some (.long r)) := by
  obtain ⟨d, rfl⟩ : ∃ d, d0 = d + 1 := ⟨d0 - 1, by omega⟩
  have hd : 0 ≤ d := by omega
  refine ⟨Nat.le_of_ble_eq_true rfl, ?_⟩
  show Eb (Ev tb mL d) 211 (0, [.ref a0, .int a1], [], h) h' (some (.long r))
  unfold f_Tokens_wordOf at e
  refine eb_n 1 (1, [.ref a0, .int a1], [.int a1], h) (rfl) ?_
  refine eb_b (c := a1 < 0) (22, [.ref a0, .int a1], [], h) (4, [.ref a0, .int a1], [], h) rfl (fun c1 => ?_) (fun c1 => ?_)
  · replace e := ite_t c1 e
    exact f_Tokens_wordOf_b22_ev d hd   _  _ _ e
  · replace e := ite_f c1 e
    refine eb_n 2 (6, [.ref a0, .int a1], [.ref a0, .int a1], h) (rfl) ?_
    obtain ⟨g2, e⟩ := gd_some e
    refine eb_g (p := hT h a0 = 11) (9, [.ref a0, .int a1], [.ref (hR h a0 4), .int a1], h) rfl g2 ?_
    obtain ⟨g3, e⟩ := gd_some e
    refine eb_g (p := hT h (hR h a0 4) = 103) (10, [.ref a0, .int a1], [.int (nI (hL h (hR h a0 4))), .int a1], h) rfl g3 ?_
    refine eb_b (c := (nI (hL h (hR h a0 4))) ≤ a1) (22, [.ref a0, .int a1], [], h) (13, [.ref a0, .int a1], [], h) rfl (fun c4 => ?_) (fun c4 => ?_)
    · replace e := ite_t c4 e
      exact f_Tokens_wordOf_b22_ev d hd   _  _ _ e
    · replace e := ite_f c4 e
      refine eb_n 1 (14, [.ref a0, .int a1], [.ref a0], h) (rfl) ?_
      refine eb_g (p := hT h a0 = 11) (17, [.ref a0, .int a1], [.ref (hR h a0 4)], h) rfl g2 ?_
      refine eb_n 1 (18, [.ref a0, .int a1], [.int a1, .ref (hR h a0 4)], h) (rfl) ?_
      obtain ⟨g5, e⟩ := gd_some e
      refine eb_g (p := hT h (hR h a0 4) = 103 ∧ inb a1 (hL h (hR h a0 4))) (19, [.ref a0, .int a1], [.long (hJ h (hR h a0 4) (ix a1))], h) rfl g5 ?_
      refine eb_n 1 (23, [.ref a0, .int a1], [.long (hJ h (hR h a0 4) (ix a1))], h) (rfl) ?_
      rw [(sp_inj e).1, (sp_inj e).2]
      exact eb_r rfl
set_option maxRecDepth 100000 in
set_option maxHeartbeats 4000000 in
theorem f_Roll_placeOf_b2_ev {h' : AH} {r : Int32} (d : Nat) (hd : 0 ≤ d) (k2 : AH → Nat → Int64 → Int32 → Option (AH × Int32)) (hk2 : ∀ (h : AH) (a0 : Nat) (a1 : Int64) (a3 : Int32)  , k2 h a0 a1 a3 = some (h', r) → Eb (Ev tb mL d) 212 (2, [.ref a0, .long a1, .retAddr 0, .int a3], [], h) h' (some (.int r)))  (h : AH) (a0 : Nat) (a1 : Int64) (a3 : Int32)   (e : f_Roll_placeOf_b2 k2 h a0 a1 a3 = some (h', r)) : Eb (Ev tb mL d) 212 (2, [.ref a0, .long a1, .retAddr 0, .int a3], [], h) h' (some (.int r)) := by
  unfold f_Roll_placeOf_b2 at e
  refine eb_n 2 (4, [.ref a0, .long a1, .retAddr 0, .int a3], [.ref a0, .int a3], h) (rfl) ?_
  obtain ⟨g1, e⟩ := gd_some e
  refine eb_g (p := hT h a0 = 12) (7, [.ref a0, .long a1, .retAddr 0, .int a3], [.int (hI h a0 1), .int a3], h) rfl g1 ?_
  refine eb_b (c := (hI h a0 1) ≤ a3) (38, [.ref a0, .long a1, .retAddr 0, .int a3], [], h) (10, [.ref a0, .long a1, .retAddr 0, .int a3], [], h) rfl (fun c2 => ?_) (fun c2 => ?_)
  · replace e := ite_t c2 e
    refine eb_n 1 (39, [.ref a0, .long a1, .retAddr 0, .int a3], [.int (-nI 1)], h) (rfl) ?_
    rw [(sp_inj e).1, (sp_inj e).2]
    exact eb_rg (p := nrm 0 (-nI 1)) rfl (nrm_0 _)
  · replace e := ite_f c2 e
    refine eb_n 2 (12, [.ref a0, .long a1, .retAddr 0, .int a3], [.ref a0, .int a3], h) (rfl) ?_
    refine eb_g (p := hT h a0 = 12) (15, [.ref a0, .long a1, .retAddr 0, .int a3], [.ref (hR h a0 0), .int a3], h) rfl g1 ?_
    obtain ⟨g3, e⟩ := gd_some e
    refine eb_g (p := hT h (hR h a0 0) = 103) (16, [.ref a0, .long a1, .retAddr 0, .int a3], [.int (nI (hL h (hR h a0 0))), .int a3], h) rfl g3 ?_
    refine eb_b (c := (nI (hL h (hR h a0 0))) ≤ a3) (38, [.ref a0, .long a1, .retAddr 0, .int a3], [], h) (19, [.ref a0, .long a1, .retAddr 0, .int a3], [], h) rfl (fun c4 => ?_) (fun c4 => ?_)
    · replace e := ite_t c4 e
      refine eb_n 1 (39, [.ref a0, .long a1, .retAddr 0, .int a3], [.int (-nI 1)], h) (rfl) ?_
      rw [(sp_inj e).1, (sp_inj e).2]
      exact eb_rg (p := nrm 0 (-nI 1)) rfl (nrm_0 _)
    · replace e := ite_f c4 e
      refine eb_n 1 (20, [.ref a0, .long a1, .retAddr 0, .int a3], [.ref a0], h) (rfl) ?_
      refine eb_g (p := hT h a0 = 12) (23, [.ref a0, .long a1, .retAddr 0, .int a3], [.ref (hR h a0 0)], h) rfl g1 ?_
      refine eb_n 1 (24, [.ref a0, .long a1, .retAddr 0, .int a3], [.int a3, .ref (hR h a0 0)], h) (rfl) ?_
      obtain ⟨g5, e⟩ := gd_some e
      refine eb_g (p := hT h (hR h a0 0) = 103 ∧ inb a3 (hL h (hR h a0 0))) (25, [.ref a0, .long a1, .retAddr 0, .int a3], [.long (hJ h (hR h a0 0) (ix a3))], h) rfl g5 ?_
      refine eb_n 2 (27, [.ref a0, .long a1, .retAddr 0, .int a3], [.int (if (hJ h (hR h a0 0) (ix a3)) < a1 then (-1 : Int32) else if (hJ h (hR h a0 0) (ix a3)) = a1 then 0 else 1)], h) (rfl) ?_
      refine eb_b (c := ¬ (if (hJ h (hR h a0 0) (ix a3)) < a1 then (-1 : Int32) else if (hJ h (hR h a0 0) (ix a3)) = a1 then 0 else 1) = 0) (32, [.ref a0, .long a1, .retAddr 0, .int a3], [], h) (30, [.ref a0, .long a1, .retAddr 0, .int a3], [], h) rfl (fun c6 => ?_) (fun c6 => ?_)
      · replace e := ite_t c6 e
        obtain ⟨x7, hx7, e⟩ := lq_some e
        refine eb_n 1 (35, [.ref a0, .long a1, .retAddr 0, .int x7], [], h) (by subst hx7; rfl) ?_
        refine eb_n 1 (2, [.ref a0, .long a1, .retAddr 0, .int x7], [], h) (rfl) ?_
        exact hk2 _ _ _ _  e
      · replace e := ite_f c6 e
        refine eb_n 1 (31, [.ref a0, .long a1, .retAddr 0, .int a3], [.int a3], h) (rfl) ?_
        rw [(sp_inj e).1, (sp_inj e).2]
        exact eb_rg (p := nrm 0 a3) rfl (nrm_0 _)
set_option maxRecDepth 100000 in
set_option maxHeartbeats 4000000 in
theorem f_Roll_placeOf_l2_ev {h' : AH} {r : Int32} (d : Nat) (hd : 0 ≤ d)  : ∀ (n : Nat) (h : AH) (a0 : Nat) (a1 : Int64) (a3 : Int32)   (_ : f_Roll_placeOf_l2  n h a0 a1 a3 = some (h', r)), Eb (Ev tb mL d) 212 (2, [.ref a0, .long a1, .retAddr 0, .int a3], [], h) h' (some (.int r)) := by
  intro n
  induction n with
  | zero => intro h a0 a1 a3  e; exact nomatch e
  | succ n ih =>
    intro h a0 a1 a3  e
    exact f_Roll_placeOf_b2_ev d hd _ (fun h a0 a1 a3  e => ih h a0 a1 a3  e) h a0 a1 a3  e
set_option maxRecDepth 100000 in
set_option maxHeartbeats 4000000 in
theorem f_Roll_placeOf_ev (d0 : Nat) (hd0 : 1 ≤ d0) {h' : AH} {r : Int32} {h : AH} {a0 : Nat} {a1 : Int64} (e : f_Roll_placeOf h a0 a1 = some (h', r)) : Ev tb mL d0 212 [.ref a0, .long a1] h h' (some (.int r)) := by
  obtain ⟨d, rfl⟩ : ∃ d, d0 = d + 1 := ⟨d0 - 1, by omega⟩
  have hd : 0 ≤ d := by omega
  refine ⟨Nat.le_of_ble_eq_true rfl, ?_⟩
  show Eb (Ev tb mL d) 212 (0, [.ref a0, .long a1, .retAddr 0, .retAddr 0], [], h) h' (some (.int r))
  unfold f_Roll_placeOf at e
  refine eb_n 2 (2, [.ref a0, .long a1, .retAddr 0, .int (nI 0)], [], h) (rfl) ?_
  exact f_Roll_placeOf_l2_ev d hd   FU _ _ _ _  e
set_option maxRecDepth 100000 in
set_option maxHeartbeats 4000000 in
theorem f_Roll_takes_ev (d0 : Nat) (hd0 : 1 ≤ d0) {h' : AH} {r : Int32} {h : AH} {a0 : Nat} {a1 : Int64} (e : f_Roll_takes h a0 a1 = some (h', r)) : Ev tb mL d0 213 [.ref a0, .long a1] h h' (some (.int r)) := by
  obtain ⟨d, rfl⟩ : ∃ d, d0 = d + 1 := ⟨d0 - 1, by omega⟩
  have hd : 0 ≤ d := by omega
  refine ⟨Nat.le_of_ble_eq_true rfl, ?_⟩
  show Eb (Ev tb mL d) 213 (0, [.ref a0, .long a1, .retAddr 0], [], h) h' (some (.int r))
  unfold f_Roll_takes at e
  refine eb_n 1 (1, [.ref a0, .long a1, .retAddr 0], [.ref a0], h) (rfl) ?_
  obtain ⟨g1, e⟩ := gd_some e
  refine eb_g (p := hT h a0 = 12) (4, [.ref a0, .long a1, .retAddr 0], [.int (hI h a0 1)], h) rfl g1 ?_
  refine eb_b (c := (hI h a0 1) < 0) (19, [.ref a0, .long a1, .retAddr 0], [], h) (7, [.ref a0, .long a1, .retAddr 0], [], h) rfl (fun c2 => ?_) (fun c2 => ?_)
  · replace e := ite_t c2 e
    refine eb_n 1 (20, [.ref a0, .long a1, .retAddr 0], [.int (nI 0)], h) (rfl) ?_
    rw [(sp_inj e).1, (sp_inj e).2]
    exact eb_rg (p := nrm 3 (nI 0)) rfl nrm_30
  · replace e := ite_f c2 e
    refine eb_n 1 (8, [.ref a0, .long a1, .retAddr 0], [.ref a0], h) (rfl) ?_
    refine eb_g (p := hT h a0 = 12) (11, [.ref a0, .long a1, .retAddr 0], [.int (hI h a0 1)], h) rfl g1 ?_
    refine eb_n 1 (12, [.ref a0, .long a1, .retAddr 0], [.ref a0, .int (hI h a0 1)], h) (rfl) ?_
    refine eb_g (p := hT h a0 = 12) (15, [.ref a0, .long a1, .retAddr 0], [.ref (hR h a0 0), .int (hI h a0 1)], h) rfl g1 ?_
    obtain ⟨g3, e⟩ := gd_some e
    refine eb_g (p := hT h (hR h a0 0) = 103) (16, [.ref a0, .long a1, .retAddr 0], [.int (nI (hL h (hR h a0 0))), .int (hI h a0 1)], h) rfl g3 ?_
    refine eb_b (c := (hI h a0 1) < (nI (hL h (hR h a0 0)))) (21, [.ref a0, .long a1, .retAddr 0], [], h) (19, [.ref a0, .long a1, .retAddr 0], [], h) rfl (fun c4 => ?_) (fun c4 => ?_)
    · replace e := ite_t c4 e
      refine eb_n 1 (22, [.ref a0, .long a1, .retAddr 0], [.ref a0], h) (rfl) ?_
      refine eb_g (p := hT h a0 = 12) (25, [.ref a0, .long a1, .retAddr 0], [.ref (hR h a0 0)], h) rfl g1 ?_
      refine eb_n 1 (26, [.ref a0, .long a1, .retAddr 0], [.ref a0, .ref (hR h a0 0)], h) (rfl) ?_
      refine eb_g (p := hT h a0 = 12) (29, [.ref a0, .long a1, .retAddr 0], [.int (hI h a0 1), .ref (hR h a0 0)], h) rfl g1 ?_
      refine eb_n 1 (30, [.ref a0, .long a1, .retAddr 0], [.long a1, .int (hI h a0 1), .ref (hR h a0 0)], h) (rfl) ?_
      obtain ⟨g5, e⟩ := gd_some e
      obtain ⟨h6, eh6, e⟩ := lq_some e
      refine eb_g (p := hT h (hR h a0 0) = 103 ∧ inb (hI h a0 1) (hL h (hR h a0 0))) (31, [.ref a0, .long a1, .retAddr 0], [], h6) (by rw [eh6]; rfl) g5 ?_
      refine eb_n 2 (33, [.ref a0, .long a1, .retAddr 0], [.ref a0, .ref a0], h6) (rfl) ?_
      obtain ⟨g7, e⟩ := gd_some e
      refine eb_g (p := hT h6 a0 = 12) (36, [.ref a0, .long a1, .retAddr 0], [.int (hI h6 a0 1), .ref a0], h6) rfl g7 ?_
      refine eb_n 2 (38, [.ref a0, .long a1, .retAddr 0], [.int ((hI h6 a0 1) + (nI 1)), .ref a0], h6) (rfl) ?_
      obtain ⟨h8, eh8, e⟩ := lq_some e
      refine eb_g (p := hT h6 a0 = 12) (41, [.ref a0, .long a1, .retAddr 0], [], h8) (by rw [eh8]; rfl) g7 ?_
      refine eb_n 1 (42, [.ref a0, .long a1, .retAddr 0], [.int (nI 1)], h8) (rfl) ?_
      rw [(sp_inj e).1, (sp_inj e).2]
      exact eb_rg (p := nrm 3 (nI 1)) rfl nrm_31
    · replace e := ite_f c4 e
      refine eb_n 1 (20, [.ref a0, .long a1, .retAddr 0], [.int (nI 0)], h) (rfl) ?_
      rw [(sp_inj e).1, (sp_inj e).2]
      exact eb_rg (p := nrm 3 (nI 0)) rfl nrm_30
set_option maxRecDepth 100000 in
set_option maxHeartbeats 4000000 in
theorem f_River_hasRack_ev (d0 : Nat) (hd0 : 1 ≤ d0) {h' : AH} {r : Int32} {h : AH} {a0 : Nat} {a1 : Int32} (e : f_River_hasRack h a0 a1 = some (h', r)) : Ev tb mL d0 53 [.ref a0, .int a1] h h' (some (.int r)) := by
  obtain ⟨d, rfl⟩ : ∃ d, d0 = d + 1 := ⟨d0 - 1, by omega⟩
  have hd : 0 ≤ d := by omega
  refine ⟨Nat.le_of_ble_eq_true rfl, ?_⟩
  show Eb (Ev tb mL d) 53 (0, [.ref a0, .int a1], [], h) h' (some (.int r))
  unfold f_River_hasRack at e
  refine eb_n 1 (1, [.ref a0, .int a1], [.int a1], h) (rfl) ?_
  refine eb_b (c := a1 < 0) (21, [.ref a0, .int a1], [], h) (4, [.ref a0, .int a1], [], h) rfl (fun c1 => ?_) (fun c1 => ?_)
  · replace e := ite_t c1 e
    refine eb_n 1 (22, [.ref a0, .int a1], [.int (nI 0)], h) (rfl) ?_
    rw [(sp_inj e).1, (sp_inj e).2]
    exact eb_rg (p := nrm 3 (nI 0)) rfl nrm_30
  · replace e := ite_f c1 e
    refine eb_n 2 (6, [.ref a0, .int a1], [.ref a0, .int a1], h) (rfl) ?_
    obtain ⟨g2, e⟩ := gd_some e
    refine eb_g (p := hT h a0 = 3) (9, [.ref a0, .int a1], [.int (hI h a0 7), .int a1], h) rfl g2 ?_
    refine eb_b (c := (hI h a0 7) ≤ a1) (21, [.ref a0, .int a1], [], h) (12, [.ref a0, .int a1], [], h) rfl (fun c3 => ?_) (fun c3 => ?_)
    · replace e := ite_t c3 e
      refine eb_n 1 (22, [.ref a0, .int a1], [.int (nI 0)], h) (rfl) ?_
      rw [(sp_inj e).1, (sp_inj e).2]
      exact eb_rg (p := nrm 3 (nI 0)) rfl nrm_30
    · replace e := ite_f c3 e
      refine eb_n 2 (14, [.ref a0, .int a1], [.int (nI 4), .int a1], h) (rfl) ?_
      refine eb_b (c := (nI 4) ≤ a1) (21, [.ref a0, .int a1], [], h) (17, [.ref a0, .int a1], [], h) rfl (fun c4 => ?_) (fun c4 => ?_)
      · replace e := ite_t c4 e
        refine eb_n 1 (22, [.ref a0, .int a1], [.int (nI 0)], h) (rfl) ?_
        rw [(sp_inj e).1, (sp_inj e).2]
        exact eb_rg (p := nrm 3 (nI 0)) rfl nrm_30
      · replace e := ite_f c4 e
        refine eb_n 2 (22, [.ref a0, .int a1], [.int (nI 1)], h) (rfl) ?_
        rw [(sp_inj e).1, (sp_inj e).2]
        exact eb_rg (p := nrm 3 (nI 1)) rfl nrm_31
set_option maxRecDepth 100000 in
set_option maxHeartbeats 4000000 in
theorem f_River_latestRack_b27_ev {h' : AH} {r : Nat} (d : Nat) (hd : 1 ≤ d)  (h : AH)  (s0 : Nat) (s1 : Int32) (d0 : Value) (e : f_River_latestRack_b27  h s0 s1 = some (h', r)) : Eb (Ev tb mL d) 215 (27, [d0], [.int s1, .ref s0], h) h' (some (.ref r)) := by
  unfold f_River_latestRack_b27 at e
  obtain ⟨g1, e⟩ := gd_some e
  refine eb_g (p := hT h s0 = 105 ∧ inb s1 (hL h s0)) (28, [d0], [.ref (hR h s0 (ix s1))], h) rfl g1 ?_
  rw [(sp_inj e).1, (sp_inj e).2]
  exact eb_r rfl
set_option maxRecDepth 100000 in
set_option maxHeartbeats 4000000 in
theorem f_River_latestRack_ev (d0 : Nat) (hd0 : 2 ≤ d0) {h' : AH} {r : Nat} {h : AH} {a0 : Nat} (e : f_River_latestRack h a0 = some (h', r)) : Ev tb mL d0 215 [.ref a0] h h' (some (.ref r)) := by
  obtain ⟨d, rfl⟩ : ∃ d, d0 = d + 1 := ⟨d0 - 1, by omega⟩
  have hd : 1 ≤ d := by omega
  refine ⟨Nat.le_of_ble_eq_true rfl, ?_⟩
  show Eb (Ev tb mL d) 215 (0, [.ref a0], [], h) h' (some (.ref r))
  unfold f_River_latestRack at e
  refine eb_n 1 (1, [.ref a0], [.ref a0], h) (rfl) ?_
  obtain ⟨g1, e⟩ := gd_some e
  refine eb_g (p := hT h a0 = 3) (4, [.ref a0], [.ref (hR h a0 1)], h) rfl g1 ?_
  refine eb_n 2 (6, [.ref a0], [.ref a0, .ref a0, .ref (hR h a0 1)], h) (rfl) ?_
  refine eb_g (p := hT h a0 = 3) (9, [.ref a0], [.int (hI h a0 7), .ref a0, .ref (hR h a0 1)], h) rfl g1 ?_
  refine eb_n 2 (11, [.ref a0], [.int ((hI h a0 7) - (nI 1)), .ref a0, .ref (hR h a0 1)], h) (rfl) ?_
  obtain ⟨h2, r3, eh2, e⟩ := bn_some e
  refine eb_cg (p := hT h a0 = 3) rfl g1 (f_River_hasRack_ev d (Nat.le_trans (by decide) hd) eh2) ?_
  show Eb _ 215 (14, [.ref a0], [.int r3, .ref (hR h a0 1)], h2) _ _
  refine eb_b (c := r3 = 0) (26, [.ref a0], [.ref (hR h a0 1)], h2) (17, [.ref a0], [.ref (hR h a0 1)], h2) rfl (fun c4 => ?_) (fun c4 => ?_)
  · replace e := ite_t c4 e
    refine eb_n 1 (27, [.ref a0], [.int (nI 0), .ref (hR h a0 1)], h2) (rfl) ?_
    exact f_River_latestRack_b27_ev d hd   _ _ _ _ e
  · replace e := ite_f c4 e
    refine eb_n 1 (18, [.ref a0], [.ref a0, .ref (hR h a0 1)], h2) (rfl) ?_
    obtain ⟨g5, e⟩ := gd_some e
    refine eb_g (p := hT h2 a0 = 3) (21, [.ref a0], [.int (hI h2 a0 7), .ref (hR h a0 1)], h2) rfl g5 ?_
    refine eb_n 3 (27, [.ref a0], [.int ((hI h2 a0 7) - (nI 1)), .ref (hR h a0 1)], h2) (rfl) ?_
    exact f_River_latestRack_b27_ev d hd   _ _ _ _ e
set_option maxRecDepth 100000 in
set_option maxHeartbeats 4000000 in
theorem f_Rack_clear_ev (d0 : Nat) (hd0 : 1 ≤ d0) {h' : AH} {h : AH} {a0 : Nat} (e : f_Rack_clear h a0 = some h') : Ev tb mL d0 221 [.ref a0] h h' none := by
  obtain ⟨d, rfl⟩ : ∃ d, d0 = d + 1 := ⟨d0 - 1, by omega⟩
  have hd : 0 ≤ d := by omega
  refine ⟨Nat.le_of_ble_eq_true rfl, ?_⟩
  show Eb (Ev tb mL d) 221 (0, [.ref a0], [], h) h' none
  unfold f_Rack_clear at e
  refine eb_n 2 (2, [.ref a0], [.int (nI 0), .ref a0], h) (rfl) ?_
  obtain ⟨g1, e⟩ := gd_some e
  obtain ⟨h2, eh2, e⟩ := lq_some e
  refine eb_g (p := hT h a0 = 5) (5, [.ref a0], [], h2) (by rw [eh2]; rfl) g1 ?_
  refine eb_n 2 (7, [.ref a0], [.int (nI 0), .ref a0], h2) (rfl) ?_
  obtain ⟨g3, e⟩ := gd_some e
  obtain ⟨h4, eh4, e⟩ := lq_some e
  refine eb_g (p := hT h2 a0 = 5) (10, [.ref a0], [], h4) (by rw [eh4]; rfl) g3 ?_
  rw [sv_inj e]
  exact eb_r rfl
set_option maxRecDepth 100000 in
set_option maxHeartbeats 4000000 in
theorem f_River_hasPeeler_ev (d0 : Nat) (hd0 : 1 ≤ d0) {h' : AH} {r : Int32} {h : AH} {a0 : Nat} {a1 : Int32} (e : f_River_hasPeeler h a0 a1 = some (h', r)) : Ev tb mL d0 58 [.ref a0, .int a1] h h' (some (.int r)) := by
  obtain ⟨d, rfl⟩ : ∃ d, d0 = d + 1 := ⟨d0 - 1, by omega⟩
  have hd : 0 ≤ d := by omega
  refine ⟨Nat.le_of_ble_eq_true rfl, ?_⟩
  show Eb (Ev tb mL d) 58 (0, [.ref a0, .int a1], [], h) h' (some (.int r))
  unfold f_River_hasPeeler at e
  refine eb_n 1 (1, [.ref a0, .int a1], [.int a1], h) (rfl) ?_
  refine eb_b (c := a1 < 0) (22, [.ref a0, .int a1], [], h) (4, [.ref a0, .int a1], [], h) rfl (fun c1 => ?_) (fun c1 => ?_)
  · replace e := ite_t c1 e
    refine eb_n 1 (23, [.ref a0, .int a1], [.int (nI 0)], h) (rfl) ?_
    rw [(sp_inj e).1, (sp_inj e).2]
    exact eb_rg (p := nrm 3 (nI 0)) rfl nrm_30
  · replace e := ite_f c1 e
    refine eb_n 2 (6, [.ref a0, .int a1], [.ref a0, .int a1], h) (rfl) ?_
    obtain ⟨g2, e⟩ := gd_some e
    refine eb_g (p := hT h a0 = 3) (9, [.ref a0, .int a1], [.int (hI h a0 8), .int a1], h) rfl g2 ?_
    refine eb_b (c := (hI h a0 8) ≤ a1) (22, [.ref a0, .int a1], [], h) (12, [.ref a0, .int a1], [], h) rfl (fun c3 => ?_) (fun c3 => ?_)
    · replace e := ite_t c3 e
      refine eb_n 1 (23, [.ref a0, .int a1], [.int (nI 0)], h) (rfl) ?_
      rw [(sp_inj e).1, (sp_inj e).2]
      exact eb_rg (p := nrm 3 (nI 0)) rfl nrm_30
    · replace e := ite_f c3 e
      refine eb_n 2 (15, [.ref a0, .int a1], [.int (nI 8), .int a1], h) (rfl) ?_
      refine eb_b (c := (nI 8) ≤ a1) (22, [.ref a0, .int a1], [], h) (18, [.ref a0, .int a1], [], h) rfl (fun c4 => ?_) (fun c4 => ?_)
      · replace e := ite_t c4 e
        refine eb_n 1 (23, [.ref a0, .int a1], [.int (nI 0)], h) (rfl) ?_
        rw [(sp_inj e).1, (sp_inj e).2]
        exact eb_rg (p := nrm 3 (nI 0)) rfl nrm_30
      · replace e := ite_f c4 e
        refine eb_n 2 (23, [.ref a0, .int a1], [.int (nI 1)], h) (rfl) ?_
        rw [(sp_inj e).1, (sp_inj e).2]
        exact eb_rg (p := nrm 3 (nI 1)) rfl nrm_31
set_option maxRecDepth 100000 in
set_option maxHeartbeats 4000000 in
theorem f_River_latestPeeler_b27_ev {h' : AH} {r : Nat} (d : Nat) (hd : 1 ≤ d)  (h : AH)  (s0 : Nat) (s1 : Int32) (d0 : Value) (e : f_River_latestPeeler_b27  h s0 s1 = some (h', r)) : Eb (Ev tb mL d) 196 (27, [d0], [.int s1, .ref s0], h) h' (some (.ref r)) := by
  unfold f_River_latestPeeler_b27 at e
  obtain ⟨g1, e⟩ := gd_some e
  refine eb_g (p := hT h s0 = 106 ∧ inb s1 (hL h s0)) (28, [d0], [.ref (hR h s0 (ix s1))], h) rfl g1 ?_
  rw [(sp_inj e).1, (sp_inj e).2]
  exact eb_r rfl
set_option maxRecDepth 100000 in
set_option maxHeartbeats 4000000 in
theorem f_River_latestPeeler_ev (d0 : Nat) (hd0 : 2 ≤ d0) {h' : AH} {r : Nat} {h : AH} {a0 : Nat} (e : f_River_latestPeeler h a0 = some (h', r)) : Ev tb mL d0 196 [.ref a0] h h' (some (.ref r)) := by
  obtain ⟨d, rfl⟩ : ∃ d, d0 = d + 1 := ⟨d0 - 1, by omega⟩
  have hd : 1 ≤ d := by omega
  refine ⟨Nat.le_of_ble_eq_true rfl, ?_⟩
  show Eb (Ev tb mL d) 196 (0, [.ref a0], [], h) h' (some (.ref r))
  unfold f_River_latestPeeler at e
  refine eb_n 1 (1, [.ref a0], [.ref a0], h) (rfl) ?_
  obtain ⟨g1, e⟩ := gd_some e
  refine eb_g (p := hT h a0 = 3) (4, [.ref a0], [.ref (hR h a0 2)], h) rfl g1 ?_
  refine eb_n 2 (6, [.ref a0], [.ref a0, .ref a0, .ref (hR h a0 2)], h) (rfl) ?_
  refine eb_g (p := hT h a0 = 3) (9, [.ref a0], [.int (hI h a0 8), .ref a0, .ref (hR h a0 2)], h) rfl g1 ?_
  refine eb_n 2 (11, [.ref a0], [.int ((hI h a0 8) - (nI 1)), .ref a0, .ref (hR h a0 2)], h) (rfl) ?_
  obtain ⟨h2, r3, eh2, e⟩ := bn_some e
  refine eb_cg (p := hT h a0 = 3) rfl g1 (f_River_hasPeeler_ev d (Nat.le_trans (by decide) hd) eh2) ?_
  show Eb _ 196 (14, [.ref a0], [.int r3, .ref (hR h a0 2)], h2) _ _
  refine eb_b (c := r3 = 0) (26, [.ref a0], [.ref (hR h a0 2)], h2) (17, [.ref a0], [.ref (hR h a0 2)], h2) rfl (fun c4 => ?_) (fun c4 => ?_)
  · replace e := ite_t c4 e
    refine eb_n 1 (27, [.ref a0], [.int (nI 0), .ref (hR h a0 2)], h2) (rfl) ?_
    exact f_River_latestPeeler_b27_ev d hd   _ _ _ _ e
  · replace e := ite_f c4 e
    refine eb_n 1 (18, [.ref a0], [.ref a0, .ref (hR h a0 2)], h2) (rfl) ?_
    obtain ⟨g5, e⟩ := gd_some e
    refine eb_g (p := hT h2 a0 = 3) (21, [.ref a0], [.int (hI h2 a0 8), .ref (hR h a0 2)], h2) rfl g5 ?_
    refine eb_n 3 (27, [.ref a0], [.int ((hI h2 a0 8) - (nI 1)), .ref (hR h a0 2)], h2) (rfl) ?_
    exact f_River_latestPeeler_b27_ev d hd   _ _ _ _ e
set_option maxRecDepth 100000 in
set_option maxHeartbeats 4000000 in
theorem f_Peeler_clear_ev (d0 : Nat) (hd0 : 1 ≤ d0) {h' : AH} {h : AH} {a0 : Nat} (e : f_Peeler_clear h a0 = some h') : Ev tb mL d0 222 [.ref a0] h h' none := by
  obtain ⟨d, rfl⟩ : ∃ d, d0 = d + 1 := ⟨d0 - 1, by omega⟩
  have hd : 0 ≤ d := by omega
  refine ⟨Nat.le_of_ble_eq_true rfl, ?_⟩
  show Eb (Ev tb mL d) 222 (0, [.ref a0], [], h) h' none
  unfold f_Peeler_clear at e
  refine eb_n 2 (3, [.ref a0], [.int (nI 20), .ref a0], h) (rfl) ?_
  obtain ⟨g1, e⟩ := gd_some e
  obtain ⟨h2, eh2, e⟩ := lq_some e
  refine eb_g (p := hT h a0 = 6) (6, [.ref a0], [], h2) (by rw [eh2]; rfl) g1 ?_
  refine eb_n 2 (8, [.ref a0], [.int (nI 0), .ref a0], h2) (rfl) ?_
  obtain ⟨g3, e⟩ := gd_some e
  obtain ⟨h4, eh4, e⟩ := lq_some e
  refine eb_g (p := hT h2 a0 = 6) (11, [.ref a0], [], h4) (by rw [eh4]; rfl) g3 ?_
  refine eb_n 2 (13, [.ref a0], [.int (nI 0), .ref a0], h4) (rfl) ?_
  obtain ⟨g5, e⟩ := gd_some e
  obtain ⟨h6, eh6, e⟩ := lq_some e
  refine eb_g (p := hT h4 a0 = 6) (16, [.ref a0], [], h6) (by rw [eh6]; rfl) g5 ?_
  refine eb_n 2 (18, [.ref a0], [.int (nI 0), .ref a0], h6) (rfl) ?_
  obtain ⟨g7, e⟩ := gd_some e
  obtain ⟨h8, eh8, e⟩ := lq_some e
  refine eb_g (p := hT h6 a0 = 6 ∧ ((nI 0) = 0 ∨ (nI 0) = 1)) (21, [.ref a0], [], h8) (by rw [eh8]; rfl) g7 ?_
  rw [sv_inj e]
  exact eb_r rfl
set_option maxRecDepth 100000 in
set_option maxHeartbeats 4000000 in
theorem f_River_hasBoat_ev (d0 : Nat) (hd0 : 1 ≤ d0) {h' : AH} {r : Int32} {h : AH} {a0 : Nat} {a1 : Int32} (e : f_River_hasBoat h a0 a1 = some (h', r)) : Ev tb mL d0 60 [.ref a0, .int a1] h h' (some (.int r)) := by
  obtain ⟨d, rfl⟩ : ∃ d, d0 = d + 1 := ⟨d0 - 1, by omega⟩
  have hd : 0 ≤ d := by omega
  refine ⟨Nat.le_of_ble_eq_true rfl, ?_⟩
  show Eb (Ev tb mL d) 60 (0, [.ref a0, .int a1], [], h) h' (some (.int r))
  unfold f_River_hasBoat at e
  refine eb_n 1 (1, [.ref a0, .int a1], [.int a1], h) (rfl) ?_
  refine eb_b (c := a1 < 0) (21, [.ref a0, .int a1], [], h) (4, [.ref a0, .int a1], [], h) rfl (fun c1 => ?_) (fun c1 => ?_)
  · replace e := ite_t c1 e
    refine eb_n 1 (22, [.ref a0, .int a1], [.int (nI 0)], h) (rfl) ?_
    rw [(sp_inj e).1, (sp_inj e).2]
    exact eb_rg (p := nrm 3 (nI 0)) rfl nrm_30
  · replace e := ite_f c1 e
    refine eb_n 2 (6, [.ref a0, .int a1], [.ref a0, .int a1], h) (rfl) ?_
    obtain ⟨g2, e⟩ := gd_some e
    refine eb_g (p := hT h a0 = 3) (9, [.ref a0, .int a1], [.int (hI h a0 9), .int a1], h) rfl g2 ?_
    refine eb_b (c := (hI h a0 9) ≤ a1) (21, [.ref a0, .int a1], [], h) (12, [.ref a0, .int a1], [], h) rfl (fun c3 => ?_) (fun c3 => ?_)
    · replace e := ite_t c3 e
      refine eb_n 1 (22, [.ref a0, .int a1], [.int (nI 0)], h) (rfl) ?_
      rw [(sp_inj e).1, (sp_inj e).2]
      exact eb_rg (p := nrm 3 (nI 0)) rfl nrm_30
    · replace e := ite_f c3 e
      refine eb_n 2 (14, [.ref a0, .int a1], [.int (nI 4), .int a1], h) (rfl) ?_
      refine eb_b (c := (nI 4) ≤ a1) (21, [.ref a0, .int a1], [], h) (17, [.ref a0, .int a1], [], h) rfl (fun c4 => ?_) (fun c4 => ?_)
      · replace e := ite_t c4 e
        refine eb_n 1 (22, [.ref a0, .int a1], [.int (nI 0)], h) (rfl) ?_
        rw [(sp_inj e).1, (sp_inj e).2]
        exact eb_rg (p := nrm 3 (nI 0)) rfl nrm_30
      · replace e := ite_f c4 e
        refine eb_n 2 (22, [.ref a0, .int a1], [.int (nI 1)], h) (rfl) ?_
        rw [(sp_inj e).1, (sp_inj e).2]
        exact eb_rg (p := nrm 3 (nI 1)) rfl nrm_31
set_option maxRecDepth 100000 in
set_option maxHeartbeats 4000000 in
theorem f_River_latestBoat_b27_ev {h' : AH} {r : Nat} (d : Nat) (hd : 1 ≤ d)  (h : AH)  (s0 : Nat) (s1 : Int32) (d0 : Value) (e : f_River_latestBoat_b27  h s0 s1 = some (h', r)) : Eb (Ev tb mL d) 197 (27, [d0], [.int s1, .ref s0], h) h' (some (.ref r)) := by
  unfold f_River_latestBoat_b27 at e
  obtain ⟨g1, e⟩ := gd_some e
  refine eb_g (p := hT h s0 = 107 ∧ inb s1 (hL h s0)) (28, [d0], [.ref (hR h s0 (ix s1))], h) rfl g1 ?_
  rw [(sp_inj e).1, (sp_inj e).2]
  exact eb_r rfl
set_option maxRecDepth 100000 in
set_option maxHeartbeats 4000000 in
theorem f_River_latestBoat_ev (d0 : Nat) (hd0 : 2 ≤ d0) {h' : AH} {r : Nat} {h : AH} {a0 : Nat} (e : f_River_latestBoat h a0 = some (h', r)) : Ev tb mL d0 197 [.ref a0] h h' (some (.ref r)) := by
  obtain ⟨d, rfl⟩ : ∃ d, d0 = d + 1 := ⟨d0 - 1, by omega⟩
  have hd : 1 ≤ d := by omega
  refine ⟨Nat.le_of_ble_eq_true rfl, ?_⟩
  show Eb (Ev tb mL d) 197 (0, [.ref a0], [], h) h' (some (.ref r))
  unfold f_River_latestBoat at e
  refine eb_n 1 (1, [.ref a0], [.ref a0], h) (rfl) ?_
  obtain ⟨g1, e⟩ := gd_some e
  refine eb_g (p := hT h a0 = 3) (4, [.ref a0], [.ref (hR h a0 3)], h) rfl g1 ?_
  refine eb_n 2 (6, [.ref a0], [.ref a0, .ref a0, .ref (hR h a0 3)], h) (rfl) ?_
  refine eb_g (p := hT h a0 = 3) (9, [.ref a0], [.int (hI h a0 9), .ref a0, .ref (hR h a0 3)], h) rfl g1 ?_
  refine eb_n 2 (11, [.ref a0], [.int ((hI h a0 9) - (nI 1)), .ref a0, .ref (hR h a0 3)], h) (rfl) ?_
  obtain ⟨h2, r3, eh2, e⟩ := bn_some e
  refine eb_cg (p := hT h a0 = 3) rfl g1 (f_River_hasBoat_ev d (Nat.le_trans (by decide) hd) eh2) ?_
  show Eb _ 197 (14, [.ref a0], [.int r3, .ref (hR h a0 3)], h2) _ _
  refine eb_b (c := r3 = 0) (26, [.ref a0], [.ref (hR h a0 3)], h2) (17, [.ref a0], [.ref (hR h a0 3)], h2) rfl (fun c4 => ?_) (fun c4 => ?_)
  · replace e := ite_t c4 e
    refine eb_n 1 (27, [.ref a0], [.int (nI 0), .ref (hR h a0 3)], h2) (rfl) ?_
    exact f_River_latestBoat_b27_ev d hd   _ _ _ _ e
  · replace e := ite_f c4 e
    refine eb_n 1 (18, [.ref a0], [.ref a0, .ref (hR h a0 3)], h2) (rfl) ?_
    obtain ⟨g5, e⟩ := gd_some e
    refine eb_g (p := hT h2 a0 = 3) (21, [.ref a0], [.int (hI h2 a0 9), .ref (hR h a0 3)], h2) rfl g5 ?_
    refine eb_n 3 (27, [.ref a0], [.int ((hI h2 a0 9) - (nI 1)), .ref (hR h a0 3)], h2) (rfl) ?_
    exact f_River_latestBoat_b27_ev d hd   _ _ _ _ e
set_option maxRecDepth 100000 in
set_option maxHeartbeats 4000000 in
theorem f_Boat_clear_ev (d0 : Nat) (hd0 : 1 ≤ d0) {h' : AH} {h : AH} {a0 : Nat} (e : f_Boat_clear h a0 = some h') : Ev tb mL d0 223 [.ref a0] h h' none := by
  obtain ⟨d, rfl⟩ : ∃ d, d0 = d + 1 := ⟨d0 - 1, by omega⟩
  have hd : 0 ≤ d := by omega
  refine ⟨Nat.le_of_ble_eq_true rfl, ?_⟩
  show Eb (Ev tb mL d) 223 (0, [.ref a0], [], h) h' none
  unfold f_Boat_clear at e
  refine eb_n 2 (2, [.ref a0], [.int (nI 0), .ref a0], h) (rfl) ?_
  obtain ⟨g1, e⟩ := gd_some e
  obtain ⟨h2, eh2, e⟩ := lq_some e
  refine eb_g (p := hT h a0 = 7) (5, [.ref a0], [], h2) (by rw [eh2]; rfl) g1 ?_
  refine eb_n 2 (7, [.ref a0], [.int (nI 0), .ref a0], h2) (rfl) ?_
  obtain ⟨g3, e⟩ := gd_some e
  obtain ⟨h4, eh4, e⟩ := lq_some e
  refine eb_g (p := hT h2 a0 = 7) (10, [.ref a0], [], h4) (by rw [eh4]; rfl) g3 ?_
  refine eb_n 2 (12, [.ref a0], [.int (nI 0), .ref a0], h4) (rfl) ?_
  obtain ⟨g5, e⟩ := gd_some e
  obtain ⟨h6, eh6, e⟩ := lq_some e
  refine eb_g (p := hT h4 a0 = 7) (15, [.ref a0], [], h6) (by rw [eh6]; rfl) g5 ?_
  refine eb_n 2 (17, [.ref a0], [.int (-nI 1), .ref a0], h6) (rfl) ?_
  obtain ⟨g7, e⟩ := gd_some e
  obtain ⟨h8, eh8, e⟩ := lq_some e
  refine eb_g (p := hT h6 a0 = 7) (20, [.ref a0], [], h8) (by rw [eh8]; rfl) g7 ?_
  refine eb_n 2 (22, [.ref a0], [.int (nI 0), .ref a0], h8) (rfl) ?_
  obtain ⟨g9, e⟩ := gd_some e
  obtain ⟨h10, eh10, e⟩ := lq_some e
  refine eb_g (p := hT h8 a0 = 7) (25, [.ref a0], [], h10) (by rw [eh10]; rfl) g9 ?_
  rw [sv_inj e]
  exact eb_r rfl
set_option maxRecDepth 100000 in
set_option maxHeartbeats 4000000 in
theorem f_River_addOne_b94_ev {h' : AH} (d : Nat) (hd : 2 ≤ d)  (h : AH) (a0 : Nat) (a1 : Int32)   (e : f_River_addOne_b94  h a0 a1 = some h') : Eb (Ev tb mL d) 214 (94, [.ref a0, .int a1], [], h) h' none := by
  unfold f_River_addOne_b94 at e
  refine eb_n 2 (97, [.ref a0, .int a1], [.int (nI 11), .int a1], h) (rfl) ?_
  refine eb_b (c := ¬ a1 = (nI 11)) (125, [.ref a0, .int a1], [], h) (100, [.ref a0, .int a1], [], h) rfl (fun c1 => ?_) (fun c1 => ?_)
  · replace e := ite_t c1 e
    rw [sv_inj e]
    exact eb_r rfl
  · replace e := ite_f c1 e
    refine eb_n 1 (101, [.ref a0, .int a1], [.ref a0], h) (rfl) ?_
    obtain ⟨g2, e⟩ := gd_some e
    refine eb_g (p := hT h a0 = 3) (104, [.ref a0, .int a1], [.int (hI h a0 9)], h) rfl g2 ?_
    refine eb_n 1 (105, [.ref a0, .int a1], [.int (nI 4), .int (hI h a0 9)], h) (rfl) ?_
    refine eb_b (c := (nI 4) ≤ (hI h a0 9)) (125, [.ref a0, .int a1], [], h) (108, [.ref a0, .int a1], [], h) rfl (fun c3 => ?_) (fun c3 => ?_)
    · replace e := ite_t c3 e
      rw [sv_inj e]
      exact eb_r rfl
    · replace e := ite_f c3 e
      refine eb_n 2 (110, [.ref a0, .int a1], [.ref a0, .ref a0], h) (rfl) ?_
      refine eb_g (p := hT h a0 = 3) (113, [.ref a0, .int a1], [.int (hI h a0 9), .ref a0], h) rfl g2 ?_
      refine eb_n 2 (115, [.ref a0, .int a1], [.int ((hI h a0 9) + (nI 1)), .ref a0], h) (rfl) ?_
      obtain ⟨h4, eh4, e⟩ := lq_some e
      refine eb_g (p := hT h a0 = 3) (118, [.ref a0, .int a1], [], h4) (by rw [eh4]; rfl) g2 ?_
      refine eb_n 1 (119, [.ref a0, .int a1], [.ref a0], h4) (rfl) ?_
      obtain ⟨g5, e⟩ := gd_some e
      obtain ⟨h6, r7, eh6, e⟩ := bn_some e
      refine eb_cg (p := hT h4 a0 = 3) rfl g5 (f_River_latestBoat_ev d (Nat.le_trans (by decide) hd) eh6) ?_
      show Eb _ 214 (122, [.ref a0, .int a1], [.ref r7], h6) _ _
      obtain ⟨g8, e⟩ := gd_some e
      obtain ⟨h9, eh9, e⟩ := bv_some e
      refine eb_cg (p := hT h6 r7 = 7) rfl g8 (f_Boat_clear_ev d (Nat.le_trans (by decide) hd) eh9) ?_
      show Eb _ 214 (125, [.ref a0, .int a1], [], h9) _ _
      rw [sv_inj e]
      exact eb_r rfl
set_option maxRecDepth 100000 in
set_option maxHeartbeats 4000000 in
theorem f_River_addOne_b59_ev {h' : AH} (d : Nat) (hd : 2 ≤ d)  (h : AH) (a0 : Nat) (a1 : Int32)   (e : f_River_addOne_b59  h a0 a1 = some h') : Eb (Ev tb mL d) 214 (59, [.ref a0, .int a1], [], h) h' none := by
  unfold f_River_addOne_b59 at e
  refine eb_n 2 (62, [.ref a0, .int a1], [.int (nI 7), .int a1], h) (rfl) ?_
  refine eb_b (c := ¬ a1 = (nI 7)) (94, [.ref a0, .int a1], [], h) (65, [.ref a0, .int a1], [], h) rfl (fun c1 => ?_) (fun c1 => ?_)
  · replace e := ite_t c1 e
    exact f_River_addOne_b94_ev d hd   _ _ _  e
  · replace e := ite_f c1 e
    refine eb_n 1 (66, [.ref a0, .int a1], [.ref a0], h) (rfl) ?_
    obtain ⟨g2, e⟩ := gd_some e
    refine eb_g (p := hT h a0 = 3) (69, [.ref a0, .int a1], [.int (hI h a0 8)], h) rfl g2 ?_
    refine eb_n 1 (71, [.ref a0, .int a1], [.int (nI 8), .int (hI h a0 8)], h) (rfl) ?_
    refine eb_b (c := (nI 8) ≤ (hI h a0 8)) (94, [.ref a0, .int a1], [], h) (74, [.ref a0, .int a1], [], h) rfl (fun c3 => ?_) (fun c3 => ?_)
    · replace e := ite_t c3 e
      exact f_River_addOne_b94_ev d hd   _ _ _  e
    · replace e := ite_f c3 e
      refine eb_n 2 (76, [.ref a0, .int a1], [.ref a0, .ref a0], h) (rfl) ?_
      refine eb_g (p := hT h a0 = 3) (79, [.ref a0, .int a1], [.int (hI h a0 8), .ref a0], h) rfl g2 ?_
      refine eb_n 2 (81, [.ref a0, .int a1], [.int ((hI h a0 8) + (nI 1)), .ref a0], h) (rfl) ?_
      obtain ⟨h4, eh4, e⟩ := lq_some e
      refine eb_g (p := hT h a0 = 3) (84, [.ref a0, .int a1], [], h4) (by rw [eh4]; rfl) g2 ?_
      refine eb_n 1 (85, [.ref a0, .int a1], [.ref a0], h4) (rfl) ?_
      obtain ⟨g5, e⟩ := gd_some e
      obtain ⟨h6, r7, eh6, e⟩ := bn_some e
      refine eb_cg (p := hT h4 a0 = 3) rfl g5 (f_River_latestPeeler_ev d (Nat.le_trans (by decide) hd) eh6) ?_
      show Eb _ 214 (88, [.ref a0, .int a1], [.ref r7], h6) _ _
      obtain ⟨g8, e⟩ := gd_some e
      obtain ⟨h9, eh9, e⟩ := bv_some e
      refine eb_cg (p := hT h6 r7 = 6) rfl g8 (f_Peeler_clear_ev d (Nat.le_trans (by decide) hd) eh9) ?_
      show Eb _ 214 (91, [.ref a0, .int a1], [], h9) _ _
      refine eb_n 1 (125, [.ref a0, .int a1], [], h9) (rfl) ?_
      rw [sv_inj e]
      exact eb_r rfl
set_option maxRecDepth 100000 in
set_option maxHeartbeats 4000000 in
theorem f_River_addOne_b26_ev {h' : AH} (d : Nat) (hd : 2 ≤ d)  (h : AH) (a0 : Nat) (a1 : Int32)   (e : f_River_addOne_b26  h a0 a1 = some h') : Eb (Ev tb mL d) 214 (26, [.ref a0, .int a1], [], h) h' none := by
  unfold f_River_addOne_b26 at e
  refine eb_n 2 (28, [.ref a0, .int a1], [.int (nI 5), .int a1], h) (rfl) ?_
  refine eb_b (c := ¬ a1 = (nI 5)) (59, [.ref a0, .int a1], [], h) (31, [.ref a0, .int a1], [], h) rfl (fun c1 => ?_) (fun c1 => ?_)
  · replace e := ite_t c1 e
    exact f_River_addOne_b59_ev d hd   _ _ _  e
  · replace e := ite_f c1 e
    refine eb_n 1 (32, [.ref a0, .int a1], [.ref a0], h) (rfl) ?_
    obtain ⟨g2, e⟩ := gd_some e
    refine eb_g (p := hT h a0 = 3) (35, [.ref a0, .int a1], [.int (hI h a0 7)], h) rfl g2 ?_
    refine eb_n 1 (36, [.ref a0, .int a1], [.int (nI 4), .int (hI h a0 7)], h) (rfl) ?_
    refine eb_b (c := (nI 4) ≤ (hI h a0 7)) (59, [.ref a0, .int a1], [], h) (39, [.ref a0, .int a1], [], h) rfl (fun c3 => ?_) (fun c3 => ?_)
    · replace e := ite_t c3 e
      exact f_River_addOne_b59_ev d hd   _ _ _  e
    · replace e := ite_f c3 e
      refine eb_n 2 (41, [.ref a0, .int a1], [.ref a0, .ref a0], h) (rfl) ?_
      refine eb_g (p := hT h a0 = 3) (44, [.ref a0, .int a1], [.int (hI h a0 7), .ref a0], h) rfl g2 ?_
      refine eb_n 2 (46, [.ref a0, .int a1], [.int ((hI h a0 7) + (nI 1)), .ref a0], h) (rfl) ?_
      obtain ⟨h4, eh4, e⟩ := lq_some e
      refine eb_g (p := hT h a0 = 3) (49, [.ref a0, .int a1], [], h4) (by rw [eh4]; rfl) g2 ?_
      refine eb_n 1 (50, [.ref a0, .int a1], [.ref a0], h4) (rfl) ?_
      obtain ⟨g5, e⟩ := gd_some e
      obtain ⟨h6, r7, eh6, e⟩ := bn_some e
      refine eb_cg (p := hT h4 a0 = 3) rfl g5 (f_River_latestRack_ev d (Nat.le_trans (by decide) hd) eh6) ?_
      show Eb _ 214 (53, [.ref a0, .int a1], [.ref r7], h6) _ _
      obtain ⟨g8, e⟩ := gd_some e
      obtain ⟨h9, eh9, e⟩ := bv_some e
      refine eb_cg (p := hT h6 r7 = 5) rfl g8 (f_Rack_clear_ev d (Nat.le_trans (by decide) hd) eh9) ?_
      show Eb _ 214 (56, [.ref a0, .int a1], [], h9) _ _
      refine eb_n 1 (125, [.ref a0, .int a1], [], h9) (rfl) ?_
      rw [sv_inj e]
      exact eb_r rfl
set_option maxRecDepth 100000 in
set_option maxHeartbeats 4000000 in
theorem f_River_addOne_ev (d0 : Nat) (hd0 : 3 ≤ d0) {h' : AH} {h : AH} {a0 : Nat} {a1 : Int32} (e : f_River_addOne h a0 a1 = some h') : Ev tb mL d0 214 [.ref a0, .int a1] h h' none := by
  obtain ⟨d, rfl⟩ : ∃ d, d0 = d + 1 := ⟨d0 - 1, by omega⟩
  have hd : 2 ≤ d := by omega
  refine ⟨Nat.le_of_ble_eq_true rfl, ?_⟩
  show Eb (Ev tb mL d) 214 (0, [.ref a0, .int a1], [], h) h' none
  unfold f_River_addOne at e
  refine eb_n 2 (2, [.ref a0, .int a1], [.int (nI 1), .int a1], h) (rfl) ?_
  refine eb_b (c := ¬ a1 = (nI 1)) (26, [.ref a0, .int a1], [], h) (5, [.ref a0, .int a1], [], h) rfl (fun c1 => ?_) (fun c1 => ?_)
  · replace e := ite_t c1 e
    exact f_River_addOne_b26_ev d hd   _ _ _  e
  · replace e := ite_f c1 e
    refine eb_n 1 (6, [.ref a0, .int a1], [.ref a0], h) (rfl) ?_
    obtain ⟨g2, e⟩ := gd_some e
    refine eb_g (p := hT h a0 = 3) (9, [.ref a0, .int a1], [.int (hI h a0 6)], h) rfl g2 ?_
    refine eb_n 1 (10, [.ref a0, .int a1], [.int (nI 4), .int (hI h a0 6)], h) (rfl) ?_
    refine eb_b (c := (nI 4) ≤ (hI h a0 6)) (26, [.ref a0, .int a1], [], h) (13, [.ref a0, .int a1], [], h) rfl (fun c3 => ?_) (fun c3 => ?_)
    · replace e := ite_t c3 e
      exact f_River_addOne_b26_ev d hd   _ _ _  e
    · replace e := ite_f c3 e
      refine eb_n 2 (15, [.ref a0, .int a1], [.ref a0, .ref a0], h) (rfl) ?_
      refine eb_g (p := hT h a0 = 3) (18, [.ref a0, .int a1], [.int (hI h a0 6), .ref a0], h) rfl g2 ?_
      refine eb_n 2 (20, [.ref a0, .int a1], [.int ((hI h a0 6) + (nI 1)), .ref a0], h) (rfl) ?_
      obtain ⟨h4, eh4, e⟩ := lq_some e
      refine eb_g (p := hT h a0 = 3) (23, [.ref a0, .int a1], [], h4) (by rw [eh4]; rfl) g2 ?_
      refine eb_n 1 (125, [.ref a0, .int a1], [], h4) (rfl) ?_
      rw [sv_inj e]
      exact eb_r rfl
set_option maxRecDepth 100000 in
set_option maxHeartbeats 4000000 in
theorem f_Names_addName_ev (d0 : Nat) (hd0 : 4 ≤ d0) {h' : AH} {r : Int32} {h : AH} {a0 : Nat} {a1 : Nat} {a2 : Int32} (e : f_Names_addName h a0 a1 a2 = some (h', r)) : Ev tb mL d0 189 [.ref a0, .ref a1, .int a2] h h' (some (.int r)) := by
  obtain ⟨d, rfl⟩ : ∃ d, d0 = d + 1 := ⟨d0 - 1, by omega⟩
  have hd : 3 ≤ d := by omega
  refine ⟨Nat.le_of_ble_eq_true rfl, ?_⟩
  show Eb (Ev tb mL d) 189 (0, [.ref a0, .ref a1, .int a2], [], h) h' (some (.int r))
  unfold f_Names_addName at e
  refine eb_n 2 (2, [.ref a0, .ref a1, .int a2], [.ref a0, .ref a1], h) (rfl) ?_
  obtain ⟨g1, e⟩ := gd_some e
  refine eb_g (p := hT h a0 = 9) (5, [.ref a0, .ref a1, .int a2], [.ref (hR h a0 1), .ref a1], h) rfl g1 ?_
  refine eb_n 1 (6, [.ref a0, .ref a1, .int a2], [.ref a0, .ref (hR h a0 1), .ref a1], h) (rfl) ?_
  refine eb_g (p := hT h a0 = 9) (9, [.ref a0, .ref a1, .int a2], [.int (hI h a0 7), .ref (hR h a0 1), .ref a1], h) rfl g1 ?_
  obtain ⟨g2, e⟩ := gd_some e
  obtain ⟨h3, r4, eh3, e⟩ := bn_some e
  refine eb_cg (p := hT h (hR h a0 1) = 11) rfl g2 (f_Tokens_wordOf_ev d (Nat.le_trans (by decide) hd) eh3) ?_
  show Eb _ 189 (12, [.ref a0, .ref a1, .int a2], [.long r4, .ref a1], h3) _ _
  obtain ⟨g5, e⟩ := gd_some e
  obtain ⟨h6, r7, eh6, e⟩ := bn_some e
  refine eb_cg (p := hT h3 a1 = 12) rfl g5 (f_Roll_placeOf_ev d (Nat.le_trans (by decide) hd) eh6) ?_
  show Eb _ 189 (15, [.ref a0, .ref a1, .int a2], [.int r7], h6) _ _
  refine eb_b (c := r7 < 0) (20, [.ref a0, .ref a1, .int a2], [], h6) (18, [.ref a0, .ref a1, .int a2], [], h6) rfl (fun c8 => ?_) (fun c8 => ?_)
  · replace e := ite_t c8 e
    refine eb_n 2 (22, [.ref a0, .ref a1, .int a2], [.ref a0, .ref a1], h6) (rfl) ?_
    obtain ⟨g9, e⟩ := gd_some e
    refine eb_g (p := hT h6 a0 = 9) (25, [.ref a0, .ref a1, .int a2], [.ref (hR h6 a0 1), .ref a1], h6) rfl g9 ?_
    refine eb_n 1 (26, [.ref a0, .ref a1, .int a2], [.ref a0, .ref (hR h6 a0 1), .ref a1], h6) (rfl) ?_
    refine eb_g (p := hT h6 a0 = 9) (29, [.ref a0, .ref a1, .int a2], [.int (hI h6 a0 7), .ref (hR h6 a0 1), .ref a1], h6) rfl g9 ?_
    obtain ⟨g10, e⟩ := gd_some e
    obtain ⟨h11, r12, eh11, e⟩ := bn_some e
    refine eb_cg (p := hT h6 (hR h6 a0 1) = 11) rfl g10 (f_Tokens_wordOf_ev d (Nat.le_trans (by decide) hd) eh11) ?_
    show Eb _ 189 (32, [.ref a0, .ref a1, .int a2], [.long r12, .ref a1], h11) _ _
    obtain ⟨g13, e⟩ := gd_some e
    obtain ⟨h14, r15, eh14, e⟩ := bn_some e
    refine eb_cg (p := hT h11 a1 = 12) rfl g13 (f_Roll_takes_ev d (Nat.le_trans (by decide) hd) eh14) ?_
    show Eb _ 189 (35, [.ref a0, .ref a1, .int a2], [.int r15], h14) _ _
    refine eb_b (c := ¬ r15 = 0) (40, [.ref a0, .ref a1, .int a2], [], h14) (38, [.ref a0, .ref a1, .int a2], [], h14) rfl (fun c16 => ?_) (fun c16 => ?_)
    · replace e := ite_t c16 e
      refine eb_n 1 (41, [.ref a0, .ref a1, .int a2], [.ref a0], h14) (rfl) ?_
      obtain ⟨g17, e⟩ := gd_some e
      refine eb_g (p := hT h14 a0 = 9) (44, [.ref a0, .ref a1, .int a2], [.ref (hR h14 a0 2)], h14) rfl g17 ?_
      refine eb_n 1 (45, [.ref a0, .ref a1, .int a2], [.int a2, .ref (hR h14 a0 2)], h14) (rfl) ?_
      obtain ⟨g18, e⟩ := gd_some e
      obtain ⟨h19, eh19, e⟩ := bv_some e
      refine eb_cg (p := hT h14 (hR h14 a0 2) = 3) rfl g18 (f_River_addOne_ev d (Nat.le_trans (by decide) hd) eh19) ?_
      show Eb _ 189 (48, [.ref a0, .ref a1, .int a2], [], h19) _ _
      refine eb_n 1 (49, [.ref a0, .ref a1, .int a2], [.int (nI 0)], h19) (rfl) ?_
      rw [(sp_inj e).1, (sp_inj e).2]
      exact eb_rg (p := nrm 0 (nI 0)) rfl (nrm_0 _)
    · replace e := ite_f c16 e
      refine eb_n 1 (39, [.ref a0, .ref a1, .int a2], [.int (nI 4)], h14) (rfl) ?_
      rw [(sp_inj e).1, (sp_inj e).2]
      exact eb_rg (p := nrm 0 (nI 4)) rfl (nrm_0 _)
  · replace e := ite_f c8 e
    refine eb_n 1 (19, [.ref a0, .ref a1, .int a2], [.int (nI 2)], h6) (rfl) ?_
    rw [(sp_inj e).1, (sp_inj e).2]
    exact eb_rg (p := nrm 0 (nI 2)) rfl (nrm_0 _)
set_option maxRecDepth 100000 in
set_option maxHeartbeats 4000000 in
theorem f_Names_findName_ev (d0 : Nat) (hd0 : 2 ≤ d0) {h' : AH} {r : Int32} {h : AH} {a0 : Nat} {a1 : Nat} (e : f_Names_findName h a0 a1 = some (h', r)) : Ev tb mL d0 192 [.ref a0, .ref a1] h h' (some (.int r)) := by
  obtain ⟨d, rfl⟩ : ∃ d, d0 = d + 1 := ⟨d0 - 1, by omega⟩
  have hd : 1 ≤ d := by omega
  refine ⟨Nat.le_of_ble_eq_true rfl, ?_⟩
  show Eb (Ev tb mL d) 192 (0, [.ref a0, .ref a1, .retAddr 0], [], h) h' (some (.int r))
  unfold f_Names_findName at e
  refine eb_n 2 (2, [.ref a0, .ref a1, .retAddr 0], [.ref a0, .ref a1], h) (rfl) ?_
  obtain ⟨g1, e⟩ := gd_some e
  refine eb_g (p := hT h a0 = 9) (5, [.ref a0, .ref a1, .retAddr 0], [.ref (hR h a0 1), .ref a1], h) rfl g1 ?_
  refine eb_n 1 (6, [.ref a0, .ref a1, .retAddr 0], [.ref a0, .ref (hR h a0 1), .ref a1], h) (rfl) ?_
  refine eb_g (p := hT h a0 = 9) (9, [.ref a0, .ref a1, .retAddr 0], [.int (hI h a0 7), .ref (hR h a0 1), .ref a1], h) rfl g1 ?_
  obtain ⟨g2, e⟩ := gd_some e
  obtain ⟨h3, r4, eh3, e⟩ := bn_some e
  refine eb_cg (p := hT h (hR h a0 1) = 11) rfl g2 (f_Tokens_wordOf_ev d (Nat.le_trans (by decide) hd) eh3) ?_
  show Eb _ 192 (12, [.ref a0, .ref a1, .retAddr 0], [.long r4, .ref a1], h3) _ _
  obtain ⟨g5, e⟩ := gd_some e
  obtain ⟨h6, r7, eh6, e⟩ := bn_some e
  refine eb_cg (p := hT h3 a1 = 12) rfl g5 (f_Roll_placeOf_ev d (Nat.le_trans (by decide) hd) eh6) ?_
  show Eb _ 192 (15, [.ref a0, .ref a1, .retAddr 0], [.int r7], h6) _ _
  refine eb_n 2 (17, [.ref a0, .ref a1, .int r7], [.ref a0], h6) (rfl) ?_
  obtain ⟨g8, e⟩ := gd_some e
  refine eb_g (p := hT h6 a0 = 9) (20, [.ref a0, .ref a1, .int r7], [.ref (hR h6 a0 1)], h6) rfl g8 ?_
  refine eb_n 1 (21, [.ref a0, .ref a1, .int r7], [.ref a0, .ref (hR h6 a0 1)], h6) (rfl) ?_
  refine eb_g (p := hT h6 a0 = 9) (24, [.ref a0, .ref a1, .int r7], [.int (hI h6 a0 7), .ref (hR h6 a0 1)], h6) rfl g8 ?_
  refine eb_n 1 (25, [.ref a0, .ref a1, .int r7], [.int r7, .int (hI h6 a0 7), .ref (hR h6 a0 1)], h6) (rfl) ?_
  obtain ⟨g9, e⟩ := gd_some e
  obtain ⟨h10, eh10, e⟩ := bv_some e
  refine eb_cg (p := hT h6 (hR h6 a0 1) = 11) rfl g9 (f_Tokens_setNumber_ev d (Nat.le_trans (by decide) hd) eh10) ?_
  show Eb _ 192 (28, [.ref a0, .ref a1, .int r7], [], h10) _ _
  refine eb_n 1 (29, [.ref a0, .ref a1, .int r7], [.int r7], h10) (rfl) ?_
  refine eb_b (c := 0 ≤ r7) (36, [.ref a0, .ref a1, .int r7], [], h10) (32, [.ref a0, .ref a1, .int r7], [], h10) rfl (fun c11 => ?_) (fun c11 => ?_)
  · replace e := ite_t c11 e
    refine eb_n 1 (37, [.ref a0, .ref a1, .int r7], [.int (nI 0)], h10) (rfl) ?_
    rw [(sp_inj e).1, (sp_inj e).2]
    exact eb_rg (p := nrm 0 (nI 0)) rfl (nrm_0 _)
  · replace e := ite_f c11 e
    refine eb_n 2 (37, [.ref a0, .ref a1, .int r7], [.int (nI 3)], h10) (rfl) ?_
    rw [(sp_inj e).1, (sp_inj e).2]
    exact eb_rg (p := nrm 0 (nI 3)) rfl (nrm_0 _)
set_option maxRecDepth 100000 in
set_option maxHeartbeats 4000000 in
theorem f_Tokens_numberOf_ev (d0 : Nat) (hd0 : 1 ≤ d0) {h' : AH} {r : Int32} {h : AH} {a0 : Nat} {a1 : Int32} (e : f_Tokens_numberOf h a0 a1 = some (h', r)) : Ev tb mL d0 173 [.ref a0, .int a1] h h' (some (.int r)) := by
  obtain ⟨d, rfl⟩ : ∃ d, d0 = d + 1 := ⟨d0 - 1, by omega⟩
  have hd : 0 ≤ d := by omega
  refine ⟨Nat.le_of_ble_eq_true rfl, ?_⟩
  show Eb (Ev tb mL d) 173 (0, [.ref a0, .int a1], [], h) h' (some (.int r))
  unfold f_Tokens_numberOf at e
  refine eb_n 1 (1, [.ref a0, .int a1], [.int a1], h) (rfl) ?_
  refine eb_b (c := a1 < 0) (22, [.ref a0, .int a1], [], h) (4, [.ref a0, .int a1], [], h) rfl (fun c1 => ?_) (fun c1 => ?_)
  · replace e := ite_t c1 e
    refine eb_n 1 (23, [.ref a0, .int a1], [.int (nI 0)], h) (rfl) ?_
    rw [(sp_inj e).1, (sp_inj e).2]
    exact eb_rg (p := nrm 0 (nI 0)) rfl (nrm_0 _)
  · replace e := ite_f c1 e
    refine eb_n 2 (6, [.ref a0, .int a1], [.ref a0, .int a1], h) (rfl) ?_
    obtain ⟨g2, e⟩ := gd_some e
    refine eb_g (p := hT h a0 = 11) (9, [.ref a0, .int a1], [.ref (hR h a0 3), .int a1], h) rfl g2 ?_
    obtain ⟨g3, e⟩ := gd_some e
    refine eb_g (p := hT h (hR h a0 3) = 101) (10, [.ref a0, .int a1], [.int (nI (hL h (hR h a0 3))), .int a1], h) rfl g3 ?_
    refine eb_b (c := (nI (hL h (hR h a0 3))) ≤ a1) (22, [.ref a0, .int a1], [], h) (13, [.ref a0, .int a1], [], h) rfl (fun c4 => ?_) (fun c4 => ?_)
    · replace e := ite_t c4 e
      refine eb_n 1 (23, [.ref a0, .int a1], [.int (nI 0)], h) (rfl) ?_
      rw [(sp_inj e).1, (sp_inj e).2]
      exact eb_rg (p := nrm 0 (nI 0)) rfl (nrm_0 _)
    · replace e := ite_f c4 e
      refine eb_n 1 (14, [.ref a0, .int a1], [.ref a0], h) (rfl) ?_
      refine eb_g (p := hT h a0 = 11) (17, [.ref a0, .int a1], [.ref (hR h a0 3)], h) rfl g2 ?_
      refine eb_n 1 (18, [.ref a0, .int a1], [.int a1, .ref (hR h a0 3)], h) (rfl) ?_
      obtain ⟨g5, e⟩ := gd_some e
      refine eb_g (p := hT h (hR h a0 3) = 101 ∧ inb a1 (hL h (hR h a0 3))) (19, [.ref a0, .int a1], [.int (hI h (hR h a0 3) (ix a1))], h) rfl g5 ?_
      refine eb_n 1 (23, [.ref a0, .int a1], [.int (hI h (hR h a0 3) (ix a1))], h) (rfl) ?_
      rw [(sp_inj e).1, (sp_inj e).2]
      exact eb_rg (p := nrm 0 (hI h (hR h a0 3) (ix a1))) rfl (nrm_0 _)
set_option maxRecDepth 100000 in
set_option maxHeartbeats 4000000 in
theorem f_Names_setGardenOfPeeler_ev (d0 : Nat) (hd0 : 3 ≤ d0) {h' : AH} {r : Int32} {h : AH} {a0 : Nat} (e : f_Names_setGardenOfPeeler h a0 = some (h', r)) : Ev tb mL d0 190 [.ref a0] h h' (some (.int r)) := by
  obtain ⟨d, rfl⟩ : ∃ d, d0 = d + 1 := ⟨d0 - 1, by omega⟩
  have hd : 2 ≤ d := by omega
  refine ⟨Nat.le_of_ble_eq_true rfl, ?_⟩
  show Eb (Ev tb mL d) 190 (0, [.ref a0, .retAddr 0], [], h) h' (some (.int r))
  unfold f_Names_setGardenOfPeeler at e
  refine eb_n 2 (2, [.ref a0, .retAddr 0], [.ref a0, .ref a0], h) (rfl) ?_
  obtain ⟨g1, e⟩ := gd_some e
  refine eb_g (p := hT h a0 = 9) (5, [.ref a0, .retAddr 0], [.ref (hR h a0 3), .ref a0], h) rfl g1 ?_
  obtain ⟨h2, r3, eh2, e⟩ := bn_some e
  refine eb_cg (p := hT h a0 = 9) rfl g1 (f_Names_findName_ev d (Nat.le_trans (by decide) hd) eh2) ?_
  show Eb _ 190 (8, [.ref a0, .retAddr 0], [.int r3], h2) _ _
  refine eb_n 2 (10, [.ref a0, .int r3], [.ref a0], h2) (rfl) ?_
  obtain ⟨g4, e⟩ := gd_some e
  refine eb_g (p := hT h2 a0 = 9) (13, [.ref a0, .int r3], [.ref (hR h2 a0 2)], h2) rfl g4 ?_
  obtain ⟨g5, e⟩ := gd_some e
  obtain ⟨h6, r7, eh6, e⟩ := bn_some e
  refine eb_cg (p := hT h2 (hR h2 a0 2) = 3) rfl g5 (f_River_latestPeeler_ev d (Nat.le_trans (by decide) hd) eh6) ?_
  show Eb _ 190 (16, [.ref a0, .int r3], [.ref r7], h6) _ _
  refine eb_n 1 (17, [.ref a0, .int r3], [.ref a0, .ref r7], h6) (rfl) ?_
  obtain ⟨g8, e⟩ := gd_some e
  refine eb_g (p := hT h6 a0 = 9) (20, [.ref a0, .int r3], [.ref (hR h6 a0 1), .ref r7], h6) rfl g8 ?_
  refine eb_n 1 (21, [.ref a0, .int r3], [.ref a0, .ref (hR h6 a0 1), .ref r7], h6) (rfl) ?_
  refine eb_g (p := hT h6 a0 = 9) (24, [.ref a0, .int r3], [.int (hI h6 a0 7), .ref (hR h6 a0 1), .ref r7], h6) rfl g8 ?_
  obtain ⟨g9, e⟩ := gd_some e
  obtain ⟨h10, r11, eh10, e⟩ := bn_some e
  refine eb_cg (p := hT h6 (hR h6 a0 1) = 11) rfl g9 (f_Tokens_numberOf_ev d (Nat.le_trans (by decide) hd) eh10) ?_
  show Eb _ 190 (27, [.ref a0, .int r3], [.int r11, .ref r7], h10) _ _
  obtain ⟨g12, e⟩ := gd_some e
  obtain ⟨h13, eh13, e⟩ := lq_some e
  refine eb_g (p := hT h10 r7 = 6) (30, [.ref a0, .int r3], [], h13) (by rw [eh13]; rfl) g12 ?_
  refine eb_n 1 (31, [.ref a0, .int r3], [.int r3], h13) (rfl) ?_
  rw [(sp_inj e).1, (sp_inj e).2]
  exact eb_rg (p := nrm 0 r3) rfl (nrm_0 _)
set_option maxRecDepth 100000 in
set_option maxHeartbeats 4000000 in
theorem f_Names_setRackOfPeeler_ev (d0 : Nat) (hd0 : 3 ≤ d0) {h' : AH} {r : Int32} {h : AH} {a0 : Nat} (e : f_Names_setRackOfPeeler h a0 = some (h', r)) : Ev tb mL d0 191 [.ref a0] h h' (some (.int r)) := by
  obtain ⟨d, rfl⟩ : ∃ d, d0 = d + 1 := ⟨d0 - 1, by omega⟩
  have hd : 2 ≤ d := by omega
  refine ⟨Nat.le_of_ble_eq_true rfl, ?_⟩
  show Eb (Ev tb mL d) 191 (0, [.ref a0, .retAddr 0], [], h) h' (some (.int r))
  unfold f_Names_setRackOfPeeler at e
  refine eb_n 2 (2, [.ref a0, .retAddr 0], [.ref a0, .ref a0], h) (rfl) ?_
  obtain ⟨g1, e⟩ := gd_some e
  refine eb_g (p := hT h a0 = 9) (5, [.ref a0, .retAddr 0], [.ref (hR h a0 4), .ref a0], h) rfl g1 ?_
  obtain ⟨h2, r3, eh2, e⟩ := bn_some e
  refine eb_cg (p := hT h a0 = 9) rfl g1 (f_Names_findName_ev d (Nat.le_trans (by decide) hd) eh2) ?_
  show Eb _ 191 (8, [.ref a0, .retAddr 0], [.int r3], h2) _ _
  refine eb_n 2 (10, [.ref a0, .int r3], [.ref a0], h2) (rfl) ?_
  obtain ⟨g4, e⟩ := gd_some e
  refine eb_g (p := hT h2 a0 = 9) (13, [.ref a0, .int r3], [.ref (hR h2 a0 2)], h2) rfl g4 ?_
  obtain ⟨g5, e⟩ := gd_some e
  obtain ⟨h6, r7, eh6, e⟩ := bn_some e
  refine eb_cg (p := hT h2 (hR h2 a0 2) = 3) rfl g5 (f_River_latestPeeler_ev d (Nat.le_trans (by decide) hd) eh6) ?_
  show Eb _ 191 (16, [.ref a0, .int r3], [.ref r7], h6) _ _
  refine eb_n 1 (17, [.ref a0, .int r3], [.ref a0, .ref r7], h6) (rfl) ?_
  obtain ⟨g8, e⟩ := gd_some e
  refine eb_g (p := hT h6 a0 = 9) (20, [.ref a0, .int r3], [.ref (hR h6 a0 1), .ref r7], h6) rfl g8 ?_
  refine eb_n 1 (21, [.ref a0, .int r3], [.ref a0, .ref (hR h6 a0 1), .ref r7], h6) (rfl) ?_
  refine eb_g (p := hT h6 a0 = 9) (24, [.ref a0, .int r3], [.int (hI h6 a0 7), .ref (hR h6 a0 1), .ref r7], h6) rfl g8 ?_
  obtain ⟨g9, e⟩ := gd_some e
  obtain ⟨h10, r11, eh10, e⟩ := bn_some e
  refine eb_cg (p := hT h6 (hR h6 a0 1) = 11) rfl g9 (f_Tokens_numberOf_ev d (Nat.le_trans (by decide) hd) eh10) ?_
  show Eb _ 191 (27, [.ref a0, .int r3], [.int r11, .ref r7], h10) _ _
  obtain ⟨g12, e⟩ := gd_some e
  obtain ⟨h13, eh13, e⟩ := lq_some e
  refine eb_g (p := hT h10 r7 = 6) (30, [.ref a0, .int r3], [], h13) (by rw [eh13]; rfl) g12 ?_
  refine eb_n 1 (31, [.ref a0, .int r3], [.int r3], h13) (rfl) ?_
  rw [(sp_inj e).1, (sp_inj e).2]
  exact eb_rg (p := nrm 0 r3) rfl (nrm_0 _)
set_option maxRecDepth 100000 in
set_option maxHeartbeats 4000000 in
theorem f_Names_lookAtName_ev (d0 : Nat) (hd0 : 5 ≤ d0) {h' : AH} {r : Int32} {h : AH} {a0 : Nat} {a1 : Int32} (e : f_Names_lookAtName h a0 a1 = some (h', r)) : Ev tb mL d0 172 [.ref a0, .int a1] h h' (some (.int r)) := by
  obtain ⟨d, rfl⟩ : ∃ d, d0 = d + 1 := ⟨d0 - 1, by omega⟩
  have hd : 4 ≤ d := by omega
  refine ⟨Nat.le_of_ble_eq_true rfl, ?_⟩
  show Eb (Ev tb mL d) 172 (0, [.ref a0, .int a1], [], h) h' (some (.int r))
  unfold f_Names_lookAtName at e
  refine eb_n 1 (1, [.ref a0, .int a1], [.int a1], h) (rfl) ?_
  by_cases c1 : a1 = nI 1
  · replace e := ite_t c1 e
    refine eb_n 1 (152, [.ref a0, .int a1], [], h) (by rw [c1]; rfl) ?_
    refine eb_n 2 (154, [.ref a0, .int a1], [.ref a0, .ref a0], h) (rfl) ?_
    obtain ⟨g2, e⟩ := gd_some e
    refine eb_g (p := hT h a0 = 9) (157, [.ref a0, .int a1], [.ref (hR h a0 3), .ref a0], h) rfl g2 ?_
    refine eb_n 1 (158, [.ref a0, .int a1], [.int (nI 1), .ref (hR h a0 3), .ref a0], h) (rfl) ?_
    obtain ⟨h3, r4, eh3, e⟩ := bn_some e
    refine eb_cg (p := hT h a0 = 9) rfl g2 (f_Names_addName_ev d (Nat.le_trans (by decide) hd) eh3) ?_
    show Eb _ 172 (161, [.ref a0, .int a1], [.int r4], h3) _ _
    rw [(sp_inj e).1, (sp_inj e).2]
    exact eb_rg (p := nrm 0 r4) rfl (nrm_0 _)
  replace e := ite_f c1 e
  by_cases c5 : a1 = nI 2
  · replace e := ite_t c5 e
    refine eb_n 1 (204, [.ref a0, .int a1], [], h) (by rw [c5]; rfl) ?_
    refine eb_n 2 (206, [.ref a0, .int a1], [.ref a0, .ref a0], h) (rfl) ?_
    obtain ⟨g6, e⟩ := gd_some e
    refine eb_g (p := hT h a0 = 9) (209, [.ref a0, .int a1], [.ref (hR h a0 3), .ref a0], h) rfl g6 ?_
    obtain ⟨h7, r8, eh7, e⟩ := bn_some e
    refine eb_cg (p := hT h a0 = 9) rfl g6 (f_Names_findName_ev d (Nat.le_trans (by decide) hd) eh7) ?_
    show Eb _ 172 (212, [.ref a0, .int a1], [.int r8], h7) _ _
    rw [(sp_inj e).1, (sp_inj e).2]
    exact eb_rg (p := nrm 0 r8) rfl (nrm_0 _)
  replace e := ite_f c5 e
  by_cases c9 : a1 = nI 3
  · replace e := ite_t c9 e
    refine eb_n 1 (231, [.ref a0, .int a1], [], h) (by rw [c9]; rfl) ?_
    refine eb_n 2 (233, [.ref a0, .int a1], [.ref a0, .ref a0], h) (rfl) ?_
    obtain ⟨g10, e⟩ := gd_some e
    refine eb_g (p := hT h a0 = 9) (236, [.ref a0, .int a1], [.ref (hR h a0 6), .ref a0], h) rfl g10 ?_
    obtain ⟨h11, r12, eh11, e⟩ := bn_some e
    refine eb_cg (p := hT h a0 = 9) rfl g10 (f_Names_findName_ev d (Nat.le_trans (by decide) hd) eh11) ?_
    show Eb _ 172 (239, [.ref a0, .int a1], [.int r12], h11) _ _
    rw [(sp_inj e).1, (sp_inj e).2]
    exact eb_rg (p := nrm 0 r12) rfl (nrm_0 _)
  replace e := ite_f c9 e
  by_cases c13 : a1 = nI 4
  · replace e := ite_t c13 e
    refine eb_n 1 (231, [.ref a0, .int a1], [], h) (by rw [c13]; rfl) ?_
    refine eb_n 2 (233, [.ref a0, .int a1], [.ref a0, .ref a0], h) (rfl) ?_
    obtain ⟨g14, e⟩ := gd_some e
    refine eb_g (p := hT h a0 = 9) (236, [.ref a0, .int a1], [.ref (hR h a0 6), .ref a0], h) rfl g14 ?_
    obtain ⟨h15, r16, eh15, e⟩ := bn_some e
    refine eb_cg (p := hT h a0 = 9) rfl g14 (f_Names_findName_ev d (Nat.le_trans (by decide) hd) eh15) ?_
    show Eb _ 172 (239, [.ref a0, .int a1], [.int r16], h15) _ _
    rw [(sp_inj e).1, (sp_inj e).2]
    exact eb_rg (p := nrm 0 r16) rfl (nrm_0 _)
  replace e := ite_f c13 e
  by_cases c17 : a1 = nI 5
  · replace e := ite_t c17 e
    refine eb_n 1 (162, [.ref a0, .int a1], [], h) (by rw [c17]; rfl) ?_
    refine eb_n 2 (164, [.ref a0, .int a1], [.ref a0, .ref a0], h) (rfl) ?_
    obtain ⟨g18, e⟩ := gd_some e
    refine eb_g (p := hT h a0 = 9) (167, [.ref a0, .int a1], [.ref (hR h a0 4), .ref a0], h) rfl g18 ?_
    refine eb_n 1 (168, [.ref a0, .int a1], [.int (nI 5), .ref (hR h a0 4), .ref a0], h) (rfl) ?_
    obtain ⟨h19, r20, eh19, e⟩ := bn_some e
    refine eb_cg (p := hT h a0 = 9) rfl g18 (f_Names_addName_ev d (Nat.le_trans (by decide) hd) eh19) ?_
    show Eb _ 172 (171, [.ref a0, .int a1], [.int r20], h19) _ _
    rw [(sp_inj e).1, (sp_inj e).2]
    exact eb_rg (p := nrm 0 r20) rfl (nrm_0 _)
  replace e := ite_f c17 e
  by_cases c21 : a1 = nI 6
  · replace e := ite_t c21 e
    refine eb_n 1 (231, [.ref a0, .int a1], [], h) (by rw [c21]; rfl) ?_
    refine eb_n 2 (233, [.ref a0, .int a1], [.ref a0, .ref a0], h) (rfl) ?_
    obtain ⟨g22, e⟩ := gd_some e
    refine eb_g (p := hT h a0 = 9) (236, [.ref a0, .int a1], [.ref (hR h a0 6), .ref a0], h) rfl g22 ?_
    obtain ⟨h23, r24, eh23, e⟩ := bn_some e
    refine eb_cg (p := hT h a0 = 9) rfl g22 (f_Names_findName_ev d (Nat.le_trans (by decide) hd) eh23) ?_
    show Eb _ 172 (239, [.ref a0, .int a1], [.int r24], h23) _ _
    rw [(sp_inj e).1, (sp_inj e).2]
    exact eb_rg (p := nrm 0 r24) rfl (nrm_0 _)
  replace e := ite_f c21 e
  by_cases c25 : a1 = nI 7
  · replace e := ite_t c25 e
    refine eb_n 1 (172, [.ref a0, .int a1], [], h) (by rw [c25]; rfl) ?_
    refine eb_n 2 (174, [.ref a0, .int a1], [.ref a0, .ref a0], h) (rfl) ?_
    obtain ⟨g26, e⟩ := gd_some e
    refine eb_g (p := hT h a0 = 9) (177, [.ref a0, .int a1], [.ref (hR h a0 5), .ref a0], h) rfl g26 ?_
    refine eb_n 1 (179, [.ref a0, .int a1], [.int (nI 7), .ref (hR h a0 5), .ref a0], h) (rfl) ?_
    obtain ⟨h27, r28, eh27, e⟩ := bn_some e
    refine eb_cg (p := hT h a0 = 9) rfl g26 (f_Names_addName_ev d (Nat.le_trans (by decide) hd) eh27) ?_
    show Eb _ 172 (182, [.ref a0, .int a1], [.int r28], h27) _ _
    rw [(sp_inj e).1, (sp_inj e).2]
    exact eb_rg (p := nrm 0 r28) rfl (nrm_0 _)
  replace e := ite_f c25 e
  by_cases c29 : a1 = nI 8
  · replace e := ite_t c29 e
    refine eb_n 1 (194, [.ref a0, .int a1], [], h) (by rw [c29]; rfl) ?_
    refine eb_n 1 (195, [.ref a0, .int a1], [.ref a0], h) (rfl) ?_
    obtain ⟨g30, e⟩ := gd_some e
    obtain ⟨h31, r32, eh31, e⟩ := bn_some e
    refine eb_cg (p := hT h a0 = 9) rfl g30 (f_Names_setGardenOfPeeler_ev d (Nat.le_trans (by decide) hd) eh31) ?_
    show Eb _ 172 (198, [.ref a0, .int a1], [.int r32], h31) _ _
    rw [(sp_inj e).1, (sp_inj e).2]
    exact eb_rg (p := nrm 0 r32) rfl (nrm_0 _)
  replace e := ite_f c29 e
  by_cases c33 : a1 = nI 9
  · replace e := ite_t c33 e
    refine eb_n 1 (199, [.ref a0, .int a1], [], h) (by rw [c33]; rfl) ?_
    refine eb_n 1 (200, [.ref a0, .int a1], [.ref a0], h) (rfl) ?_
    obtain ⟨g34, e⟩ := gd_some e
    obtain ⟨h35, r36, eh35, e⟩ := bn_some e
    refine eb_cg (p := hT h a0 = 9) rfl g34 (f_Names_setRackOfPeeler_ev d (Nat.le_trans (by decide) hd) eh35) ?_
    show Eb _ 172 (203, [.ref a0, .int a1], [.int r36], h35) _ _
    rw [(sp_inj e).1, (sp_inj e).2]
    exact eb_rg (p := nrm 0 r36) rfl (nrm_0 _)
  replace e := ite_f c33 e
  by_cases c37 : a1 = nI 10
  · replace e := ite_t c37 e
    refine eb_n 1 (231, [.ref a0, .int a1], [], h) (by rw [c37]; rfl) ?_
    refine eb_n 2 (233, [.ref a0, .int a1], [.ref a0, .ref a0], h) (rfl) ?_
    obtain ⟨g38, e⟩ := gd_some e
    refine eb_g (p := hT h a0 = 9) (236, [.ref a0, .int a1], [.ref (hR h a0 6), .ref a0], h) rfl g38 ?_
    obtain ⟨h39, r40, eh39, e⟩ := bn_some e
    refine eb_cg (p := hT h a0 = 9) rfl g38 (f_Names_findName_ev d (Nat.le_trans (by decide) hd) eh39) ?_
    show Eb _ 172 (239, [.ref a0, .int a1], [.int r40], h39) _ _
    rw [(sp_inj e).1, (sp_inj e).2]
    exact eb_rg (p := nrm 0 r40) rfl (nrm_0 _)
  replace e := ite_f c37 e
  by_cases c41 : a1 = nI 11
  · replace e := ite_t c41 e
    refine eb_n 1 (183, [.ref a0, .int a1], [], h) (by rw [c41]; rfl) ?_
    refine eb_n 2 (185, [.ref a0, .int a1], [.ref a0, .ref a0], h) (rfl) ?_
    obtain ⟨g42, e⟩ := gd_some e
    refine eb_g (p := hT h a0 = 9) (188, [.ref a0, .int a1], [.ref (hR h a0 6), .ref a0], h) rfl g42 ?_
    refine eb_n 1 (190, [.ref a0, .int a1], [.int (nI 11), .ref (hR h a0 6), .ref a0], h) (rfl) ?_
    obtain ⟨h43, r44, eh43, e⟩ := bn_some e
    refine eb_cg (p := hT h a0 = 9) rfl g42 (f_Names_addName_ev d (Nat.le_trans (by decide) hd) eh43) ?_
    show Eb _ 172 (193, [.ref a0, .int a1], [.int r44], h43) _ _
    rw [(sp_inj e).1, (sp_inj e).2]
    exact eb_rg (p := nrm 0 r44) rfl (nrm_0 _)
  replace e := ite_f c41 e
  by_cases c45 : a1 = nI 12
  · replace e := ite_t c45 e
    refine eb_n 1 (231, [.ref a0, .int a1], [], h) (by rw [c45]; rfl) ?_
    refine eb_n 2 (233, [.ref a0, .int a1], [.ref a0, .ref a0], h) (rfl) ?_
    obtain ⟨g46, e⟩ := gd_some e
    refine eb_g (p := hT h a0 = 9) (236, [.ref a0, .int a1], [.ref (hR h a0 6), .ref a0], h) rfl g46 ?_
    obtain ⟨h47, r48, eh47, e⟩ := bn_some e
    refine eb_cg (p := hT h a0 = 9) rfl g46 (f_Names_findName_ev d (Nat.le_trans (by decide) hd) eh47) ?_
    show Eb _ 172 (239, [.ref a0, .int a1], [.int r48], h47) _ _
    rw [(sp_inj e).1, (sp_inj e).2]
    exact eb_rg (p := nrm 0 r48) rfl (nrm_0 _)
  replace e := ite_f c45 e
  by_cases c49 : a1 = nI 13
  · replace e := ite_t c49 e
    refine eb_n 1 (231, [.ref a0, .int a1], [], h) (by rw [c49]; rfl) ?_
    refine eb_n 2 (233, [.ref a0, .int a1], [.ref a0, .ref a0], h) (rfl) ?_
    obtain ⟨g50, e⟩ := gd_some e
    refine eb_g (p := hT h a0 = 9) (236, [.ref a0, .int a1], [.ref (hR h a0 6), .ref a0], h) rfl g50 ?_
    obtain ⟨h51, r52, eh51, e⟩ := bn_some e
    refine eb_cg (p := hT h a0 = 9) rfl g50 (f_Names_findName_ev d (Nat.le_trans (by decide) hd) eh51) ?_
    show Eb _ 172 (239, [.ref a0, .int a1], [.int r52], h51) _ _
    rw [(sp_inj e).1, (sp_inj e).2]
    exact eb_rg (p := nrm 0 r52) rfl (nrm_0 _)
  replace e := ite_f c49 e
  by_cases c53 : a1 = nI 14
  · replace e := ite_t c53 e
    refine eb_n 1 (231, [.ref a0, .int a1], [], h) (by rw [c53]; rfl) ?_
    refine eb_n 2 (233, [.ref a0, .int a1], [.ref a0, .ref a0], h) (rfl) ?_
    obtain ⟨g54, e⟩ := gd_some e
    refine eb_g (p := hT h a0 = 9) (236, [.ref a0, .int a1], [.ref (hR h a0 6), .ref a0], h) rfl g54 ?_
    obtain ⟨h55, r56, eh55, e⟩ := bn_some e
    refine eb_cg (p := hT h a0 = 9) rfl g54 (f_Names_findName_ev d (Nat.le_trans (by decide) hd) eh55) ?_
    show Eb _ 172 (239, [.ref a0, .int a1], [.int r56], h55) _ _
    rw [(sp_inj e).1, (sp_inj e).2]
    exact eb_rg (p := nrm 0 r56) rfl (nrm_0 _)
  replace e := ite_f c53 e
  by_cases c57 : a1 = nI 15
  · replace e := ite_t c57 e
    refine eb_n 1 (231, [.ref a0, .int a1], [], h) (by rw [c57]; rfl) ?_
    refine eb_n 2 (233, [.ref a0, .int a1], [.ref a0, .ref a0], h) (rfl) ?_
    obtain ⟨g58, e⟩ := gd_some e
    refine eb_g (p := hT h a0 = 9) (236, [.ref a0, .int a1], [.ref (hR h a0 6), .ref a0], h) rfl g58 ?_
    obtain ⟨h59, r60, eh59, e⟩ := bn_some e
    refine eb_cg (p := hT h a0 = 9) rfl g58 (f_Names_findName_ev d (Nat.le_trans (by decide) hd) eh59) ?_
    show Eb _ 172 (239, [.ref a0, .int a1], [.int r60], h59) _ _
    rw [(sp_inj e).1, (sp_inj e).2]
    exact eb_rg (p := nrm 0 r60) rfl (nrm_0 _)
  replace e := ite_f c57 e
  by_cases c61 : a1 = nI 16
  · replace e := ite_t c61 e
    refine eb_n 1 (231, [.ref a0, .int a1], [], h) (by rw [c61]; rfl) ?_
    refine eb_n 2 (233, [.ref a0, .int a1], [.ref a0, .ref a0], h) (rfl) ?_
    obtain ⟨g62, e⟩ := gd_some e
    refine eb_g (p := hT h a0 = 9) (236, [.ref a0, .int a1], [.ref (hR h a0 6), .ref a0], h) rfl g62 ?_
    obtain ⟨h63, r64, eh63, e⟩ := bn_some e
    refine eb_cg (p := hT h a0 = 9) rfl g62 (f_Names_findName_ev d (Nat.le_trans (by decide) hd) eh63) ?_
    show Eb _ 172 (239, [.ref a0, .int a1], [.int r64], h63) _ _
    rw [(sp_inj e).1, (sp_inj e).2]
    exact eb_rg (p := nrm 0 r64) rfl (nrm_0 _)
  replace e := ite_f c61 e
  by_cases c65 : a1 = nI 17
  · replace e := ite_t c65 e
    refine eb_n 1 (231, [.ref a0, .int a1], [], h) (by rw [c65]; rfl) ?_
    refine eb_n 2 (233, [.ref a0, .int a1], [.ref a0, .ref a0], h) (rfl) ?_
    obtain ⟨g66, e⟩ := gd_some e
    refine eb_g (p := hT h a0 = 9) (236, [.ref a0, .int a1], [.ref (hR h a0 6), .ref a0], h) rfl g66 ?_
    obtain ⟨h67, r68, eh67, e⟩ := bn_some e
    refine eb_cg (p := hT h a0 = 9) rfl g66 (f_Names_findName_ev d (Nat.le_trans (by decide) hd) eh67) ?_
    show Eb _ 172 (239, [.ref a0, .int a1], [.int r68], h67) _ _
    rw [(sp_inj e).1, (sp_inj e).2]
    exact eb_rg (p := nrm 0 r68) rfl (nrm_0 _)
  replace e := ite_f c65 e
  by_cases c69 : a1 = nI 18
  · replace e := ite_t c69 e
    refine eb_n 1 (231, [.ref a0, .int a1], [], h) (by rw [c69]; rfl) ?_
    refine eb_n 2 (233, [.ref a0, .int a1], [.ref a0, .ref a0], h) (rfl) ?_
    obtain ⟨g70, e⟩ := gd_some e
    refine eb_g (p := hT h a0 = 9) (236, [.ref a0, .int a1], [.ref (hR h a0 6), .ref a0], h) rfl g70 ?_
    obtain ⟨h71, r72, eh71, e⟩ := bn_some e
    refine eb_cg (p := hT h a0 = 9) rfl g70 (f_Names_findName_ev d (Nat.le_trans (by decide) hd) eh71) ?_
    show Eb _ 172 (239, [.ref a0, .int a1], [.int r72], h71) _ _
    rw [(sp_inj e).1, (sp_inj e).2]
    exact eb_rg (p := nrm 0 r72) rfl (nrm_0 _)
  replace e := ite_f c69 e
  by_cases c73 : a1 = nI 19
  · replace e := ite_t c73 e
    refine eb_n 1 (231, [.ref a0, .int a1], [], h) (by rw [c73]; rfl) ?_
    refine eb_n 2 (233, [.ref a0, .int a1], [.ref a0, .ref a0], h) (rfl) ?_
    obtain ⟨g74, e⟩ := gd_some e
    refine eb_g (p := hT h a0 = 9) (236, [.ref a0, .int a1], [.ref (hR h a0 6), .ref a0], h) rfl g74 ?_
    obtain ⟨h75, r76, eh75, e⟩ := bn_some e
    refine eb_cg (p := hT h a0 = 9) rfl g74 (f_Names_findName_ev d (Nat.le_trans (by decide) hd) eh75) ?_
    show Eb _ 172 (239, [.ref a0, .int a1], [.int r76], h75) _ _
    rw [(sp_inj e).1, (sp_inj e).2]
    exact eb_rg (p := nrm 0 r76) rfl (nrm_0 _)
  replace e := ite_f c73 e
  by_cases c77 : a1 = nI 20
  · replace e := ite_t c77 e
    refine eb_n 1 (231, [.ref a0, .int a1], [], h) (by rw [c77]; rfl) ?_
    refine eb_n 2 (233, [.ref a0, .int a1], [.ref a0, .ref a0], h) (rfl) ?_
    obtain ⟨g78, e⟩ := gd_some e
    refine eb_g (p := hT h a0 = 9) (236, [.ref a0, .int a1], [.ref (hR h a0 6), .ref a0], h) rfl g78 ?_
    obtain ⟨h79, r80, eh79, e⟩ := bn_some e
    refine eb_cg (p := hT h a0 = 9) rfl g78 (f_Names_findName_ev d (Nat.le_trans (by decide) hd) eh79) ?_
    show Eb _ 172 (239, [.ref a0, .int a1], [.int r80], h79) _ _
    rw [(sp_inj e).1, (sp_inj e).2]
    exact eb_rg (p := nrm 0 r80) rfl (nrm_0 _)
  replace e := ite_f c77 e
  by_cases c81 : a1 = nI 21
  · replace e := ite_t c81 e
    refine eb_n 1 (231, [.ref a0, .int a1], [], h) (by rw [c81]; rfl) ?_
    refine eb_n 2 (233, [.ref a0, .int a1], [.ref a0, .ref a0], h) (rfl) ?_
    obtain ⟨g82, e⟩ := gd_some e
    refine eb_g (p := hT h a0 = 9) (236, [.ref a0, .int a1], [.ref (hR h a0 6), .ref a0], h) rfl g82 ?_
    obtain ⟨h83, r84, eh83, e⟩ := bn_some e
    refine eb_cg (p := hT h a0 = 9) rfl g82 (f_Names_findName_ev d (Nat.le_trans (by decide) hd) eh83) ?_
    show Eb _ 172 (239, [.ref a0, .int a1], [.int r84], h83) _ _
    rw [(sp_inj e).1, (sp_inj e).2]
    exact eb_rg (p := nrm 0 r84) rfl (nrm_0 _)
  replace e := ite_f c81 e
  by_cases c85 : a1 = nI 22
  · replace e := ite_t c85 e
    refine eb_n 1 (222, [.ref a0, .int a1], [], h) (by rw [c85]; rfl) ?_
    refine eb_n 2 (224, [.ref a0, .int a1], [.ref a0, .ref a0], h) (rfl) ?_
    obtain ⟨g86, e⟩ := gd_some e
    refine eb_g (p := hT h a0 = 9) (227, [.ref a0, .int a1], [.ref (hR h a0 5), .ref a0], h) rfl g86 ?_
    obtain ⟨h87, r88, eh87, e⟩ := bn_some e
    refine eb_cg (p := hT h a0 = 9) rfl g86 (f_Names_findName_ev d (Nat.le_trans (by decide) hd) eh87) ?_
    show Eb _ 172 (230, [.ref a0, .int a1], [.int r88], h87) _ _
    rw [(sp_inj e).1, (sp_inj e).2]
    exact eb_rg (p := nrm 0 r88) rfl (nrm_0 _)
  replace e := ite_f c85 e
  by_cases c89 : a1 = nI 23
  · replace e := ite_t c89 e
    refine eb_n 1 (231, [.ref a0, .int a1], [], h) (by rw [c89]; rfl) ?_
    refine eb_n 2 (233, [.ref a0, .int a1], [.ref a0, .ref a0], h) (rfl) ?_
    obtain ⟨g90, e⟩ := gd_some e
    refine eb_g (p := hT h a0 = 9) (236, [.ref a0, .int a1], [.ref (hR h a0 6), .ref a0], h) rfl g90 ?_
    obtain ⟨h91, r92, eh91, e⟩ := bn_some e
    refine eb_cg (p := hT h a0 = 9) rfl g90 (f_Names_findName_ev d (Nat.le_trans (by decide) hd) eh91) ?_
    show Eb _ 172 (239, [.ref a0, .int a1], [.int r92], h91) _ _
    rw [(sp_inj e).1, (sp_inj e).2]
    exact eb_rg (p := nrm 0 r92) rfl (nrm_0 _)
  replace e := ite_f c89 e
  by_cases c93 : a1 = nI 24
  · replace e := ite_t c93 e
    refine eb_n 1 (231, [.ref a0, .int a1], [], h) (by rw [c93]; rfl) ?_
    refine eb_n 2 (233, [.ref a0, .int a1], [.ref a0, .ref a0], h) (rfl) ?_
    obtain ⟨g94, e⟩ := gd_some e
    refine eb_g (p := hT h a0 = 9) (236, [.ref a0, .int a1], [.ref (hR h a0 6), .ref a0], h) rfl g94 ?_
    obtain ⟨h95, r96, eh95, e⟩ := bn_some e
    refine eb_cg (p := hT h a0 = 9) rfl g94 (f_Names_findName_ev d (Nat.le_trans (by decide) hd) eh95) ?_
    show Eb _ 172 (239, [.ref a0, .int a1], [.int r96], h95) _ _
    rw [(sp_inj e).1, (sp_inj e).2]
    exact eb_rg (p := nrm 0 r96) rfl (nrm_0 _)
  replace e := ite_f c93 e
  by_cases c97 : a1 = nI 25
  · replace e := ite_t c97 e
    refine eb_n 1 (222, [.ref a0, .int a1], [], h) (by rw [c97]; rfl) ?_
    refine eb_n 2 (224, [.ref a0, .int a1], [.ref a0, .ref a0], h) (rfl) ?_
    obtain ⟨g98, e⟩ := gd_some e
    refine eb_g (p := hT h a0 = 9) (227, [.ref a0, .int a1], [.ref (hR h a0 5), .ref a0], h) rfl g98 ?_
    obtain ⟨h99, r100, eh99, e⟩ := bn_some e
    refine eb_cg (p := hT h a0 = 9) rfl g98 (f_Names_findName_ev d (Nat.le_trans (by decide) hd) eh99) ?_
    show Eb _ 172 (230, [.ref a0, .int a1], [.int r100], h99) _ _
    rw [(sp_inj e).1, (sp_inj e).2]
    exact eb_rg (p := nrm 0 r100) rfl (nrm_0 _)
  replace e := ite_f c97 e
  by_cases c101 : a1 = nI 26
  · replace e := ite_t c101 e
    refine eb_n 1 (231, [.ref a0, .int a1], [], h) (by rw [c101]; rfl) ?_
    refine eb_n 2 (233, [.ref a0, .int a1], [.ref a0, .ref a0], h) (rfl) ?_
    obtain ⟨g102, e⟩ := gd_some e
    refine eb_g (p := hT h a0 = 9) (236, [.ref a0, .int a1], [.ref (hR h a0 6), .ref a0], h) rfl g102 ?_
    obtain ⟨h103, r104, eh103, e⟩ := bn_some e
    refine eb_cg (p := hT h a0 = 9) rfl g102 (f_Names_findName_ev d (Nat.le_trans (by decide) hd) eh103) ?_
    show Eb _ 172 (239, [.ref a0, .int a1], [.int r104], h103) _ _
    rw [(sp_inj e).1, (sp_inj e).2]
    exact eb_rg (p := nrm 0 r104) rfl (nrm_0 _)
  replace e := ite_f c101 e
  by_cases c105 : a1 = nI 27
  · replace e := ite_t c105 e
    refine eb_n 1 (231, [.ref a0, .int a1], [], h) (by rw [c105]; rfl) ?_
    refine eb_n 2 (233, [.ref a0, .int a1], [.ref a0, .ref a0], h) (rfl) ?_
    obtain ⟨g106, e⟩ := gd_some e
    refine eb_g (p := hT h a0 = 9) (236, [.ref a0, .int a1], [.ref (hR h a0 6), .ref a0], h) rfl g106 ?_
    obtain ⟨h107, r108, eh107, e⟩ := bn_some e
    refine eb_cg (p := hT h a0 = 9) rfl g106 (f_Names_findName_ev d (Nat.le_trans (by decide) hd) eh107) ?_
    show Eb _ 172 (239, [.ref a0, .int a1], [.int r108], h107) _ _
    rw [(sp_inj e).1, (sp_inj e).2]
    exact eb_rg (p := nrm 0 r108) rfl (nrm_0 _)
  replace e := ite_f c105 e
  by_cases c109 : a1 = nI 28
  · replace e := ite_t c109 e
    refine eb_n 1 (231, [.ref a0, .int a1], [], h) (by rw [c109]; rfl) ?_
    refine eb_n 2 (233, [.ref a0, .int a1], [.ref a0, .ref a0], h) (rfl) ?_
    obtain ⟨g110, e⟩ := gd_some e
    refine eb_g (p := hT h a0 = 9) (236, [.ref a0, .int a1], [.ref (hR h a0 6), .ref a0], h) rfl g110 ?_
    obtain ⟨h111, r112, eh111, e⟩ := bn_some e
    refine eb_cg (p := hT h a0 = 9) rfl g110 (f_Names_findName_ev d (Nat.le_trans (by decide) hd) eh111) ?_
    show Eb _ 172 (239, [.ref a0, .int a1], [.int r112], h111) _ _
    rw [(sp_inj e).1, (sp_inj e).2]
    exact eb_rg (p := nrm 0 r112) rfl (nrm_0 _)
  replace e := ite_f c109 e
  by_cases c113 : a1 = nI 29
  · replace e := ite_t c113 e
    refine eb_n 1 (222, [.ref a0, .int a1], [], h) (by rw [c113]; rfl) ?_
    refine eb_n 2 (224, [.ref a0, .int a1], [.ref a0, .ref a0], h) (rfl) ?_
    obtain ⟨g114, e⟩ := gd_some e
    refine eb_g (p := hT h a0 = 9) (227, [.ref a0, .int a1], [.ref (hR h a0 5), .ref a0], h) rfl g114 ?_
    obtain ⟨h115, r116, eh115, e⟩ := bn_some e
    refine eb_cg (p := hT h a0 = 9) rfl g114 (f_Names_findName_ev d (Nat.le_trans (by decide) hd) eh115) ?_
    show Eb _ 172 (230, [.ref a0, .int a1], [.int r116], h115) _ _
    rw [(sp_inj e).1, (sp_inj e).2]
    exact eb_rg (p := nrm 0 r116) rfl (nrm_0 _)
  replace e := ite_f c113 e
  by_cases c117 : a1 = nI 30
  · replace e := ite_t c117 e
    refine eb_n 1 (213, [.ref a0, .int a1], [], h) (by rw [c117]; rfl) ?_
    refine eb_n 2 (215, [.ref a0, .int a1], [.ref a0, .ref a0], h) (rfl) ?_
    obtain ⟨g118, e⟩ := gd_some e
    refine eb_g (p := hT h a0 = 9) (218, [.ref a0, .int a1], [.ref (hR h a0 4), .ref a0], h) rfl g118 ?_
    obtain ⟨h119, r120, eh119, e⟩ := bn_some e
    refine eb_cg (p := hT h a0 = 9) rfl g118 (f_Names_findName_ev d (Nat.le_trans (by decide) hd) eh119) ?_
    show Eb _ 172 (221, [.ref a0, .int a1], [.int r120], h119) _ _
    rw [(sp_inj e).1, (sp_inj e).2]
    exact eb_rg (p := nrm 0 r120) rfl (nrm_0 _)
  replace e := ite_f c117 e
  by_cases c121 : a1 = nI 31
  · replace e := ite_t c121 e
    refine eb_n 1 (231, [.ref a0, .int a1], [], h) (by rw [c121]; rfl) ?_
    refine eb_n 2 (233, [.ref a0, .int a1], [.ref a0, .ref a0], h) (rfl) ?_
    obtain ⟨g122, e⟩ := gd_some e
    refine eb_g (p := hT h a0 = 9) (236, [.ref a0, .int a1], [.ref (hR h a0 6), .ref a0], h) rfl g122 ?_
    obtain ⟨h123, r124, eh123, e⟩ := bn_some e
    refine eb_cg (p := hT h a0 = 9) rfl g122 (f_Names_findName_ev d (Nat.le_trans (by decide) hd) eh123) ?_
    show Eb _ 172 (239, [.ref a0, .int a1], [.int r124], h123) _ _
    rw [(sp_inj e).1, (sp_inj e).2]
    exact eb_rg (p := nrm 0 r124) rfl (nrm_0 _)
  replace e := ite_f c121 e
  by_cases c125 : a1 = nI 32
  · replace e := ite_t c125 e
    refine eb_n 1 (231, [.ref a0, .int a1], [], h) (by rw [c125]; rfl) ?_
    refine eb_n 2 (233, [.ref a0, .int a1], [.ref a0, .ref a0], h) (rfl) ?_
    obtain ⟨g126, e⟩ := gd_some e
    refine eb_g (p := hT h a0 = 9) (236, [.ref a0, .int a1], [.ref (hR h a0 6), .ref a0], h) rfl g126 ?_
    obtain ⟨h127, r128, eh127, e⟩ := bn_some e
    refine eb_cg (p := hT h a0 = 9) rfl g126 (f_Names_findName_ev d (Nat.le_trans (by decide) hd) eh127) ?_
    show Eb _ 172 (239, [.ref a0, .int a1], [.int r128], h127) _ _
    rw [(sp_inj e).1, (sp_inj e).2]
    exact eb_rg (p := nrm 0 r128) rfl (nrm_0 _)
  replace e := ite_f c125 e
  by_cases c129 : a1 = nI 33
  · replace e := ite_t c129 e
    refine eb_n 1 (231, [.ref a0, .int a1], [], h) (by rw [c129]; rfl) ?_
    refine eb_n 2 (233, [.ref a0, .int a1], [.ref a0, .ref a0], h) (rfl) ?_
    obtain ⟨g130, e⟩ := gd_some e
    refine eb_g (p := hT h a0 = 9) (236, [.ref a0, .int a1], [.ref (hR h a0 6), .ref a0], h) rfl g130 ?_
    obtain ⟨h131, r132, eh131, e⟩ := bn_some e
    refine eb_cg (p := hT h a0 = 9) rfl g130 (f_Names_findName_ev d (Nat.le_trans (by decide) hd) eh131) ?_
    show Eb _ 172 (239, [.ref a0, .int a1], [.int r132], h131) _ _
    rw [(sp_inj e).1, (sp_inj e).2]
    exact eb_rg (p := nrm 0 r132) rfl (nrm_0 _)
  replace e := ite_f c129 e
  by_cases c133 : a1 = nI 34
  · replace e := ite_t c133 e
    refine eb_n 1 (222, [.ref a0, .int a1], [], h) (by rw [c133]; rfl) ?_
    refine eb_n 2 (224, [.ref a0, .int a1], [.ref a0, .ref a0], h) (rfl) ?_
    obtain ⟨g134, e⟩ := gd_some e
    refine eb_g (p := hT h a0 = 9) (227, [.ref a0, .int a1], [.ref (hR h a0 5), .ref a0], h) rfl g134 ?_
    obtain ⟨h135, r136, eh135, e⟩ := bn_some e
    refine eb_cg (p := hT h a0 = 9) rfl g134 (f_Names_findName_ev d (Nat.le_trans (by decide) hd) eh135) ?_
    show Eb _ 172 (230, [.ref a0, .int a1], [.int r136], h135) _ _
    rw [(sp_inj e).1, (sp_inj e).2]
    exact eb_rg (p := nrm 0 r136) rfl (nrm_0 _)
  replace e := ite_f c133 e
  refine eb_1 (f' := (231, [.ref a0, .int a1], [], h)) (tsw_d (tsw_out (x := a1) (lo := 1) (n := 34) (by decide) (by decide) (fun k hk => match k, hk with | 0, _ => c1 | 1, _ => c5 | 2, _ => c9 | 3, _ => c13 | 4, _ => c17 | 5, _ => c21 | 6, _ => c25 | 7, _ => c29 | 8, _ => c33 | 9, _ => c37 | 10, _ => c41 | 11, _ => c45 | 12, _ => c49 | 13, _ => c53 | 14, _ => c57 | 15, _ => c61 | 16, _ => c65 | 17, _ => c69 | 18, _ => c73 | 19, _ => c77 | 20, _ => c81 | 21, _ => c85 | 22, _ => c89 | 23, _ => c93 | 24, _ => c97 | 25, _ => c101 | 26, _ => c105 | 27, _ => c109 | 28, _ => c113 | 29, _ => c117 | 30, _ => c121 | 31, _ => c125 | 32, _ => c129 | 33, _ => c133 | k + 34, hk => absurd hk (by omega))) rfl rfl) ?_
  refine eb_n 2 (233, [.ref a0, .int a1], [.ref a0, .ref a0], h) (rfl) ?_
  obtain ⟨g137, e⟩ := gd_some e
  refine eb_g (p := hT h a0 = 9) (236, [.ref a0, .int a1], [.ref (hR h a0 6), .ref a0], h) rfl g137 ?_
  obtain ⟨h138, r139, eh138, e⟩ := bn_some e
  refine eb_cg (p := hT h a0 = 9) rfl g137 (f_Names_findName_ev d (Nat.le_trans (by decide) hd) eh138) ?_
  show Eb _ 172 (239, [.ref a0, .int a1], [.int r139], h138) _ _
  rw [(sp_inj e).1, (sp_inj e).2]
  exact eb_rg (p := nrm 0 r139) rfl (nrm_0 _)
set_option maxRecDepth 100000 in
set_option maxHeartbeats 4000000 in
theorem f_River_hasGarden_ev (d0 : Nat) (hd0 : 1 ≤ d0) {h' : AH} {r : Int32} {h : AH} {a0 : Nat} {a1 : Int32} (e : f_River_hasGarden h a0 a1 = some (h', r)) : Ev tb mL d0 51 [.ref a0, .int a1] h h' (some (.int r)) := by
  obtain ⟨d, rfl⟩ : ∃ d, d0 = d + 1 := ⟨d0 - 1, by omega⟩
  have hd : 0 ≤ d := by omega
  refine ⟨Nat.le_of_ble_eq_true rfl, ?_⟩
  show Eb (Ev tb mL d) 51 (0, [.ref a0, .int a1], [], h) h' (some (.int r))
  unfold f_River_hasGarden at e
  refine eb_n 1 (1, [.ref a0, .int a1], [.int a1], h) (rfl) ?_
  refine eb_b (c := a1 < 0) (21, [.ref a0, .int a1], [], h) (4, [.ref a0, .int a1], [], h) rfl (fun c1 => ?_) (fun c1 => ?_)
  · replace e := ite_t c1 e
    refine eb_n 1 (22, [.ref a0, .int a1], [.int (nI 0)], h) (rfl) ?_
    rw [(sp_inj e).1, (sp_inj e).2]
    exact eb_rg (p := nrm 3 (nI 0)) rfl nrm_30
  · replace e := ite_f c1 e
    refine eb_n 2 (6, [.ref a0, .int a1], [.ref a0, .int a1], h) (rfl) ?_
    obtain ⟨g2, e⟩ := gd_some e
    refine eb_g (p := hT h a0 = 3) (9, [.ref a0, .int a1], [.int (hI h a0 6), .int a1], h) rfl g2 ?_
    refine eb_b (c := (hI h a0 6) ≤ a1) (21, [.ref a0, .int a1], [], h) (12, [.ref a0, .int a1], [], h) rfl (fun c3 => ?_) (fun c3 => ?_)
    · replace e := ite_t c3 e
      refine eb_n 1 (22, [.ref a0, .int a1], [.int (nI 0)], h) (rfl) ?_
      rw [(sp_inj e).1, (sp_inj e).2]
      exact eb_rg (p := nrm 3 (nI 0)) rfl nrm_30
    · replace e := ite_f c3 e
      refine eb_n 2 (14, [.ref a0, .int a1], [.int (nI 4), .int a1], h) (rfl) ?_
      refine eb_b (c := (nI 4) ≤ a1) (21, [.ref a0, .int a1], [], h) (17, [.ref a0, .int a1], [], h) rfl (fun c4 => ?_) (fun c4 => ?_)
      · replace e := ite_t c4 e
        refine eb_n 1 (22, [.ref a0, .int a1], [.int (nI 0)], h) (rfl) ?_
        rw [(sp_inj e).1, (sp_inj e).2]
        exact eb_rg (p := nrm 3 (nI 0)) rfl nrm_30
      · replace e := ite_f c4 e
        refine eb_n 2 (22, [.ref a0, .int a1], [.int (nI 1)], h) (rfl) ?_
        rw [(sp_inj e).1, (sp_inj e).2]
        exact eb_rg (p := nrm 3 (nI 1)) rfl nrm_31
set_option maxRecDepth 100000 in
set_option maxHeartbeats 4000000 in
theorem f_River_latestGarden_b27_ev {h' : AH} {r : Nat} (d : Nat) (hd : 1 ≤ d)  (h : AH)  (s0 : Nat) (s1 : Int32) (d0 : Value) (e : f_River_latestGarden_b27  h s0 s1 = some (h', r)) : Eb (Ev tb mL d) 193 (27, [d0], [.int s1, .ref s0], h) h' (some (.ref r)) := by
  unfold f_River_latestGarden_b27 at e
  obtain ⟨g1, e⟩ := gd_some e
  refine eb_g (p := hT h s0 = 104 ∧ inb s1 (hL h s0)) (28, [d0], [.ref (hR h s0 (ix s1))], h) rfl g1 ?_
  rw [(sp_inj e).1, (sp_inj e).2]
  exact eb_r rfl
set_option maxRecDepth 100000 in
set_option maxHeartbeats 4000000 in
theorem f_River_latestGarden_ev (d0 : Nat) (hd0 : 2 ≤ d0) {h' : AH} {r : Nat} {h : AH} {a0 : Nat} (e : f_River_latestGarden h a0 = some (h', r)) : Ev tb mL d0 193 [.ref a0] h h' (some (.ref r)) := by
  obtain ⟨d, rfl⟩ : ∃ d, d0 = d + 1 := ⟨d0 - 1, by omega⟩
  have hd : 1 ≤ d := by omega
  refine ⟨Nat.le_of_ble_eq_true rfl, ?_⟩
  show Eb (Ev tb mL d) 193 (0, [.ref a0], [], h) h' (some (.ref r))
  unfold f_River_latestGarden at e
  refine eb_n 1 (1, [.ref a0], [.ref a0], h) (rfl) ?_
  obtain ⟨g1, e⟩ := gd_some e
  refine eb_g (p := hT h a0 = 3) (4, [.ref a0], [.ref (hR h a0 0)], h) rfl g1 ?_
  refine eb_n 2 (6, [.ref a0], [.ref a0, .ref a0, .ref (hR h a0 0)], h) (rfl) ?_
  refine eb_g (p := hT h a0 = 3) (9, [.ref a0], [.int (hI h a0 6), .ref a0, .ref (hR h a0 0)], h) rfl g1 ?_
  refine eb_n 2 (11, [.ref a0], [.int ((hI h a0 6) - (nI 1)), .ref a0, .ref (hR h a0 0)], h) (rfl) ?_
  obtain ⟨h2, r3, eh2, e⟩ := bn_some e
  refine eb_cg (p := hT h a0 = 3) rfl g1 (f_River_hasGarden_ev d (Nat.le_trans (by decide) hd) eh2) ?_
  show Eb _ 193 (14, [.ref a0], [.int r3, .ref (hR h a0 0)], h2) _ _
  refine eb_b (c := r3 = 0) (26, [.ref a0], [.ref (hR h a0 0)], h2) (17, [.ref a0], [.ref (hR h a0 0)], h2) rfl (fun c4 => ?_) (fun c4 => ?_)
  · replace e := ite_t c4 e
    refine eb_n 1 (27, [.ref a0], [.int (nI 0), .ref (hR h a0 0)], h2) (rfl) ?_
    exact f_River_latestGarden_b27_ev d hd   _ _ _ _ e
  · replace e := ite_f c4 e
    refine eb_n 1 (18, [.ref a0], [.ref a0, .ref (hR h a0 0)], h2) (rfl) ?_
    obtain ⟨g5, e⟩ := gd_some e
    refine eb_g (p := hT h2 a0 = 3) (21, [.ref a0], [.int (hI h2 a0 6), .ref (hR h a0 0)], h2) rfl g5 ?_
    refine eb_n 3 (27, [.ref a0], [.int ((hI h2 a0 6) - (nI 1)), .ref (hR h a0 0)], h2) (rfl) ?_
    exact f_River_latestGarden_b27_ev d hd   _ _ _ _ e
set_option maxRecDepth 100000 in
set_option maxHeartbeats 4000000 in
theorem f_QuillBoats_isWithin_ev (d0 : Nat) (hd0 : 1 ≤ d0) {h' : AH} {r : Int32} {h : AH} {a0 : Int32} {a1 : Int32} {a2 : Int32} (e : f_QuillBoats_isWithin h a0 a1 a2 = some (h', r)) : Ev tb mL d0 49 [.int a0, .int a1, .int a2] h h' (some (.int r)) := by
  obtain ⟨d, rfl⟩ : ∃ d, d0 = d + 1 := ⟨d0 - 1, by omega⟩
  have hd : 0 ≤ d := by omega
  refine ⟨Nat.le_of_ble_eq_true rfl, ?_⟩
  show Eb (Ev tb mL d) 49 (0, [.int a0, .int a1, .int a2], [], h) h' (some (.int r))
  unfold f_QuillBoats_isWithin at e
  refine eb_n 2 (2, [.int a0, .int a1, .int a2], [.int a1, .int a0], h) (rfl) ?_
  refine eb_b (c := a0 < a1) (14, [.int a0, .int a1, .int a2], [], h) (5, [.int a0, .int a1, .int a2], [], h) rfl (fun c1 => ?_) (fun c1 => ?_)
  · replace e := ite_t c1 e
    refine eb_n 1 (15, [.int a0, .int a1, .int a2], [.int (nI 0)], h) (rfl) ?_
    rw [(sp_inj e).1, (sp_inj e).2]
    exact eb_rg (p := nrm 3 (nI 0)) rfl nrm_30
  · replace e := ite_f c1 e
    refine eb_n 2 (7, [.int a0, .int a1, .int a2], [.int a2, .int a0], h) (rfl) ?_
    refine eb_b (c := a2 < a0) (14, [.int a0, .int a1, .int a2], [], h) (10, [.int a0, .int a1, .int a2], [], h) rfl (fun c2 => ?_) (fun c2 => ?_)
    · replace e := ite_t c2 e
      refine eb_n 1 (15, [.int a0, .int a1, .int a2], [.int (nI 0)], h) (rfl) ?_
      rw [(sp_inj e).1, (sp_inj e).2]
      exact eb_rg (p := nrm 3 (nI 0)) rfl nrm_30
    · replace e := ite_f c2 e
      refine eb_n 2 (15, [.int a0, .int a1, .int a2], [.int (nI 1)], h) (rfl) ?_
      rw [(sp_inj e).1, (sp_inj e).2]
      exact eb_rg (p := nrm 3 (nI 1)) rfl nrm_31
set_option maxRecDepth 100000 in
set_option maxHeartbeats 4000000 in
theorem f_Names_errorOutside_ev (d0 : Nat) (hd0 : 2 ≤ d0) {h' : AH} {r : Int32} {h : AH} {a0 : Nat} {a1 : Int32} {a2 : Int32} (e : f_Names_errorOutside h a0 a1 a2 = some (h', r)) : Ev tb mL d0 194 [.ref a0, .int a1, .int a2] h h' (some (.int r)) := by
  obtain ⟨d, rfl⟩ : ∃ d, d0 = d + 1 := ⟨d0 - 1, by omega⟩
  have hd : 1 ≤ d := by omega
  refine ⟨Nat.le_of_ble_eq_true rfl, ?_⟩
  show Eb (Ev tb mL d) 194 (0, [.ref a0, .int a1, .int a2], [], h) h' (some (.int r))
  unfold f_Names_errorOutside at e
  refine eb_n 1 (1, [.ref a0, .int a1, .int a2], [.ref a0], h) (rfl) ?_
  obtain ⟨g1, e⟩ := gd_some e
  refine eb_g (p := hT h a0 = 9) (4, [.ref a0, .int a1, .int a2], [.ref (hR h a0 1)], h) rfl g1 ?_
  refine eb_n 1 (5, [.ref a0, .int a1, .int a2], [.ref a0, .ref (hR h a0 1)], h) (rfl) ?_
  refine eb_g (p := hT h a0 = 9) (8, [.ref a0, .int a1, .int a2], [.int (hI h a0 7), .ref (hR h a0 1)], h) rfl g1 ?_
  obtain ⟨g2, e⟩ := gd_some e
  obtain ⟨h3, r4, eh3, e⟩ := bn_some e
  refine eb_cg (p := hT h (hR h a0 1) = 11) rfl g2 (f_Tokens_numberOf_ev d (Nat.le_trans (by decide) hd) eh3) ?_
  show Eb _ 194 (11, [.ref a0, .int a1, .int a2], [.int r4], h3) _ _
  refine eb_n 2 (13, [.ref a0, .int a1, .int a2], [.int a2, .int a1, .int r4], h3) (rfl) ?_
  obtain ⟨h5, r6, eh5, e⟩ := bn_some e
  refine eb_c rfl (f_QuillBoats_isWithin_ev d (Nat.le_trans (by decide) hd) eh5) ?_
  show Eb _ 194 (16, [.ref a0, .int a1, .int a2], [.int r6], h5) _ _
  refine eb_b (c := r6 = 0) (23, [.ref a0, .int a1, .int a2], [], h5) (19, [.ref a0, .int a1, .int a2], [], h5) rfl (fun c7 => ?_) (fun c7 => ?_)
  · replace e := ite_t c7 e
    refine eb_n 1 (24, [.ref a0, .int a1, .int a2], [.int (nI 5)], h5) (rfl) ?_
    rw [(sp_inj e).1, (sp_inj e).2]
    exact eb_rg (p := nrm 0 (nI 5)) rfl (nrm_0 _)
  · replace e := ite_f c7 e
    refine eb_n 2 (24, [.ref a0, .int a1, .int a2], [.int (nI 0)], h5) (rfl) ?_
    rw [(sp_inj e).1, (sp_inj e).2]
    exact eb_rg (p := nrm 0 (nI 0)) rfl (nrm_0 _)
set_option maxRecDepth 100000 in
set_option maxHeartbeats 4000000 in
theorem f_Names_setHolds_ev (d0 : Nat) (hd0 : 3 ≤ d0) {h' : AH} {r : Int32} {h : AH} {a0 : Nat} {a1 : Int32} (e : f_Names_setHolds h a0 a1 = some (h', r)) : Ev tb mL d0 195 [.ref a0, .int a1] h h' (some (.int r)) := by
  obtain ⟨d, rfl⟩ : ∃ d, d0 = d + 1 := ⟨d0 - 1, by omega⟩
  have hd : 2 ≤ d := by omega
  refine ⟨Nat.le_of_ble_eq_true rfl, ?_⟩
  show Eb (Ev tb mL d) 195 (0, [.ref a0, .int a1], [], h) h' (some (.int r))
  unfold f_Names_setHolds at e
  refine eb_n 1 (1, [.ref a0, .int a1], [.ref a0], h) (rfl) ?_
  obtain ⟨g1, e⟩ := gd_some e
  refine eb_g (p := hT h a0 = 9) (4, [.ref a0, .int a1], [.ref (hR h a0 1)], h) rfl g1 ?_
  refine eb_n 1 (5, [.ref a0, .int a1], [.ref a0, .ref (hR h a0 1)], h) (rfl) ?_
  refine eb_g (p := hT h a0 = 9) (8, [.ref a0, .int a1], [.int (hI h a0 7), .ref (hR h a0 1)], h) rfl g1 ?_
  refine eb_n 2 (10, [.ref a0, .int a1], [.int ((hI h a0 7) - (nI 3)), .ref (hR h a0 1)], h) (rfl) ?_
  obtain ⟨g2, e⟩ := gd_some e
  obtain ⟨h3, r4, eh3, e⟩ := bn_some e
  refine eb_cg (p := hT h (hR h a0 1) = 11) rfl g2 (f_Tokens_kindOf_I_ev d (Nat.le_trans (by decide) hd) eh3) ?_
  show Eb _ 195 (13, [.ref a0, .int a1], [.int r4], h3) _ _
  refine eb_n 1 (14, [.ref a0, .int a1], [.int (nI 5), .int r4], h3) (rfl) ?_
  refine eb_b (c := ¬ r4 = (nI 5)) (36, [.ref a0, .int a1], [], h3) (17, [.ref a0, .int a1], [], h3) rfl (fun c5 => ?_) (fun c5 => ?_)
  · replace e := ite_t c5 e
    refine eb_n 1 (37, [.ref a0, .int a1], [.ref a0], h3) (rfl) ?_
    obtain ⟨g6, e⟩ := gd_some e
    refine eb_g (p := hT h3 a0 = 9) (40, [.ref a0, .int a1], [.ref (hR h3 a0 2)], h3) rfl g6 ?_
    obtain ⟨g7, e⟩ := gd_some e
    obtain ⟨h8, r9, eh8, e⟩ := bn_some e
    refine eb_cg (p := hT h3 (hR h3 a0 2) = 3) rfl g7 (f_River_latestBoat_ev d (Nat.le_trans (by decide) hd) eh8) ?_
    show Eb _ 195 (43, [.ref a0, .int a1], [.ref r9], h8) _ _
    refine eb_n 1 (44, [.ref a0, .int a1], [.int a1, .ref r9], h8) (rfl) ?_
    obtain ⟨g10, e⟩ := gd_some e
    obtain ⟨h11, eh11, e⟩ := lq_some e
    refine eb_g (p := hT h8 r9 = 7) (47, [.ref a0, .int a1], [], h11) (by rw [eh11]; rfl) g10 ?_
    refine eb_n 3 (51, [.ref a0, .int a1], [.int (nI 40), .int (nI 1), .ref a0], h11) (rfl) ?_
    obtain ⟨g12, e⟩ := gd_some e
    obtain ⟨h13, r14, eh13, e⟩ := bn_some e
    refine eb_cg (p := hT h11 a0 = 9) rfl g12 (f_Names_errorOutside_ev d (Nat.le_trans (by decide) hd) eh13) ?_
    show Eb _ 195 (54, [.ref a0, .int a1], [.int r14], h13) _ _
    rw [(sp_inj e).1, (sp_inj e).2]
    exact eb_rg (p := nrm 0 r14) rfl (nrm_0 _)
  · replace e := ite_f c5 e
    refine eb_n 1 (18, [.ref a0, .int a1], [.ref a0], h3) (rfl) ?_
    obtain ⟨g15, e⟩ := gd_some e
    refine eb_g (p := hT h3 a0 = 9) (21, [.ref a0, .int a1], [.ref (hR h3 a0 2)], h3) rfl g15 ?_
    obtain ⟨g16, e⟩ := gd_some e
    obtain ⟨h17, r18, eh17, e⟩ := bn_some e
    refine eb_cg (p := hT h3 (hR h3 a0 2) = 3) rfl g16 (f_River_latestRack_ev d (Nat.le_trans (by decide) hd) eh17) ?_
    show Eb _ 195 (24, [.ref a0, .int a1], [.ref r18], h17) _ _
    refine eb_n 1 (25, [.ref a0, .int a1], [.int a1, .ref r18], h17) (rfl) ?_
    obtain ⟨g19, e⟩ := gd_some e
    obtain ⟨h20, eh20, e⟩ := lq_some e
    refine eb_g (p := hT h17 r18 = 5) (28, [.ref a0, .int a1], [], h20) (by rw [eh20]; rfl) g19 ?_
    refine eb_n 3 (32, [.ref a0, .int a1], [.int (nI 60), .int (nI 1), .ref a0], h20) (rfl) ?_
    obtain ⟨g21, e⟩ := gd_some e
    obtain ⟨h22, r23, eh22, e⟩ := bn_some e
    refine eb_cg (p := hT h20 a0 = 9) rfl g21 (f_Names_errorOutside_ev d (Nat.le_trans (by decide) hd) eh22) ?_
    show Eb _ 195 (35, [.ref a0, .int a1], [.int r23], h22) _ _
    rw [(sp_inj e).1, (sp_inj e).2]
    exact eb_rg (p := nrm 0 r23) rfl (nrm_0 _)
set_option maxRecDepth 100000 in
set_option maxHeartbeats 4000000 in
theorem f_River_setShadeOf_ev (d0 : Nat) (hd0 : 2 ≤ d0) {h' : AH} {h : AH} {a0 : Nat} {a1 : Int32} {a2 : Int32} (e : f_River_setShadeOf h a0 a1 a2 = some h') : Ev tb mL d0 198 [.ref a0, .int a1, .int a2] h h' none := by
  obtain ⟨d, rfl⟩ : ∃ d, d0 = d + 1 := ⟨d0 - 1, by omega⟩
  have hd : 1 ≤ d := by omega
  refine ⟨Nat.le_of_ble_eq_true rfl, ?_⟩
  show Eb (Ev tb mL d) 198 (0, [.ref a0, .int a1, .int a2], [], h) h' none
  unfold f_River_setShadeOf at e
  refine eb_n 3 (4, [.ref a0, .int a1, .int a2], [.int (nI 11), .int (nI 0), .int a1], h) (rfl) ?_
  obtain ⟨h1, r2, eh1, e⟩ := bn_some e
  refine eb_c rfl (f_QuillBoats_isWithin_ev d (Nat.le_trans (by decide) hd) eh1) ?_
  show Eb _ 198 (7, [.ref a0, .int a1, .int a2], [.int r2], h1) _ _
  refine eb_b (c := r2 = 0) (17, [.ref a0, .int a1, .int a2], [], h1) (10, [.ref a0, .int a1, .int a2], [], h1) rfl (fun c3 => ?_) (fun c3 => ?_)
  · replace e := ite_t c3 e
    rw [sv_inj e]
    exact eb_r rfl
  · replace e := ite_f c3 e
    refine eb_n 1 (11, [.ref a0, .int a1, .int a2], [.ref a0], h1) (rfl) ?_
    obtain ⟨g4, e⟩ := gd_some e
    refine eb_g (p := hT h1 a0 = 3) (14, [.ref a0, .int a1, .int a2], [.ref (hR h1 a0 5)], h1) rfl g4 ?_
    refine eb_n 2 (16, [.ref a0, .int a1, .int a2], [.int a2, .int a1, .ref (hR h1 a0 5)], h1) (rfl) ?_
    obtain ⟨g5, e⟩ := gd_some e
    obtain ⟨h6, eh6, e⟩ := lq_some e
    refine eb_g (p := hT h1 (hR h1 a0 5) = 101 ∧ inb a1 (hL h1 (hR h1 a0 5))) (17, [.ref a0, .int a1, .int a2], [], h6) (by rw [eh6]; rfl) g5 ?_
    rw [sv_inj e]
    exact eb_r rfl
set_option maxRecDepth 100000 in
set_option maxHeartbeats 4000000 in
theorem f_Names_lookAtNumber_ev (d0 : Nat) (hd0 : 4 ≤ d0) {h' : AH} {r : Int32} {h : AH} {a0 : Nat} {a1 : Int32} {a2 : Int32} (e : f_Names_lookAtNumber h a0 a1 a2 = some (h', r)) : Ev tb mL d0 174 [.ref a0, .int a1, .int a2] h h' (some (.int r)) := by
  obtain ⟨d, rfl⟩ : ∃ d, d0 = d + 1 := ⟨d0 - 1, by omega⟩
  have hd : 3 ≤ d := by omega
  refine ⟨Nat.le_of_ble_eq_true rfl, ?_⟩
  show Eb (Ev tb mL d) 174 (0, [.ref a0, .int a1, .int a2], [], h) h' (some (.int r))
  unfold f_Names_lookAtNumber at e
  refine eb_n 1 (1, [.ref a0, .int a1, .int a2], [.int a1], h) (rfl) ?_
  by_cases c1 : a1 = nI 2
  · replace e := ite_t c1 e
    refine eb_n 1 (96, [.ref a0, .int a1, .int a2], [], h) (by rw [c1]; rfl) ?_
    refine eb_n 1 (97, [.ref a0, .int a1, .int a2], [.ref a0], h) (rfl) ?_
    obtain ⟨g2, e⟩ := gd_some e
    refine eb_g (p := hT h a0 = 9) (100, [.ref a0, .int a1, .int a2], [.ref (hR h a0 2)], h) rfl g2 ?_
    obtain ⟨g3, e⟩ := gd_some e
    obtain ⟨h4, r5, eh4, e⟩ := bn_some e
    refine eb_cg (p := hT h (hR h a0 2) = 3) rfl g3 (f_River_latestGarden_ev d (Nat.le_trans (by decide) hd) eh4) ?_
    show Eb _ 174 (103, [.ref a0, .int a1, .int a2], [.ref r5], h4) _ _
    refine eb_n 1 (104, [.ref a0, .int a1, .int a2], [.int a2, .ref r5], h4) (rfl) ?_
    obtain ⟨g6, e⟩ := gd_some e
    obtain ⟨h7, eh7, e⟩ := lq_some e
    refine eb_g (p := hT h4 r5 = 4) (107, [.ref a0, .int a1, .int a2], [], h7) (by rw [eh7]; rfl) g6 ?_
    refine eb_n 3 (111, [.ref a0, .int a1, .int a2], [.int (nI 99), .int (nI 0), .ref a0], h7) (rfl) ?_
    obtain ⟨g8, e⟩ := gd_some e
    obtain ⟨h9, r10, eh9, e⟩ := bn_some e
    refine eb_cg (p := hT h7 a0 = 9) rfl g8 (f_Names_errorOutside_ev d (Nat.le_trans (by decide) hd) eh9) ?_
    show Eb _ 174 (114, [.ref a0, .int a1, .int a2], [.int r10], h9) _ _
    rw [(sp_inj e).1, (sp_inj e).2]
    exact eb_rg (p := nrm 0 r10) rfl (nrm_0 _)
  replace e := ite_f c1 e
  by_cases c11 : a1 = nI 3
  · replace e := ite_t c11 e
    refine eb_n 1 (115, [.ref a0, .int a1, .int a2], [], h) (by rw [c11]; rfl) ?_
    refine eb_n 1 (116, [.ref a0, .int a1, .int a2], [.ref a0], h) (rfl) ?_
    obtain ⟨g12, e⟩ := gd_some e
    refine eb_g (p := hT h a0 = 9) (119, [.ref a0, .int a1, .int a2], [.ref (hR h a0 2)], h) rfl g12 ?_
    obtain ⟨g13, e⟩ := gd_some e
    obtain ⟨h14, r15, eh14, e⟩ := bn_some e
    refine eb_cg (p := hT h (hR h a0 2) = 3) rfl g13 (f_River_latestGarden_ev d (Nat.le_trans (by decide) hd) eh14) ?_
    show Eb _ 174 (122, [.ref a0, .int a1, .int a2], [.ref r15], h14) _ _
    refine eb_n 1 (123, [.ref a0, .int a1, .int a2], [.int a2, .ref r15], h14) (rfl) ?_
    obtain ⟨g16, e⟩ := gd_some e
    obtain ⟨h17, eh17, e⟩ := lq_some e
    refine eb_g (p := hT h14 r15 = 4) (126, [.ref a0, .int a1, .int a2], [], h17) (by rw [eh17]; rfl) g16 ?_
    refine eb_n 3 (130, [.ref a0, .int a1, .int a2], [.int (nI 20), .int (nI 0), .ref a0], h17) (rfl) ?_
    obtain ⟨g18, e⟩ := gd_some e
    obtain ⟨h19, r20, eh19, e⟩ := bn_some e
    refine eb_cg (p := hT h17 a0 = 9) rfl g18 (f_Names_errorOutside_ev d (Nat.le_trans (by decide) hd) eh19) ?_
    show Eb _ 174 (133, [.ref a0, .int a1, .int a2], [.int r20], h19) _ _
    rw [(sp_inj e).1, (sp_inj e).2]
    exact eb_rg (p := nrm 0 r20) rfl (nrm_0 _)
  replace e := ite_f c11 e
  by_cases c21 : a1 = nI 4
  · replace e := ite_t c21 e
    refine eb_n 1 (134, [.ref a0, .int a1, .int a2], [], h) (by rw [c21]; rfl) ?_
    refine eb_n 1 (135, [.ref a0, .int a1, .int a2], [.ref a0], h) (rfl) ?_
    obtain ⟨g22, e⟩ := gd_some e
    refine eb_g (p := hT h a0 = 9) (138, [.ref a0, .int a1, .int a2], [.ref (hR h a0 2)], h) rfl g22 ?_
    obtain ⟨g23, e⟩ := gd_some e
    obtain ⟨h24, r25, eh24, e⟩ := bn_some e
    refine eb_cg (p := hT h (hR h a0 2) = 3) rfl g23 (f_River_latestGarden_ev d (Nat.le_trans (by decide) hd) eh24) ?_
    show Eb _ 174 (141, [.ref a0, .int a1, .int a2], [.ref r25], h24) _ _
    refine eb_n 1 (142, [.ref a0, .int a1, .int a2], [.int a2, .ref r25], h24) (rfl) ?_
    obtain ⟨g26, e⟩ := gd_some e
    obtain ⟨h27, eh27, e⟩ := lq_some e
    refine eb_g (p := hT h24 r25 = 4) (145, [.ref a0, .int a1, .int a2], [], h27) (by rw [eh27]; rfl) g26 ?_
    refine eb_n 3 (149, [.ref a0, .int a1, .int a2], [.int (nI 9), .int (nI 1), .ref a0], h27) (rfl) ?_
    obtain ⟨g28, e⟩ := gd_some e
    obtain ⟨h29, r30, eh29, e⟩ := bn_some e
    refine eb_cg (p := hT h27 a0 = 9) rfl g28 (f_Names_errorOutside_ev d (Nat.le_trans (by decide) hd) eh29) ?_
    show Eb _ 174 (152, [.ref a0, .int a1, .int a2], [.int r30], h29) _ _
    rw [(sp_inj e).1, (sp_inj e).2]
    exact eb_rg (p := nrm 0 r30) rfl (nrm_0 _)
  replace e := ite_f c21 e
  by_cases c31 : a1 = nI 5
  · replace e := ite_t c31 e
    refine eb_n 1 (288, [.ref a0, .int a1, .int a2], [], h) (by rw [c31]; rfl) ?_
    refine eb_n 1 (289, [.ref a0, .int a1, .int a2], [.int (nI 0)], h) (rfl) ?_
    rw [(sp_inj e).1, (sp_inj e).2]
    exact eb_rg (p := nrm 0 (nI 0)) rfl (nrm_0 _)
  replace e := ite_f c31 e
  by_cases c32 : a1 = nI 6
  · replace e := ite_t c32 e
    refine eb_n 1 (153, [.ref a0, .int a1, .int a2], [], h) (by rw [c32]; rfl) ?_
    refine eb_n 2 (155, [.ref a0, .int a1, .int a2], [.int a2, .ref a0], h) (rfl) ?_
    obtain ⟨g33, e⟩ := gd_some e
    obtain ⟨h34, r35, eh34, e⟩ := bn_some e
    refine eb_cg (p := hT h a0 = 9) rfl g33 (f_Names_setHolds_ev d (Nat.le_trans (by decide) hd) eh34) ?_
    show Eb _ 174 (158, [.ref a0, .int a1, .int a2], [.int r35], h34) _ _
    rw [(sp_inj e).1, (sp_inj e).2]
    exact eb_rg (p := nrm 0 r35) rfl (nrm_0 _)
  replace e := ite_f c32 e
  by_cases c36 : a1 = nI 7
  · replace e := ite_t c36 e
    refine eb_n 1 (288, [.ref a0, .int a1, .int a2], [], h) (by rw [c36]; rfl) ?_
    refine eb_n 1 (289, [.ref a0, .int a1, .int a2], [.int (nI 0)], h) (rfl) ?_
    rw [(sp_inj e).1, (sp_inj e).2]
    exact eb_rg (p := nrm 0 (nI 0)) rfl (nrm_0 _)
  replace e := ite_f c36 e
  by_cases c37 : a1 = nI 8
  · replace e := ite_t c37 e
    refine eb_n 1 (288, [.ref a0, .int a1, .int a2], [], h) (by rw [c37]; rfl) ?_
    refine eb_n 1 (289, [.ref a0, .int a1, .int a2], [.int (nI 0)], h) (rfl) ?_
    rw [(sp_inj e).1, (sp_inj e).2]
    exact eb_rg (p := nrm 0 (nI 0)) rfl (nrm_0 _)
  replace e := ite_f c37 e
  by_cases c38 : a1 = nI 9
  · replace e := ite_t c38 e
    refine eb_n 1 (288, [.ref a0, .int a1, .int a2], [], h) (by rw [c38]; rfl) ?_
    refine eb_n 1 (289, [.ref a0, .int a1, .int a2], [.int (nI 0)], h) (rfl) ?_
    rw [(sp_inj e).1, (sp_inj e).2]
    exact eb_rg (p := nrm 0 (nI 0)) rfl (nrm_0 _)
  replace e := ite_f c38 e
  by_cases c39 : a1 = nI 10
  · replace e := ite_t c39 e
    refine eb_n 1 (159, [.ref a0, .int a1, .int a2], [], h) (by rw [c39]; rfl) ?_
    refine eb_n 1 (160, [.ref a0, .int a1, .int a2], [.ref a0], h) (rfl) ?_
    obtain ⟨g40, e⟩ := gd_some e
    refine eb_g (p := hT h a0 = 9) (163, [.ref a0, .int a1, .int a2], [.ref (hR h a0 2)], h) rfl g40 ?_
    obtain ⟨g41, e⟩ := gd_some e
    obtain ⟨h42, r43, eh42, e⟩ := bn_some e
    refine eb_cg (p := hT h (hR h a0 2) = 3) rfl g41 (f_River_latestPeeler_ev d (Nat.le_trans (by decide) hd) eh42) ?_
    show Eb _ 174 (166, [.ref a0, .int a1, .int a2], [.ref r43], h42) _ _
    refine eb_n 1 (167, [.ref a0, .int a1, .int a2], [.int a2, .ref r43], h42) (rfl) ?_
    obtain ⟨g44, e⟩ := gd_some e
    obtain ⟨h45, eh45, e⟩ := lq_some e
    refine eb_g (p := hT h42 r43 = 6) (170, [.ref a0, .int a1, .int a2], [], h45) (by rw [eh45]; rfl) g44 ?_
    refine eb_n 3 (174, [.ref a0, .int a1, .int a2], [.int (nI 9), .int (nI 1), .ref a0], h45) (rfl) ?_
    obtain ⟨g46, e⟩ := gd_some e
    obtain ⟨h47, r48, eh47, e⟩ := bn_some e
    refine eb_cg (p := hT h45 a0 = 9) rfl g46 (f_Names_errorOutside_ev d (Nat.le_trans (by decide) hd) eh47) ?_
    show Eb _ 174 (177, [.ref a0, .int a1, .int a2], [.int r48], h47) _ _
    rw [(sp_inj e).1, (sp_inj e).2]
    exact eb_rg (p := nrm 0 r48) rfl (nrm_0 _)
  replace e := ite_f c39 e
  by_cases c49 : a1 = nI 11
  · replace e := ite_t c49 e
    refine eb_n 1 (288, [.ref a0, .int a1, .int a2], [], h) (by rw [c49]; rfl) ?_
    refine eb_n 1 (289, [.ref a0, .int a1, .int a2], [.int (nI 0)], h) (rfl) ?_
    rw [(sp_inj e).1, (sp_inj e).2]
    exact eb_rg (p := nrm 0 (nI 0)) rfl (nrm_0 _)
  replace e := ite_f c49 e
  by_cases c50 : a1 = nI 12
  · replace e := ite_t c50 e
    refine eb_n 1 (178, [.ref a0, .int a1, .int a2], [], h) (by rw [c50]; rfl) ?_
    refine eb_n 1 (179, [.ref a0, .int a1, .int a2], [.ref a0], h) (rfl) ?_
    obtain ⟨g51, e⟩ := gd_some e
    refine eb_g (p := hT h a0 = 9) (182, [.ref a0, .int a1, .int a2], [.ref (hR h a0 2)], h) rfl g51 ?_
    obtain ⟨g52, e⟩ := gd_some e
    obtain ⟨h53, r54, eh53, e⟩ := bn_some e
    refine eb_cg (p := hT h (hR h a0 2) = 3) rfl g52 (f_River_latestBoat_ev d (Nat.le_trans (by decide) hd) eh53) ?_
    show Eb _ 174 (185, [.ref a0, .int a1, .int a2], [.ref r54], h53) _ _
    refine eb_n 1 (186, [.ref a0, .int a1, .int a2], [.int a2, .ref r54], h53) (rfl) ?_
    obtain ⟨g55, e⟩ := gd_some e
    obtain ⟨h56, eh56, e⟩ := lq_some e
    refine eb_g (p := hT h53 r54 = 7) (189, [.ref a0, .int a1, .int a2], [], h56) (by rw [eh56]; rfl) g55 ?_
    refine eb_n 3 (193, [.ref a0, .int a1, .int a2], [.int (nI 9), .int (nI 1), .ref a0], h56) (rfl) ?_
    obtain ⟨g57, e⟩ := gd_some e
    obtain ⟨h58, r59, eh58, e⟩ := bn_some e
    refine eb_cg (p := hT h56 a0 = 9) rfl g57 (f_Names_errorOutside_ev d (Nat.le_trans (by decide) hd) eh58) ?_
    show Eb _ 174 (196, [.ref a0, .int a1, .int a2], [.int r59], h58) _ _
    rw [(sp_inj e).1, (sp_inj e).2]
    exact eb_rg (p := nrm 0 r59) rfl (nrm_0 _)
  replace e := ite_f c50 e
  by_cases c60 : a1 = nI 13
  · replace e := ite_t c60 e
    refine eb_n 1 (197, [.ref a0, .int a1, .int a2], [], h) (by rw [c60]; rfl) ?_
    refine eb_n 1 (198, [.ref a0, .int a1, .int a2], [.ref a0], h) (rfl) ?_
    obtain ⟨g61, e⟩ := gd_some e
    refine eb_g (p := hT h a0 = 9) (201, [.ref a0, .int a1, .int a2], [.ref (hR h a0 2)], h) rfl g61 ?_
    refine eb_n 1 (202, [.ref a0, .int a1, .int a2], [.int a2, .ref (hR h a0 2)], h) (rfl) ?_
    obtain ⟨g62, e⟩ := gd_some e
    obtain ⟨h63, eh63, e⟩ := lq_some e
    refine eb_g (p := hT h (hR h a0 2) = 3) (205, [.ref a0, .int a1, .int a2], [], h63) (by rw [eh63]; rfl) g62 ?_
    refine eb_n 3 (209, [.ref a0, .int a1, .int a2], [.int (nI 60), .int (nI 1), .ref a0], h63) (rfl) ?_
    obtain ⟨g64, e⟩ := gd_some e
    obtain ⟨h65, r66, eh65, e⟩ := bn_some e
    refine eb_cg (p := hT h63 a0 = 9) rfl g64 (f_Names_errorOutside_ev d (Nat.le_trans (by decide) hd) eh65) ?_
    show Eb _ 174 (212, [.ref a0, .int a1, .int a2], [.int r66], h65) _ _
    rw [(sp_inj e).1, (sp_inj e).2]
    exact eb_rg (p := nrm 0 r66) rfl (nrm_0 _)
  replace e := ite_f c60 e
  by_cases c67 : a1 = nI 14
  · replace e := ite_t c67 e
    refine eb_n 1 (213, [.ref a0, .int a1, .int a2], [], h) (by rw [c67]; rfl) ?_
    refine eb_n 1 (214, [.ref a0, .int a1, .int a2], [.ref a0], h) (rfl) ?_
    obtain ⟨g68, e⟩ := gd_some e
    refine eb_g (p := hT h a0 = 9) (217, [.ref a0, .int a1, .int a2], [.ref (hR h a0 2)], h) rfl g68 ?_
    refine eb_n 1 (218, [.ref a0, .int a1, .int a2], [.int a2, .ref (hR h a0 2)], h) (rfl) ?_
    obtain ⟨g69, e⟩ := gd_some e
    obtain ⟨h70, eh70, e⟩ := lq_some e
    refine eb_g (p := hT h (hR h a0 2) = 3) (221, [.ref a0, .int a1, .int a2], [], h70) (by rw [eh70]; rfl) g69 ?_
    refine eb_n 3 (224, [.ref a0, .int a1, .int a2], [.int (nI 5), .int (nI 0), .ref a0], h70) (rfl) ?_
    obtain ⟨g71, e⟩ := gd_some e
    obtain ⟨h72, r73, eh72, e⟩ := bn_some e
    refine eb_cg (p := hT h70 a0 = 9) rfl g71 (f_Names_errorOutside_ev d (Nat.le_trans (by decide) hd) eh72) ?_
    show Eb _ 174 (227, [.ref a0, .int a1, .int a2], [.int r73], h72) _ _
    rw [(sp_inj e).1, (sp_inj e).2]
    exact eb_rg (p := nrm 0 r73) rfl (nrm_0 _)
  replace e := ite_f c67 e
  by_cases c74 : a1 = nI 15
  · replace e := ite_t c74 e
    refine eb_n 1 (228, [.ref a0, .int a1, .int a2], [], h) (by rw [c74]; rfl) ?_
    refine eb_n 3 (232, [.ref a0, .int a1, .int a2], [.int (nI 11), .int (nI 0), .ref a0], h) (rfl) ?_
    obtain ⟨g75, e⟩ := gd_some e
    obtain ⟨h76, r77, eh76, e⟩ := bn_some e
    refine eb_cg (p := hT h a0 = 9) rfl g75 (f_Names_errorOutside_ev d (Nat.le_trans (by decide) hd) eh76) ?_
    show Eb _ 174 (235, [.ref a0, .int a1, .int a2], [.int r77], h76) _ _
    rw [(sp_inj e).1, (sp_inj e).2]
    exact eb_rg (p := nrm 0 r77) rfl (nrm_0 _)
  replace e := ite_f c74 e
  by_cases c78 : a1 = nI 16
  · replace e := ite_t c78 e
    refine eb_n 1 (236, [.ref a0, .int a1, .int a2], [], h) (by rw [c78]; rfl) ?_
    refine eb_n 1 (237, [.ref a0, .int a1, .int a2], [.ref a0], h) (rfl) ?_
    obtain ⟨g79, e⟩ := gd_some e
    refine eb_g (p := hT h a0 = 9) (240, [.ref a0, .int a1, .int a2], [.ref (hR h a0 2)], h) rfl g79 ?_
    refine eb_n 1 (241, [.ref a0, .int a1, .int a2], [.ref a0, .ref (hR h a0 2)], h) (rfl) ?_
    refine eb_g (p := hT h a0 = 9) (244, [.ref a0, .int a1, .int a2], [.ref (hR h a0 1), .ref (hR h a0 2)], h) rfl g79 ?_
    refine eb_n 1 (245, [.ref a0, .int a1, .int a2], [.ref a0, .ref (hR h a0 1), .ref (hR h a0 2)], h) (rfl) ?_
    refine eb_g (p := hT h a0 = 9) (248, [.ref a0, .int a1, .int a2], [.int (hI h a0 7), .ref (hR h a0 1), .ref (hR h a0 2)], h) rfl g79 ?_
    refine eb_n 2 (250, [.ref a0, .int a1, .int a2], [.int ((hI h a0 7) - (nI 2)), .ref (hR h a0 1), .ref (hR h a0 2)], h) (rfl) ?_
    obtain ⟨g80, e⟩ := gd_some e
    obtain ⟨h81, r82, eh81, e⟩ := bn_some e
    refine eb_cg (p := hT h (hR h a0 1) = 11) rfl g80 (f_Tokens_numberOf_ev d (Nat.le_trans (by decide) hd) eh81) ?_
    show Eb _ 174 (253, [.ref a0, .int a1, .int a2], [.int r82, .ref (hR h a0 2)], h81) _ _
    refine eb_n 1 (254, [.ref a0, .int a1, .int a2], [.int a2, .int r82, .ref (hR h a0 2)], h81) (rfl) ?_
    obtain ⟨g83, e⟩ := gd_some e
    obtain ⟨h84, eh84, e⟩ := bv_some e
    refine eb_cg (p := hT h81 (hR h a0 2) = 3) rfl g83 (f_River_setShadeOf_ev d (Nat.le_trans (by decide) hd) eh84) ?_
    show Eb _ 174 (257, [.ref a0, .int a1, .int a2], [], h84) _ _
    refine eb_n 3 (260, [.ref a0, .int a1, .int a2], [.int (nI 3), .int (nI 0), .ref a0], h84) (rfl) ?_
    obtain ⟨g85, e⟩ := gd_some e
    obtain ⟨h86, r87, eh86, e⟩ := bn_some e
    refine eb_cg (p := hT h84 a0 = 9) rfl g85 (f_Names_errorOutside_ev d (Nat.le_trans (by decide) hd) eh86) ?_
    show Eb _ 174 (263, [.ref a0, .int a1, .int a2], [.int r87], h86) _ _
    rw [(sp_inj e).1, (sp_inj e).2]
    exact eb_rg (p := nrm 0 r87) rfl (nrm_0 _)
  replace e := ite_f c78 e
  by_cases c88 : a1 = nI 17
  · replace e := ite_t c88 e
    refine eb_n 1 (288, [.ref a0, .int a1, .int a2], [], h) (by rw [c88]; rfl) ?_
    refine eb_n 1 (289, [.ref a0, .int a1, .int a2], [.int (nI 0)], h) (rfl) ?_
    rw [(sp_inj e).1, (sp_inj e).2]
    exact eb_rg (p := nrm 0 (nI 0)) rfl (nrm_0 _)
  replace e := ite_f c88 e
  by_cases c89 : a1 = nI 18
  · replace e := ite_t c89 e
    refine eb_n 1 (264, [.ref a0, .int a1, .int a2], [], h) (by rw [c89]; rfl) ?_
    refine eb_n 1 (265, [.ref a0, .int a1, .int a2], [.ref a0], h) (rfl) ?_
    obtain ⟨g90, e⟩ := gd_some e
    refine eb_g (p := hT h a0 = 9) (268, [.ref a0, .int a1, .int a2], [.ref (hR h a0 2)], h) rfl g90 ?_
    obtain ⟨g91, e⟩ := gd_some e
    refine eb_g (p := hT h (hR h a0 2) = 3) (271, [.ref a0, .int a1, .int a2], [.ref (hR h (hR h a0 2) 4)], h) rfl g91 ?_
    refine eb_n 3 (275, [.ref a0, .int a1, .int a2], [.int (a1 - (nI 18)), .ref (hR h (hR h a0 2) 4)], h) (rfl) ?_
    obtain ⟨g92, e⟩ := gd_some e
    refine eb_g (p := hT h (hR h (hR h a0 2) 4) = 108 ∧ inb (a1 - (nI 18)) (hL h (hR h (hR h a0 2) 4))) (276, [.ref a0, .int a1, .int a2], [.ref (hR h (hR h (hR h a0 2) 4) (ix (a1 - (nI 18))))], h) rfl g92 ?_
    refine eb_n 1 (277, [.ref a0, .int a1, .int a2], [.int a2, .ref (hR h (hR h (hR h a0 2) 4) (ix (a1 - (nI 18))))], h) (rfl) ?_
    obtain ⟨g93, e⟩ := gd_some e
    obtain ⟨h94, eh94, e⟩ := lq_some e
    refine eb_g (p := hT h (hR h (hR h (hR h a0 2) 4) (ix (a1 - (nI 18)))) = 8) (280, [.ref a0, .int a1, .int a2], [], h94) (by rw [eh94]; rfl) g93 ?_
    refine eb_n 3 (284, [.ref a0, .int a1, .int a2], [.int (nI 50), .int (nI 0), .ref a0], h94) (rfl) ?_
    obtain ⟨g95, e⟩ := gd_some e
    obtain ⟨h96, r97, eh96, e⟩ := bn_some e
    refine eb_cg (p := hT h94 a0 = 9) rfl g95 (f_Names_errorOutside_ev d (Nat.le_trans (by decide) hd) eh96) ?_
    show Eb _ 174 (287, [.ref a0, .int a1, .int a2], [.int r97], h96) _ _
    rw [(sp_inj e).1, (sp_inj e).2]
    exact eb_rg (p := nrm 0 r97) rfl (nrm_0 _)
  replace e := ite_f c89 e
  by_cases c98 : a1 = nI 19
  · replace e := ite_t c98 e
    refine eb_n 1 (264, [.ref a0, .int a1, .int a2], [], h) (by rw [c98]; rfl) ?_
    refine eb_n 1 (265, [.ref a0, .int a1, .int a2], [.ref a0], h) (rfl) ?_
    obtain ⟨g99, e⟩ := gd_some e
    refine eb_g (p := hT h a0 = 9) (268, [.ref a0, .int a1, .int a2], [.ref (hR h a0 2)], h) rfl g99 ?_
    obtain ⟨g100, e⟩ := gd_some e
    refine eb_g (p := hT h (hR h a0 2) = 3) (271, [.ref a0, .int a1, .int a2], [.ref (hR h (hR h a0 2) 4)], h) rfl g100 ?_
    refine eb_n 3 (275, [.ref a0, .int a1, .int a2], [.int (a1 - (nI 18)), .ref (hR h (hR h a0 2) 4)], h) (rfl) ?_
    obtain ⟨g101, e⟩ := gd_some e
    refine eb_g (p := hT h (hR h (hR h a0 2) 4) = 108 ∧ inb (a1 - (nI 18)) (hL h (hR h (hR h a0 2) 4))) (276, [.ref a0, .int a1, .int a2], [.ref (hR h (hR h (hR h a0 2) 4) (ix (a1 - (nI 18))))], h) rfl g101 ?_
    refine eb_n 1 (277, [.ref a0, .int a1, .int a2], [.int a2, .ref (hR h (hR h (hR h a0 2) 4) (ix (a1 - (nI 18))))], h) (rfl) ?_
    obtain ⟨g102, e⟩ := gd_some e
    obtain ⟨h103, eh103, e⟩ := lq_some e
    refine eb_g (p := hT h (hR h (hR h (hR h a0 2) 4) (ix (a1 - (nI 18)))) = 8) (280, [.ref a0, .int a1, .int a2], [], h103) (by rw [eh103]; rfl) g102 ?_
    refine eb_n 3 (284, [.ref a0, .int a1, .int a2], [.int (nI 50), .int (nI 0), .ref a0], h103) (rfl) ?_
    obtain ⟨g104, e⟩ := gd_some e
    obtain ⟨h105, r106, eh105, e⟩ := bn_some e
    refine eb_cg (p := hT h103 a0 = 9) rfl g104 (f_Names_errorOutside_ev d (Nat.le_trans (by decide) hd) eh105) ?_
    show Eb _ 174 (287, [.ref a0, .int a1, .int a2], [.int r106], h105) _ _
    rw [(sp_inj e).1, (sp_inj e).2]
    exact eb_rg (p := nrm 0 r106) rfl (nrm_0 _)
  replace e := ite_f c98 e
  by_cases c107 : a1 = nI 20
  · replace e := ite_t c107 e
    refine eb_n 1 (264, [.ref a0, .int a1, .int a2], [], h) (by rw [c107]; rfl) ?_
    refine eb_n 1 (265, [.ref a0, .int a1, .int a2], [.ref a0], h) (rfl) ?_
    obtain ⟨g108, e⟩ := gd_some e
    refine eb_g (p := hT h a0 = 9) (268, [.ref a0, .int a1, .int a2], [.ref (hR h a0 2)], h) rfl g108 ?_
    obtain ⟨g109, e⟩ := gd_some e
    refine eb_g (p := hT h (hR h a0 2) = 3) (271, [.ref a0, .int a1, .int a2], [.ref (hR h (hR h a0 2) 4)], h) rfl g109 ?_
    refine eb_n 3 (275, [.ref a0, .int a1, .int a2], [.int (a1 - (nI 18)), .ref (hR h (hR h a0 2) 4)], h) (rfl) ?_
    obtain ⟨g110, e⟩ := gd_some e
    refine eb_g (p := hT h (hR h (hR h a0 2) 4) = 108 ∧ inb (a1 - (nI 18)) (hL h (hR h (hR h a0 2) 4))) (276, [.ref a0, .int a1, .int a2], [.ref (hR h (hR h (hR h a0 2) 4) (ix (a1 - (nI 18))))], h) rfl g110 ?_
    refine eb_n 1 (277, [.ref a0, .int a1, .int a2], [.int a2, .ref (hR h (hR h (hR h a0 2) 4) (ix (a1 - (nI 18))))], h) (rfl) ?_
    obtain ⟨g111, e⟩ := gd_some e
    obtain ⟨h112, eh112, e⟩ := lq_some e
    refine eb_g (p := hT h (hR h (hR h (hR h a0 2) 4) (ix (a1 - (nI 18)))) = 8) (280, [.ref a0, .int a1, .int a2], [], h112) (by rw [eh112]; rfl) g111 ?_
    refine eb_n 3 (284, [.ref a0, .int a1, .int a2], [.int (nI 50), .int (nI 0), .ref a0], h112) (rfl) ?_
    obtain ⟨g113, e⟩ := gd_some e
    obtain ⟨h114, r115, eh114, e⟩ := bn_some e
    refine eb_cg (p := hT h112 a0 = 9) rfl g113 (f_Names_errorOutside_ev d (Nat.le_trans (by decide) hd) eh114) ?_
    show Eb _ 174 (287, [.ref a0, .int a1, .int a2], [.int r115], h114) _ _
    rw [(sp_inj e).1, (sp_inj e).2]
    exact eb_rg (p := nrm 0 r115) rfl (nrm_0 _)
  replace e := ite_f c107 e
  by_cases c116 : a1 = nI 21
  · replace e := ite_t c116 e
    refine eb_n 1 (264, [.ref a0, .int a1, .int a2], [], h) (by rw [c116]; rfl) ?_
    refine eb_n 1 (265, [.ref a0, .int a1, .int a2], [.ref a0], h) (rfl) ?_
    obtain ⟨g117, e⟩ := gd_some e
    refine eb_g (p := hT h a0 = 9) (268, [.ref a0, .int a1, .int a2], [.ref (hR h a0 2)], h) rfl g117 ?_
    obtain ⟨g118, e⟩ := gd_some e
    refine eb_g (p := hT h (hR h a0 2) = 3) (271, [.ref a0, .int a1, .int a2], [.ref (hR h (hR h a0 2) 4)], h) rfl g118 ?_
    refine eb_n 3 (275, [.ref a0, .int a1, .int a2], [.int (a1 - (nI 18)), .ref (hR h (hR h a0 2) 4)], h) (rfl) ?_
    obtain ⟨g119, e⟩ := gd_some e
    refine eb_g (p := hT h (hR h (hR h a0 2) 4) = 108 ∧ inb (a1 - (nI 18)) (hL h (hR h (hR h a0 2) 4))) (276, [.ref a0, .int a1, .int a2], [.ref (hR h (hR h (hR h a0 2) 4) (ix (a1 - (nI 18))))], h) rfl g119 ?_
    refine eb_n 1 (277, [.ref a0, .int a1, .int a2], [.int a2, .ref (hR h (hR h (hR h a0 2) 4) (ix (a1 - (nI 18))))], h) (rfl) ?_
    obtain ⟨g120, e⟩ := gd_some e
    obtain ⟨h121, eh121, e⟩ := lq_some e
    refine eb_g (p := hT h (hR h (hR h (hR h a0 2) 4) (ix (a1 - (nI 18)))) = 8) (280, [.ref a0, .int a1, .int a2], [], h121) (by rw [eh121]; rfl) g120 ?_
    refine eb_n 3 (284, [.ref a0, .int a1, .int a2], [.int (nI 50), .int (nI 0), .ref a0], h121) (rfl) ?_
    obtain ⟨g122, e⟩ := gd_some e
    obtain ⟨h123, r124, eh123, e⟩ := bn_some e
    refine eb_cg (p := hT h121 a0 = 9) rfl g122 (f_Names_errorOutside_ev d (Nat.le_trans (by decide) hd) eh123) ?_
    show Eb _ 174 (287, [.ref a0, .int a1, .int a2], [.int r124], h123) _ _
    rw [(sp_inj e).1, (sp_inj e).2]
    exact eb_rg (p := nrm 0 r124) rfl (nrm_0 _)
  replace e := ite_f c116 e
  refine eb_1 (f' := (288, [.ref a0, .int a1, .int a2], [], h)) (tsw_d (tsw_out (x := a1) (lo := 2) (n := 20) (by decide) (by decide) (fun k hk => match k, hk with | 0, _ => c1 | 1, _ => c11 | 2, _ => c21 | 3, _ => c31 | 4, _ => c32 | 5, _ => c36 | 6, _ => c37 | 7, _ => c38 | 8, _ => c39 | 9, _ => c49 | 10, _ => c50 | 11, _ => c60 | 12, _ => c67 | 13, _ => c74 | 14, _ => c78 | 15, _ => c88 | 16, _ => c89 | 17, _ => c98 | 18, _ => c107 | 19, _ => c116 | k + 20, hk => absurd hk (by omega))) rfl rfl) ?_
  refine eb_n 1 (289, [.ref a0, .int a1, .int a2], [.int (nI 0)], h) (rfl) ?_
  rw [(sp_inj e).1, (sp_inj e).2]
  exact eb_rg (p := nrm 0 (nI 0)) rfl (nrm_0 _)
set_option maxRecDepth 100000 in
set_option maxHeartbeats 4000000 in
theorem f_Names_lookAt_ev (d0 : Nat) (hd0 : 6 ≤ d0) {h' : AH} {r : Int32} {h : AH} {a0 : Nat} {a1 : Int32} (e : f_Names_lookAt h a0 a1 = some (h', r)) : Ev tb mL d0 136 [.ref a0, .int a1] h h' (some (.int r)) := by
  obtain ⟨d, rfl⟩ : ∃ d, d0 = d + 1 := ⟨d0 - 1, by omega⟩
  have hd : 5 ≤ d := by omega
  refine ⟨Nat.le_of_ble_eq_true rfl, ?_⟩
  show Eb (Ev tb mL d) 136 (0, [.ref a0, .int a1], [], h) h' (some (.int r))
  unfold f_Names_lookAt at e
  refine eb_n 1 (1, [.ref a0, .int a1], [.int a1], h) (rfl) ?_
  by_cases c1 : a1 = nI 18
  · replace e := ite_t c1 e
    refine eb_n 1 (162, [.ref a0, .int a1], [], h) (by rw [c1]; rfl) ?_
    refine eb_n 1 (163, [.ref a0, .int a1], [.ref a0], h) (rfl) ?_
    obtain ⟨g2, e⟩ := gd_some e
    refine eb_g (p := hT h a0 = 9) (166, [.ref a0, .int a1], [.ref (hR h a0 1)], h) rfl g2 ?_
    refine eb_n 1 (167, [.ref a0, .int a1], [.ref a0, .ref (hR h a0 1)], h) (rfl) ?_
    refine eb_g (p := hT h a0 = 9) (170, [.ref a0, .int a1], [.int (hI h a0 7), .ref (hR h a0 1)], h) rfl g2 ?_
    refine eb_n 3 (174, [.ref a0, .int a1], [.int (a1 - (nI 18)), .int (hI h a0 7), .ref (hR h a0 1)], h) (rfl) ?_
    obtain ⟨g3, e⟩ := gd_some e
    obtain ⟨h4, eh4, e⟩ := bv_some e
    refine eb_cg (p := hT h (hR h a0 1) = 11) rfl g3 (f_Tokens_setNumber_ev d (Nat.le_trans (by decide) hd) eh4) ?_
    show Eb _ 136 (177, [.ref a0, .int a1], [], h4) _ _
    refine eb_n 1 (178, [.ref a0, .int a1], [.int (nI 0)], h4) (rfl) ?_
    rw [(sp_inj e).1, (sp_inj e).2]
    exact eb_rg (p := nrm 0 (nI 0)) rfl (nrm_0 _)
  replace e := ite_f c1 e
  by_cases c5 : a1 = nI 19
  · replace e := ite_t c5 e
    refine eb_n 1 (162, [.ref a0, .int a1], [], h) (by rw [c5]; rfl) ?_
    refine eb_n 1 (163, [.ref a0, .int a1], [.ref a0], h) (rfl) ?_
    obtain ⟨g6, e⟩ := gd_some e
    refine eb_g (p := hT h a0 = 9) (166, [.ref a0, .int a1], [.ref (hR h a0 1)], h) rfl g6 ?_
    refine eb_n 1 (167, [.ref a0, .int a1], [.ref a0, .ref (hR h a0 1)], h) (rfl) ?_
    refine eb_g (p := hT h a0 = 9) (170, [.ref a0, .int a1], [.int (hI h a0 7), .ref (hR h a0 1)], h) rfl g6 ?_
    refine eb_n 3 (174, [.ref a0, .int a1], [.int (a1 - (nI 18)), .int (hI h a0 7), .ref (hR h a0 1)], h) (rfl) ?_
    obtain ⟨g7, e⟩ := gd_some e
    obtain ⟨h8, eh8, e⟩ := bv_some e
    refine eb_cg (p := hT h (hR h a0 1) = 11) rfl g7 (f_Tokens_setNumber_ev d (Nat.le_trans (by decide) hd) eh8) ?_
    show Eb _ 136 (177, [.ref a0, .int a1], [], h8) _ _
    refine eb_n 1 (178, [.ref a0, .int a1], [.int (nI 0)], h8) (rfl) ?_
    rw [(sp_inj e).1, (sp_inj e).2]
    exact eb_rg (p := nrm 0 (nI 0)) rfl (nrm_0 _)
  replace e := ite_f c5 e
  by_cases c9 : a1 = nI 20
  · replace e := ite_t c9 e
    refine eb_n 1 (162, [.ref a0, .int a1], [], h) (by rw [c9]; rfl) ?_
    refine eb_n 1 (163, [.ref a0, .int a1], [.ref a0], h) (rfl) ?_
    obtain ⟨g10, e⟩ := gd_some e
    refine eb_g (p := hT h a0 = 9) (166, [.ref a0, .int a1], [.ref (hR h a0 1)], h) rfl g10 ?_
    refine eb_n 1 (167, [.ref a0, .int a1], [.ref a0, .ref (hR h a0 1)], h) (rfl) ?_
    refine eb_g (p := hT h a0 = 9) (170, [.ref a0, .int a1], [.int (hI h a0 7), .ref (hR h a0 1)], h) rfl g10 ?_
    refine eb_n 3 (174, [.ref a0, .int a1], [.int (a1 - (nI 18)), .int (hI h a0 7), .ref (hR h a0 1)], h) (rfl) ?_
    obtain ⟨g11, e⟩ := gd_some e
    obtain ⟨h12, eh12, e⟩ := bv_some e
    refine eb_cg (p := hT h (hR h a0 1) = 11) rfl g11 (f_Tokens_setNumber_ev d (Nat.le_trans (by decide) hd) eh12) ?_
    show Eb _ 136 (177, [.ref a0, .int a1], [], h12) _ _
    refine eb_n 1 (178, [.ref a0, .int a1], [.int (nI 0)], h12) (rfl) ?_
    rw [(sp_inj e).1, (sp_inj e).2]
    exact eb_rg (p := nrm 0 (nI 0)) rfl (nrm_0 _)
  replace e := ite_f c9 e
  by_cases c13 : a1 = nI 21
  · replace e := ite_t c13 e
    refine eb_n 1 (162, [.ref a0, .int a1], [], h) (by rw [c13]; rfl) ?_
    refine eb_n 1 (163, [.ref a0, .int a1], [.ref a0], h) (rfl) ?_
    obtain ⟨g14, e⟩ := gd_some e
    refine eb_g (p := hT h a0 = 9) (166, [.ref a0, .int a1], [.ref (hR h a0 1)], h) rfl g14 ?_
    refine eb_n 1 (167, [.ref a0, .int a1], [.ref a0, .ref (hR h a0 1)], h) (rfl) ?_
    refine eb_g (p := hT h a0 = 9) (170, [.ref a0, .int a1], [.int (hI h a0 7), .ref (hR h a0 1)], h) rfl g14 ?_
    refine eb_n 3 (174, [.ref a0, .int a1], [.int (a1 - (nI 18)), .int (hI h a0 7), .ref (hR h a0 1)], h) (rfl) ?_
    obtain ⟨g15, e⟩ := gd_some e
    obtain ⟨h16, eh16, e⟩ := bv_some e
    refine eb_cg (p := hT h (hR h a0 1) = 11) rfl g15 (f_Tokens_setNumber_ev d (Nat.le_trans (by decide) hd) eh16) ?_
    show Eb _ 136 (177, [.ref a0, .int a1], [], h16) _ _
    refine eb_n 1 (178, [.ref a0, .int a1], [.int (nI 0)], h16) (rfl) ?_
    rw [(sp_inj e).1, (sp_inj e).2]
    exact eb_rg (p := nrm 0 (nI 0)) rfl (nrm_0 _)
  replace e := ite_f c13 e
  by_cases c17 : a1 = nI 22
  · replace e := ite_t c17 e
    refine eb_n 1 (131, [.ref a0, .int a1], [], h) (by rw [c17]; rfl) ?_
    refine eb_n 1 (132, [.ref a0, .int a1], [.ref a0], h) (rfl) ?_
    obtain ⟨g18, e⟩ := gd_some e
    refine eb_g (p := hT h a0 = 9) (135, [.ref a0, .int a1], [.ref (hR h a0 2)], h) rfl g18 ?_
    refine eb_n 1 (136, [.ref a0, .int a1], [.ref (hR h a0 2), .ref (hR h a0 2)], h) (rfl) ?_
    obtain ⟨g19, e⟩ := gd_some e
    refine eb_g (p := hT h (hR h a0 2) = 3) (139, [.ref a0, .int a1], [.int (hI h (hR h a0 2) 10), .ref (hR h a0 2)], h) rfl g19 ?_
    refine eb_n 2 (141, [.ref a0, .int a1], [.int ((hI h (hR h a0 2) 10) + (nI 1)), .ref (hR h a0 2)], h) (rfl) ?_
    obtain ⟨h20, eh20, e⟩ := lq_some e
    refine eb_g (p := hT h (hR h a0 2) = 3) (144, [.ref a0, .int a1], [], h20) (by rw [eh20]; rfl) g19 ?_
    refine eb_n 1 (145, [.ref a0, .int a1], [.ref a0], h20) (rfl) ?_
    obtain ⟨g21, e⟩ := gd_some e
    refine eb_g (p := hT h20 a0 = 9) (148, [.ref a0, .int a1], [.ref (hR h20 a0 2)], h20) rfl g21 ?_
    obtain ⟨g22, e⟩ := gd_some e
    refine eb_g (p := hT h20 (hR h20 a0 2) = 3) (151, [.ref a0, .int a1], [.int (hI h20 (hR h20 a0 2) 10)], h20) rfl g22 ?_
    refine eb_n 1 (153, [.ref a0, .int a1], [.int (nI 20), .int (hI h20 (hR h20 a0 2) 10)], h20) (rfl) ?_
    refine eb_b (c := (hI h20 (hR h20 a0 2) 10) ≤ (nI 20)) (160, [.ref a0, .int a1], [], h20) (156, [.ref a0, .int a1], [], h20) rfl (fun c23 => ?_) (fun c23 => ?_)
    · replace e := ite_t c23 e
      refine eb_n 1 (161, [.ref a0, .int a1], [.int (nI 0)], h20) (rfl) ?_
      rw [(sp_inj e).1, (sp_inj e).2]
      exact eb_rg (p := nrm 0 (nI 0)) rfl (nrm_0 _)
    · replace e := ite_f c23 e
      refine eb_n 2 (161, [.ref a0, .int a1], [.int (nI 4)], h20) (rfl) ?_
      rw [(sp_inj e).1, (sp_inj e).2]
      exact eb_rg (p := nrm 0 (nI 4)) rfl (nrm_0 _)
  replace e := ite_f c17 e
  by_cases c24 : a1 = nI 23
  · replace e := ite_t c24 e
    refine eb_n 1 (131, [.ref a0, .int a1], [], h) (by rw [c24]; rfl) ?_
    refine eb_n 1 (132, [.ref a0, .int a1], [.ref a0], h) (rfl) ?_
    obtain ⟨g25, e⟩ := gd_some e
    refine eb_g (p := hT h a0 = 9) (135, [.ref a0, .int a1], [.ref (hR h a0 2)], h) rfl g25 ?_
    refine eb_n 1 (136, [.ref a0, .int a1], [.ref (hR h a0 2), .ref (hR h a0 2)], h) (rfl) ?_
    obtain ⟨g26, e⟩ := gd_some e
    refine eb_g (p := hT h (hR h a0 2) = 3) (139, [.ref a0, .int a1], [.int (hI h (hR h a0 2) 10), .ref (hR h a0 2)], h) rfl g26 ?_
    refine eb_n 2 (141, [.ref a0, .int a1], [.int ((hI h (hR h a0 2) 10) + (nI 1)), .ref (hR h a0 2)], h) (rfl) ?_
    obtain ⟨h27, eh27, e⟩ := lq_some e
    refine eb_g (p := hT h (hR h a0 2) = 3) (144, [.ref a0, .int a1], [], h27) (by rw [eh27]; rfl) g26 ?_
    refine eb_n 1 (145, [.ref a0, .int a1], [.ref a0], h27) (rfl) ?_
    obtain ⟨g28, e⟩ := gd_some e
    refine eb_g (p := hT h27 a0 = 9) (148, [.ref a0, .int a1], [.ref (hR h27 a0 2)], h27) rfl g28 ?_
    obtain ⟨g29, e⟩ := gd_some e
    refine eb_g (p := hT h27 (hR h27 a0 2) = 3) (151, [.ref a0, .int a1], [.int (hI h27 (hR h27 a0 2) 10)], h27) rfl g29 ?_
    refine eb_n 1 (153, [.ref a0, .int a1], [.int (nI 20), .int (hI h27 (hR h27 a0 2) 10)], h27) (rfl) ?_
    refine eb_b (c := (hI h27 (hR h27 a0 2) 10) ≤ (nI 20)) (160, [.ref a0, .int a1], [], h27) (156, [.ref a0, .int a1], [], h27) rfl (fun c30 => ?_) (fun c30 => ?_)
    · replace e := ite_t c30 e
      refine eb_n 1 (161, [.ref a0, .int a1], [.int (nI 0)], h27) (rfl) ?_
      rw [(sp_inj e).1, (sp_inj e).2]
      exact eb_rg (p := nrm 0 (nI 0)) rfl (nrm_0 _)
    · replace e := ite_f c30 e
      refine eb_n 2 (161, [.ref a0, .int a1], [.int (nI 4)], h27) (rfl) ?_
      rw [(sp_inj e).1, (sp_inj e).2]
      exact eb_rg (p := nrm 0 (nI 4)) rfl (nrm_0 _)
  replace e := ite_f c24 e
  by_cases c31 : a1 = nI 25
  · replace e := ite_t c31 e
    refine eb_n 1 (131, [.ref a0, .int a1], [], h) (by rw [c31]; rfl) ?_
    refine eb_n 1 (132, [.ref a0, .int a1], [.ref a0], h) (rfl) ?_
    obtain ⟨g32, e⟩ := gd_some e
    refine eb_g (p := hT h a0 = 9) (135, [.ref a0, .int a1], [.ref (hR h a0 2)], h) rfl g32 ?_
    refine eb_n 1 (136, [.ref a0, .int a1], [.ref (hR h a0 2), .ref (hR h a0 2)], h) (rfl) ?_
    obtain ⟨g33, e⟩ := gd_some e
    refine eb_g (p := hT h (hR h a0 2) = 3) (139, [.ref a0, .int a1], [.int (hI h (hR h a0 2) 10), .ref (hR h a0 2)], h) rfl g33 ?_
    refine eb_n 2 (141, [.ref a0, .int a1], [.int ((hI h (hR h a0 2) 10) + (nI 1)), .ref (hR h a0 2)], h) (rfl) ?_
    obtain ⟨h34, eh34, e⟩ := lq_some e
    refine eb_g (p := hT h (hR h a0 2) = 3) (144, [.ref a0, .int a1], [], h34) (by rw [eh34]; rfl) g33 ?_
    refine eb_n 1 (145, [.ref a0, .int a1], [.ref a0], h34) (rfl) ?_
    obtain ⟨g35, e⟩ := gd_some e
    refine eb_g (p := hT h34 a0 = 9) (148, [.ref a0, .int a1], [.ref (hR h34 a0 2)], h34) rfl g35 ?_
    obtain ⟨g36, e⟩ := gd_some e
    refine eb_g (p := hT h34 (hR h34 a0 2) = 3) (151, [.ref a0, .int a1], [.int (hI h34 (hR h34 a0 2) 10)], h34) rfl g36 ?_
    refine eb_n 1 (153, [.ref a0, .int a1], [.int (nI 20), .int (hI h34 (hR h34 a0 2) 10)], h34) (rfl) ?_
    refine eb_b (c := (hI h34 (hR h34 a0 2) 10) ≤ (nI 20)) (160, [.ref a0, .int a1], [], h34) (156, [.ref a0, .int a1], [], h34) rfl (fun c37 => ?_) (fun c37 => ?_)
    · replace e := ite_t c37 e
      refine eb_n 1 (161, [.ref a0, .int a1], [.int (nI 0)], h34) (rfl) ?_
      rw [(sp_inj e).1, (sp_inj e).2]
      exact eb_rg (p := nrm 0 (nI 0)) rfl (nrm_0 _)
    · replace e := ite_f c37 e
      refine eb_n 2 (161, [.ref a0, .int a1], [.int (nI 4)], h34) (rfl) ?_
      rw [(sp_inj e).1, (sp_inj e).2]
      exact eb_rg (p := nrm 0 (nI 4)) rfl (nrm_0 _)
  replace e := ite_f c31 e
  by_cases c38 : a1 = nI 55
  · replace e := ite_t c38 e
    refine eb_n 1 (84, [.ref a0, .int a1], [], h) (by rw [c38]; rfl) ?_
    refine eb_n 2 (86, [.ref a0, .int a1], [.ref a0, .ref a0], h) (rfl) ?_
    obtain ⟨g39, e⟩ := gd_some e
    refine eb_g (p := hT h a0 = 9) (89, [.ref a0, .int a1], [.ref (hR h a0 1), .ref a0], h) rfl g39 ?_
    refine eb_n 1 (90, [.ref a0, .int a1], [.ref a0, .ref (hR h a0 1), .ref a0], h) (rfl) ?_
    refine eb_g (p := hT h a0 = 9) (93, [.ref a0, .int a1], [.int (hI h a0 7), .ref (hR h a0 1), .ref a0], h) rfl g39 ?_
    refine eb_n 2 (95, [.ref a0, .int a1], [.int ((hI h a0 7) - (nI 1)), .ref (hR h a0 1), .ref a0], h) (rfl) ?_
    obtain ⟨g40, e⟩ := gd_some e
    obtain ⟨h41, r42, eh41, e⟩ := bn_some e
    refine eb_cg (p := hT h (hR h a0 1) = 11) rfl g40 (f_Tokens_kindOf_I_ev d (Nat.le_trans (by decide) hd) eh41) ?_
    show Eb _ 136 (98, [.ref a0, .int a1], [.int r42, .ref a0], h41) _ _
    obtain ⟨g43, e⟩ := gd_some e
    obtain ⟨h44, r45, eh44, e⟩ := bn_some e
    refine eb_cg (p := hT h41 a0 = 9) rfl g43 (f_Names_lookAtName_ev d (Nat.le_trans (by decide) hd) eh44) ?_
    show Eb _ 136 (101, [.ref a0, .int a1], [.int r45], h44) _ _
    rw [(sp_inj e).1, (sp_inj e).2]
    exact eb_rg (p := nrm 0 r45) rfl (nrm_0 _)
  replace e := ite_f c38 e
  by_cases c46 : a1 = nI 56
  · replace e := ite_t c46 e
    refine eb_n 1 (102, [.ref a0, .int a1], [], h) (by rw [c46]; rfl) ?_
    refine eb_n 2 (104, [.ref a0, .int a1], [.ref a0, .ref a0], h) (rfl) ?_
    obtain ⟨g47, e⟩ := gd_some e
    refine eb_g (p := hT h a0 = 9) (107, [.ref a0, .int a1], [.ref (hR h a0 1), .ref a0], h) rfl g47 ?_
    refine eb_n 1 (108, [.ref a0, .int a1], [.ref a0, .ref (hR h a0 1), .ref a0], h) (rfl) ?_
    refine eb_g (p := hT h a0 = 9) (111, [.ref a0, .int a1], [.int (hI h a0 7), .ref (hR h a0 1), .ref a0], h) rfl g47 ?_
    refine eb_n 2 (113, [.ref a0, .int a1], [.int ((hI h a0 7) - (nI 1)), .ref (hR h a0 1), .ref a0], h) (rfl) ?_
    obtain ⟨g48, e⟩ := gd_some e
    obtain ⟨h49, r50, eh49, e⟩ := bn_some e
    refine eb_cg (p := hT h (hR h a0 1) = 11) rfl g48 (f_Tokens_kindOf_I_ev d (Nat.le_trans (by decide) hd) eh49) ?_
    show Eb _ 136 (116, [.ref a0, .int a1], [.int r50, .ref a0], h49) _ _
    refine eb_n 1 (117, [.ref a0, .int a1], [.ref a0, .int r50, .ref a0], h49) (rfl) ?_
    obtain ⟨g51, e⟩ := gd_some e
    refine eb_g (p := hT h49 a0 = 9) (120, [.ref a0, .int a1], [.ref (hR h49 a0 1), .int r50, .ref a0], h49) rfl g51 ?_
    refine eb_n 1 (121, [.ref a0, .int a1], [.ref a0, .ref (hR h49 a0 1), .int r50, .ref a0], h49) (rfl) ?_
    refine eb_g (p := hT h49 a0 = 9) (124, [.ref a0, .int a1], [.int (hI h49 a0 7), .ref (hR h49 a0 1), .int r50, .ref a0], h49) rfl g51 ?_
    obtain ⟨g52, e⟩ := gd_some e
    obtain ⟨h53, r54, eh53, e⟩ := bn_some e
    refine eb_cg (p := hT h49 (hR h49 a0 1) = 11) rfl g52 (f_Tokens_numberOf_ev d (Nat.le_trans (by decide) hd) eh53) ?_
    show Eb _ 136 (127, [.ref a0, .int a1], [.int r54, .int r50, .ref a0], h53) _ _
    obtain ⟨g55, e⟩ := gd_some e
    obtain ⟨h56, r57, eh56, e⟩ := bn_some e
    refine eb_cg (p := hT h53 a0 = 9) rfl g55 (f_Names_lookAtNumber_ev d (Nat.le_trans (by decide) hd) eh56) ?_
    show Eb _ 136 (130, [.ref a0, .int a1], [.int r57], h56) _ _
    rw [(sp_inj e).1, (sp_inj e).2]
    exact eb_rg (p := nrm 0 r57) rfl (nrm_0 _)
  replace e := ite_f c46 e
  refine eb_1 (f' := (179, [.ref a0, .int a1], [], h)) (lsw_d (x := a1) rfl (lsw_c (ne_toInt (k := 18) (by decide) c1) (lsw_c (ne_toInt (k := 19) (by decide) c5) (lsw_c (ne_toInt (k := 20) (by decide) c9) (lsw_c (ne_toInt (k := 21) (by decide) c13) (lsw_c (ne_toInt (k := 22) (by decide) c17) (lsw_c (ne_toInt (k := 23) (by decide) c24) (lsw_c (ne_toInt (k := 25) (by decide) c31) (lsw_c (ne_toInt (k := 55) (by decide) c38) (lsw_c (ne_toInt (k := 56) (by decide) c46) lsw_e)))))))))) ?_
  refine eb_n 1 (180, [.ref a0, .int a1], [.int (nI 0)], h) (rfl) ?_
  rw [(sp_inj e).1, (sp_inj e).2]
  exact eb_rg (p := nrm 0 (nI 0)) rfl (nrm_0 _)
set_option maxRecDepth 100000 in
set_option maxHeartbeats 4000000 in
theorem f_Names_lookAtAll_b30_ev {h' : AH} {r : Int32} (d : Nat) (hd : 6 ≤ d) (k30 : AH → Nat → Int32 → Option (AH × Int32)) (hk30 : ∀ (h : AH) (a0 : Nat) (a1 : Int32)  (d2 : Value), k30 h a0 a1 = some (h', r) → Eb (Ev tb mL d) 99 (30, [.ref a0, .int a1, d2], [], h) h' (some (.int r)))  (h : AH) (a0 : Nat) (a1 : Int32)  (d2 : Value) (e : f_Names_lookAtAll_b30 k30 h a0 a1 = some (h', r)) : Eb (Ev tb mL d) 99 (30, [.ref a0, .int a1, d2], [], h) h' (some (.int r)) := by
  unfold f_Names_lookAtAll_b30 at e
  refine eb_n 2 (34, [.ref a0, .int a1, d2], [.int (nI 400), .int a1], h) (rfl) ?_
  refine eb_b (c := (nI 400) ≤ a1) (80, [.ref a0, .int a1, d2], [], h) (37, [.ref a0, .int a1, d2], [], h) rfl (fun c1 => ?_) (fun c1 => ?_)
  · replace e := ite_t c1 e
    refine eb_n 1 (81, [.ref a0, .int a1, d2], [.int (nI 0)], h) (rfl) ?_
    rw [(sp_inj e).1, (sp_inj e).2]
    exact eb_rg (p := nrm 0 (nI 0)) rfl (nrm_0 _)
  · replace e := ite_f c1 e
    refine eb_n 1 (38, [.ref a0, .int a1, d2], [.ref a0], h) (rfl) ?_
    obtain ⟨g2, e⟩ := gd_some e
    refine eb_g (p := hT h a0 = 9) (41, [.ref a0, .int a1, d2], [.ref (hR h a0 1)], h) rfl g2 ?_
    refine eb_n 1 (42, [.ref a0, .int a1, d2], [.int a1, .ref (hR h a0 1)], h) (rfl) ?_
    obtain ⟨g3, e⟩ := gd_some e
    obtain ⟨h4, r5, eh4, e⟩ := bn_some e
    refine eb_cg (p := hT h (hR h a0 1) = 11) rfl g3 (f_Tokens_kindOf_I_ev d (Nat.le_trans (by decide) hd) eh4) ?_
    show Eb _ 99 (45, [.ref a0, .int a1, d2], [.int r5], h4) _ _
    refine eb_n 1 (47, [.ref a0, .int a1, d2], [.int (nI 57), .int r5], h4) (rfl) ?_
    refine eb_b (c := r5 = (nI 57)) (80, [.ref a0, .int a1, d2], [], h4) (50, [.ref a0, .int a1, d2], [], h4) rfl (fun c6 => ?_) (fun c6 => ?_)
    · replace e := ite_t c6 e
      refine eb_n 1 (81, [.ref a0, .int a1, d2], [.int (nI 0)], h4) (rfl) ?_
      rw [(sp_inj e).1, (sp_inj e).2]
      exact eb_rg (p := nrm 0 (nI 0)) rfl (nrm_0 _)
    · replace e := ite_f c6 e
      refine eb_n 2 (52, [.ref a0, .int a1, d2], [.int a1, .ref a0], h4) (rfl) ?_
      obtain ⟨g7, e⟩ := gd_some e
      obtain ⟨h8, eh8, e⟩ := lq_some e
      refine eb_g (p := hT h4 a0 = 9) (55, [.ref a0, .int a1, d2], [], h8) (by rw [eh8]; rfl) g7 ?_
      refine eb_n 2 (57, [.ref a0, .int a1, d2], [.ref a0, .ref a0], h8) (rfl) ?_
      obtain ⟨g9, e⟩ := gd_some e
      refine eb_g (p := hT h8 a0 = 9) (60, [.ref a0, .int a1, d2], [.ref (hR h8 a0 1), .ref a0], h8) rfl g9 ?_
      refine eb_n 1 (61, [.ref a0, .int a1, d2], [.int a1, .ref (hR h8 a0 1), .ref a0], h8) (rfl) ?_
      obtain ⟨g10, e⟩ := gd_some e
      obtain ⟨h11, r12, eh11, e⟩ := bn_some e
      refine eb_cg (p := hT h8 (hR h8 a0 1) = 11) rfl g10 (f_Tokens_kindOf_I_ev d (Nat.le_trans (by decide) hd) eh11) ?_
      show Eb _ 99 (64, [.ref a0, .int a1, d2], [.int r12, .ref a0], h11) _ _
      obtain ⟨g13, e⟩ := gd_some e
      obtain ⟨h14, r15, eh14, e⟩ := bn_some e
      refine eb_cg (p := hT h11 a0 = 9) rfl g13 (f_Names_lookAt_ev d (Nat.le_trans (by decide) hd) eh14) ?_
      show Eb _ 99 (67, [.ref a0, .int a1, d2], [.int r15], h14) _ _
      refine eb_n 2 (69, [.ref a0, .int a1, .int r15], [.int r15], h14) (rfl) ?_
      refine eb_b (c := r15 = 0) (74, [.ref a0, .int a1, .int r15], [], h14) (72, [.ref a0, .int a1, .int r15], [], h14) rfl (fun c16 => ?_) (fun c16 => ?_)
      · replace e := ite_t c16 e
        obtain ⟨x17, hx17, e⟩ := lq_some e
        refine eb_n 1 (77, [.ref a0, .int x17, .int r15], [], h14) (by subst hx17; rfl) ?_
        refine eb_n 1 (30, [.ref a0, .int x17, .int r15], [], h14) (rfl) ?_
        exact hk30 _ _ _ _ e
      · replace e := ite_f c16 e
        refine eb_n 1 (73, [.ref a0, .int a1, .int r15], [.int r15], h14) (rfl) ?_
        rw [(sp_inj e).1, (sp_inj e).2]
        exact eb_rg (p := nrm 0 r15) rfl (nrm_0 _)
set_option maxRecDepth 100000 in
set_option maxHeartbeats 4000000 in
theorem f_Names_lookAtAll_l30_ev {h' : AH} {r : Int32} (d : Nat) (hd : 6 ≤ d)  : ∀ (n : Nat) (h : AH) (a0 : Nat) (a1 : Int32)  (d2 : Value) (_ : f_Names_lookAtAll_l30  n h a0 a1 = some (h', r)), Eb (Ev tb mL d) 99 (30, [.ref a0, .int a1, d2], [], h) h' (some (.int r)) := by
  intro n
  induction n with
  | zero => intro h a0 a1 d2 e; exact nomatch e
  | succ n ih =>
    intro h a0 a1 d2 e
    exact f_Names_lookAtAll_b30_ev d hd _ (fun h a0 a1 d2 e => ih h a0 a1 d2 e) h a0 a1 d2 e
set_option maxRecDepth 100000 in
set_option maxHeartbeats 4000000 in
theorem f_Names_lookAtAll_ev (d0 : Nat) (hd0 : 7 ≤ d0) {h' : AH} {r : Int32} {h : AH} {a0 : Nat} (e : f_Names_lookAtAll h a0 = some (h', r)) : Ev tb mL d0 99 [.ref a0] h h' (some (.int r)) := by
  obtain ⟨d, rfl⟩ : ∃ d, d0 = d + 1 := ⟨d0 - 1, by omega⟩
  have hd : 6 ≤ d := by omega
  refine ⟨Nat.le_of_ble_eq_true rfl, ?_⟩
  show Eb (Ev tb mL d) 99 (0, [.ref a0, .retAddr 0, .retAddr 0], [], h) h' (some (.int r))
  unfold f_Names_lookAtAll at e
  refine eb_n 1 (1, [.ref a0, .retAddr 0, .retAddr 0], [.ref a0], h) (rfl) ?_
  obtain ⟨g1, e⟩ := gd_some e
  refine eb_g (p := hT h a0 = 9) (4, [.ref a0, .retAddr 0, .retAddr 0], [.ref (hR h a0 3)], h) rfl g1 ?_
  obtain ⟨g2, e⟩ := gd_some e
  obtain ⟨h3, eh3, e⟩ := bv_some e
  refine eb_cg (p := hT h (hR h a0 3) = 12) rfl g2 (f_Roll_clear_ev d (Nat.le_trans (by decide) hd) eh3) ?_
  show Eb _ 99 (7, [.ref a0, .retAddr 0, .retAddr 0], [], h3) _ _
  refine eb_n 1 (8, [.ref a0, .retAddr 0, .retAddr 0], [.ref a0], h3) (rfl) ?_
  obtain ⟨g4, e⟩ := gd_some e
  refine eb_g (p := hT h3 a0 = 9) (11, [.ref a0, .retAddr 0, .retAddr 0], [.ref (hR h3 a0 4)], h3) rfl g4 ?_
  obtain ⟨g5, e⟩ := gd_some e
  obtain ⟨h6, eh6, e⟩ := bv_some e
  refine eb_cg (p := hT h3 (hR h3 a0 4) = 12) rfl g5 (f_Roll_clear_ev d (Nat.le_trans (by decide) hd) eh6) ?_
  show Eb _ 99 (14, [.ref a0, .retAddr 0, .retAddr 0], [], h6) _ _
  refine eb_n 1 (15, [.ref a0, .retAddr 0, .retAddr 0], [.ref a0], h6) (rfl) ?_
  obtain ⟨g7, e⟩ := gd_some e
  refine eb_g (p := hT h6 a0 = 9) (18, [.ref a0, .retAddr 0, .retAddr 0], [.ref (hR h6 a0 5)], h6) rfl g7 ?_
  obtain ⟨g8, e⟩ := gd_some e
  obtain ⟨h9, eh9, e⟩ := bv_some e
  refine eb_cg (p := hT h6 (hR h6 a0 5) = 12) rfl g8 (f_Roll_clear_ev d (Nat.le_trans (by decide) hd) eh9) ?_
  show Eb _ 99 (21, [.ref a0, .retAddr 0, .retAddr 0], [], h9) _ _
  refine eb_n 1 (22, [.ref a0, .retAddr 0, .retAddr 0], [.ref a0], h9) (rfl) ?_
  obtain ⟨g10, e⟩ := gd_some e
  refine eb_g (p := hT h9 a0 = 9) (25, [.ref a0, .retAddr 0, .retAddr 0], [.ref (hR h9 a0 6)], h9) rfl g10 ?_
  obtain ⟨g11, e⟩ := gd_some e
  obtain ⟨h12, eh12, e⟩ := bv_some e
  refine eb_cg (p := hT h9 (hR h9 a0 6) = 12) rfl g11 (f_Roll_clear_ev d (Nat.le_trans (by decide) hd) eh12) ?_
  show Eb _ 99 (28, [.ref a0, .retAddr 0, .retAddr 0], [], h12) _ _
  refine eb_n 2 (30, [.ref a0, .int (nI 0), .retAddr 0], [], h12) (rfl) ?_
  exact f_Names_lookAtAll_l30_ev d hd   FU _ _ _ _ e
set_option maxRecDepth 100000 in
set_option maxHeartbeats 4000000 in
theorem f_Names_place_ev (d0 : Nat) (hd0 : 1 ≤ d0) {h' : AH} {r : Int32} {h : AH} {a0 : Nat} (e : f_Names_place h a0 = some (h', r)) : Ev tb mL d0 100 [.ref a0] h h' (some (.int r)) := by
  obtain ⟨d, rfl⟩ : ∃ d, d0 = d + 1 := ⟨d0 - 1, by omega⟩
  have hd : 0 ≤ d := by omega
  refine ⟨Nat.le_of_ble_eq_true rfl, ?_⟩
  show Eb (Ev tb mL d) 100 (0, [.ref a0], [], h) h' (some (.int r))
  unfold f_Names_place at e
  refine eb_n 1 (1, [.ref a0], [.ref a0], h) (rfl) ?_
  obtain ⟨g1, e⟩ := gd_some e
  refine eb_g (p := hT h a0 = 9) (4, [.ref a0], [.int (hI h a0 7)], h) rfl g1 ?_
  rw [(sp_inj e).1, (sp_inj e).2]
  exact eb_rg (p := nrm 0 (hI h a0 7)) rfl (nrm_0 _)
set_option maxRecDepth 100000 in
set_option maxHeartbeats 4000000 in
theorem f_Orders_resolve_b2_ev {h' : AH} (d : Nat) (hd : 1 ≤ d) (k2 : AH → Nat → Nat → Int32 → Option AH) (hk2 : ∀ (h : AH) (a0 : Nat) (a1 : Nat) (a2 : Int32)  , k2 h a0 a1 a2 = some h' → Eb (Ev tb mL d) 137 (2, [.ref a0, .ref a1, .int a2], [], h) h' none)  (h : AH) (a0 : Nat) (a1 : Nat) (a2 : Int32)   (e : f_Orders_resolve_b2 k2 h a0 a1 a2 = some h') : Eb (Ev tb mL d) 137 (2, [.ref a0, .ref a1, .int a2], [], h) h' none := by
  unfold f_Orders_resolve_b2 at e
  refine eb_n 2 (4, [.ref a0, .ref a1, .int a2], [.ref a0, .int a2], h) (rfl) ?_
  obtain ⟨g1, e⟩ := gd_some e
  refine eb_g (p := hT h a0 = 2) (7, [.ref a0, .ref a1, .int a2], [.int (hI h a0 2), .int a2], h) rfl g1 ?_
  refine eb_b (c := (hI h a0 2) ≤ a2) (41, [.ref a0, .ref a1, .int a2], [], h) (10, [.ref a0, .ref a1, .int a2], [], h) rfl (fun c2 => ?_) (fun c2 => ?_)
  · replace e := ite_t c2 e
    rw [sv_inj e]
    exact eb_r rfl
  · replace e := ite_f c2 e
    refine eb_n 2 (12, [.ref a0, .ref a1, .int a2], [.ref a0, .int a2], h) (rfl) ?_
    refine eb_g (p := hT h a0 = 2) (15, [.ref a0, .ref a1, .int a2], [.ref (hR h a0 1), .int a2], h) rfl g1 ?_
    obtain ⟨g3, e⟩ := gd_some e
    refine eb_g (p := hT h (hR h a0 1) = 101) (16, [.ref a0, .ref a1, .int a2], [.int (nI (hL h (hR h a0 1))), .int a2], h) rfl g3 ?_
    refine eb_b (c := (nI (hL h (hR h a0 1))) ≤ a2) (41, [.ref a0, .ref a1, .int a2], [], h) (19, [.ref a0, .ref a1, .int a2], [], h) rfl (fun c4 => ?_) (fun c4 => ?_)
    · replace e := ite_t c4 e
      rw [sv_inj e]
      exact eb_r rfl
    · replace e := ite_f c4 e
      refine eb_n 1 (20, [.ref a0, .ref a1, .int a2], [.ref a0], h) (rfl) ?_
      refine eb_g (p := hT h a0 = 2) (23, [.ref a0, .ref a1, .int a2], [.ref (hR h a0 1)], h) rfl g1 ?_
      refine eb_n 3 (26, [.ref a0, .ref a1, .int a2], [.ref a0, .ref a1, .int a2, .ref (hR h a0 1)], h) (rfl) ?_
      refine eb_g (p := hT h a0 = 2) (29, [.ref a0, .ref a1, .int a2], [.ref (hR h a0 1), .ref a1, .int a2, .ref (hR h a0 1)], h) rfl g1 ?_
      refine eb_n 1 (30, [.ref a0, .ref a1, .int a2], [.int a2, .ref (hR h a0 1), .ref a1, .int a2, .ref (hR h a0 1)], h) (rfl) ?_
      obtain ⟨g5, e⟩ := gd_some e
      refine eb_g (p := hT h (hR h a0 1) = 101 ∧ inb a2 (hL h (hR h a0 1))) (31, [.ref a0, .ref a1, .int a2], [.int (hI h (hR h a0 1) (ix a2)), .ref a1, .int a2, .ref (hR h a0 1)], h) rfl g5 ?_
      obtain ⟨g6, e⟩ := gd_some e
      obtain ⟨h7, r8, eh7, e⟩ := bn_some e
      refine eb_cg (p := hT h a1 = 11) rfl g6 (f_Tokens_numberOf_ev d (Nat.le_trans (by decide) hd) eh7) ?_
      show Eb _ 137 (34, [.ref a0, .ref a1, .int a2], [.int r8, .int a2, .ref (hR h a0 1)], h7) _ _
      obtain ⟨g9, e⟩ := gd_some e
      obtain ⟨h10, eh10, e⟩ := lq_some e
      refine eb_g (p := hT h7 (hR h a0 1) = 101 ∧ inb a2 (hL h7 (hR h a0 1))) (35, [.ref a0, .ref a1, .int a2], [], h10) (by rw [eh10]; rfl) g9 ?_
      obtain ⟨x11, hx11, e⟩ := lq_some e
      refine eb_n 1 (38, [.ref a0, .ref a1, .int x11], [], h10) (by subst hx11; rfl) ?_
      refine eb_n 1 (2, [.ref a0, .ref a1, .int x11], [], h10) (rfl) ?_
      exact hk2 _ _ _ _  e
set_option maxRecDepth 100000 in
set_option maxHeartbeats 4000000 in
theorem f_Orders_resolve_l2_ev {h' : AH} (d : Nat) (hd : 1 ≤ d)  : ∀ (n : Nat) (h : AH) (a0 : Nat) (a1 : Nat) (a2 : Int32)   (_ : f_Orders_resolve_l2  n h a0 a1 a2 = some h'), Eb (Ev tb mL d) 137 (2, [.ref a0, .ref a1, .int a2], [], h) h' none := by
  intro n
  induction n with
  | zero => intro h a0 a1 a2  e; exact nomatch e
  | succ n ih =>
    intro h a0 a1 a2  e
    exact f_Orders_resolve_b2_ev d hd _ (fun h a0 a1 a2  e => ih h a0 a1 a2  e) h a0 a1 a2  e
set_option maxRecDepth 100000 in
set_option maxHeartbeats 4000000 in
theorem f_Orders_resolve_ev (d0 : Nat) (hd0 : 2 ≤ d0) {h' : AH} {h : AH} {a0 : Nat} {a1 : Nat} (e : f_Orders_resolve h a0 a1 = some h') : Ev tb mL d0 137 [.ref a0, .ref a1] h h' none := by
  obtain ⟨d, rfl⟩ : ∃ d, d0 = d + 1 := ⟨d0 - 1, by omega⟩
  have hd : 1 ≤ d := by omega
  refine ⟨Nat.le_of_ble_eq_true rfl, ?_⟩
  show Eb (Ev tb mL d) 137 (0, [.ref a0, .ref a1, .retAddr 0], [], h) h' none
  unfold f_Orders_resolve at e
  refine eb_n 2 (2, [.ref a0, .ref a1, .int (nI 0)], [], h) (rfl) ?_
  exact f_Orders_resolve_l2_ev d hd   FU _ _ _ _  e
set_option maxRecDepth 100000 in
set_option maxHeartbeats 4000000 in
theorem f_Orders_copyFrom_b10_ev {h' : AH} (d : Nat) (hd : 0 ≤ d) (k10 : AH → Nat → Nat → Int32 → Option AH) (hk10 : ∀ (h : AH) (a0 : Nat) (a1 : Nat) (a2 : Int32)  , k10 h a0 a1 a2 = some h' → Eb (Ev tb mL d) 138 (10, [.ref a0, .ref a1, .int a2], [], h) h' none)  (h : AH) (a0 : Nat) (a1 : Nat) (a2 : Int32)   (e : f_Orders_copyFrom_b10 k10 h a0 a1 a2 = some h') : Eb (Ev tb mL d) 138 (10, [.ref a0, .ref a1, .int a2], [], h) h' none := by
  unfold f_Orders_copyFrom_b10 at e
  refine eb_n 2 (12, [.ref a0, .ref a1, .int a2], [.ref a0, .int a2], h) (rfl) ?_
  obtain ⟨g1, e⟩ := gd_some e
  refine eb_g (p := hT h a0 = 2) (15, [.ref a0, .ref a1, .int a2], [.int (hI h a0 2), .int a2], h) rfl g1 ?_
  refine eb_b (c := (hI h a0 2) ≤ a2) (66, [.ref a0, .ref a1, .int a2], [], h) (18, [.ref a0, .ref a1, .int a2], [], h) rfl (fun c2 => ?_) (fun c2 => ?_)
  · replace e := ite_t c2 e
    rw [sv_inj e]
    exact eb_r rfl
  · replace e := ite_f c2 e
    refine eb_n 2 (20, [.ref a0, .ref a1, .int a2], [.ref a0, .int a2], h) (rfl) ?_
    refine eb_g (p := hT h a0 = 2) (23, [.ref a0, .ref a1, .int a2], [.ref (hR h a0 0), .int a2], h) rfl g1 ?_
    obtain ⟨g3, e⟩ := gd_some e
    refine eb_g (p := hT h (hR h a0 0) = 101) (24, [.ref a0, .ref a1, .int a2], [.int (nI (hL h (hR h a0 0))), .int a2], h) rfl g3 ?_
    refine eb_b (c := (nI (hL h (hR h a0 0))) ≤ a2) (66, [.ref a0, .ref a1, .int a2], [], h) (27, [.ref a0, .ref a1, .int a2], [], h) rfl (fun c4 => ?_) (fun c4 => ?_)
    · replace e := ite_t c4 e
      rw [sv_inj e]
      exact eb_r rfl
    · replace e := ite_f c4 e
      refine eb_n 2 (29, [.ref a0, .ref a1, .int a2], [.ref a0, .int a2], h) (rfl) ?_
      refine eb_g (p := hT h a0 = 2) (32, [.ref a0, .ref a1, .int a2], [.ref (hR h a0 1), .int a2], h) rfl g1 ?_
      obtain ⟨g5, e⟩ := gd_some e
      refine eb_g (p := hT h (hR h a0 1) = 101) (33, [.ref a0, .ref a1, .int a2], [.int (nI (hL h (hR h a0 1))), .int a2], h) rfl g5 ?_
      refine eb_b (c := (nI (hL h (hR h a0 1))) ≤ a2) (66, [.ref a0, .ref a1, .int a2], [], h) (36, [.ref a0, .ref a1, .int a2], [], h) rfl (fun c6 => ?_) (fun c6 => ?_)
      · replace e := ite_t c6 e
        rw [sv_inj e]
        exact eb_r rfl
      · replace e := ite_f c6 e
        refine eb_n 1 (37, [.ref a0, .ref a1, .int a2], [.ref a0], h) (rfl) ?_
        refine eb_g (p := hT h a0 = 2) (40, [.ref a0, .ref a1, .int a2], [.ref (hR h a0 0)], h) rfl g1 ?_
        refine eb_n 2 (42, [.ref a0, .ref a1, .int a2], [.ref a1, .int a2, .ref (hR h a0 0)], h) (rfl) ?_
        obtain ⟨g7, e⟩ := gd_some e
        refine eb_g (p := hT h a1 = 2) (45, [.ref a0, .ref a1, .int a2], [.ref (hR h a1 0), .int a2, .ref (hR h a0 0)], h) rfl g7 ?_
        refine eb_n 1 (46, [.ref a0, .ref a1, .int a2], [.int a2, .ref (hR h a1 0), .int a2, .ref (hR h a0 0)], h) (rfl) ?_
        obtain ⟨g8, e⟩ := gd_some e
        refine eb_g (p := hT h (hR h a1 0) = 101 ∧ inb a2 (hL h (hR h a1 0))) (47, [.ref a0, .ref a1, .int a2], [.int (hI h (hR h a1 0) (ix a2)), .int a2, .ref (hR h a0 0)], h) rfl g8 ?_
        obtain ⟨g9, e⟩ := gd_some e
        obtain ⟨h10, eh10, e⟩ := lq_some e
        refine eb_g (p := hT h (hR h a0 0) = 101 ∧ inb a2 (hL h (hR h a0 0))) (48, [.ref a0, .ref a1, .int a2], [], h10) (by rw [eh10]; rfl) g9 ?_
        refine eb_n 1 (49, [.ref a0, .ref a1, .int a2], [.ref a0], h10) (rfl) ?_
        obtain ⟨g11, e⟩ := gd_some e
        refine eb_g (p := hT h10 a0 = 2) (52, [.ref a0, .ref a1, .int a2], [.ref (hR h10 a0 1)], h10) rfl g11 ?_
        refine eb_n 2 (54, [.ref a0, .ref a1, .int a2], [.ref a1, .int a2, .ref (hR h10 a0 1)], h10) (rfl) ?_
        obtain ⟨g12, e⟩ := gd_some e
        refine eb_g (p := hT h10 a1 = 2) (57, [.ref a0, .ref a1, .int a2], [.ref (hR h10 a1 1), .int a2, .ref (hR h10 a0 1)], h10) rfl g12 ?_
        refine eb_n 1 (58, [.ref a0, .ref a1, .int a2], [.int a2, .ref (hR h10 a1 1), .int a2, .ref (hR h10 a0 1)], h10) (rfl) ?_
        obtain ⟨g13, e⟩ := gd_some e
        refine eb_g (p := hT h10 (hR h10 a1 1) = 101 ∧ inb a2 (hL h10 (hR h10 a1 1))) (59, [.ref a0, .ref a1, .int a2], [.int (hI h10 (hR h10 a1 1) (ix a2)), .int a2, .ref (hR h10 a0 1)], h10) rfl g13 ?_
        obtain ⟨g14, e⟩ := gd_some e
        obtain ⟨h15, eh15, e⟩ := lq_some e
        refine eb_g (p := hT h10 (hR h10 a0 1) = 101 ∧ inb a2 (hL h10 (hR h10 a0 1))) (60, [.ref a0, .ref a1, .int a2], [], h15) (by rw [eh15]; rfl) g14 ?_
        obtain ⟨x16, hx16, e⟩ := lq_some e
        refine eb_n 1 (63, [.ref a0, .ref a1, .int x16], [], h15) (by subst hx16; rfl) ?_
        refine eb_n 1 (10, [.ref a0, .ref a1, .int x16], [], h15) (rfl) ?_
        exact hk10 _ _ _ _  e
set_option maxRecDepth 100000 in
set_option maxHeartbeats 4000000 in
theorem f_Orders_copyFrom_l10_ev {h' : AH} (d : Nat) (hd : 0 ≤ d)  : ∀ (n : Nat) (h : AH) (a0 : Nat) (a1 : Nat) (a2 : Int32)   (_ : f_Orders_copyFrom_l10  n h a0 a1 a2 = some h'), Eb (Ev tb mL d) 138 (10, [.ref a0, .ref a1, .int a2], [], h) h' none := by
  intro n
  induction n with
  | zero => intro h a0 a1 a2  e; exact nomatch e
  | succ n ih =>
    intro h a0 a1 a2  e
    exact f_Orders_copyFrom_b10_ev d hd _ (fun h a0 a1 a2  e => ih h a0 a1 a2  e) h a0 a1 a2  e
set_option maxRecDepth 100000 in
set_option maxHeartbeats 4000000 in
theorem f_Orders_copyFrom_ev (d0 : Nat) (hd0 : 1 ≤ d0) {h' : AH} {h : AH} {a0 : Nat} {a1 : Nat} (e : f_Orders_copyFrom h a0 a1 = some h') : Ev tb mL d0 138 [.ref a0, .ref a1] h h' none := by
  obtain ⟨d, rfl⟩ : ∃ d, d0 = d + 1 := ⟨d0 - 1, by omega⟩
  have hd : 0 ≤ d := by omega
  refine ⟨Nat.le_of_ble_eq_true rfl, ?_⟩
  show Eb (Ev tb mL d) 138 (0, [.ref a0, .ref a1, .retAddr 0], [], h) h' none
  unfold f_Orders_copyFrom at e
  refine eb_n 2 (2, [.ref a0, .ref a1, .retAddr 0], [.ref a1, .ref a0], h) (rfl) ?_
  obtain ⟨g1, e⟩ := gd_some e
  refine eb_g (p := hT h a1 = 2) (5, [.ref a0, .ref a1, .retAddr 0], [.int (hI h a1 2), .ref a0], h) rfl g1 ?_
  obtain ⟨g2, e⟩ := gd_some e
  obtain ⟨h3, eh3, e⟩ := lq_some e
  refine eb_g (p := hT h a0 = 2) (8, [.ref a0, .ref a1, .retAddr 0], [], h3) (by rw [eh3]; rfl) g2 ?_
  refine eb_n 2 (10, [.ref a0, .ref a1, .int (nI 0)], [], h3) (rfl) ?_
  exact f_Orders_copyFrom_l10_ev d hd   FU _ _ _ _  e
set_option maxRecDepth 100000 in
set_option maxHeartbeats 4000000 in
theorem f_Garden_copyFrom_ev (d0 : Nat) (hd0 : 1 ≤ d0) {h' : AH} {h : AH} {a0 : Nat} {a1 : Nat} (e : f_Garden_copyFrom h a0 a1 = some h') : Ev tb mL d0 139 [.ref a0, .ref a1] h h' none := by
  obtain ⟨d, rfl⟩ : ∃ d, d0 = d + 1 := ⟨d0 - 1, by omega⟩
  have hd : 0 ≤ d := by omega
  refine ⟨Nat.le_of_ble_eq_true rfl, ?_⟩
  show Eb (Ev tb mL d) 139 (0, [.ref a0, .ref a1], [], h) h' none
  unfold f_Garden_copyFrom at e
  refine eb_n 2 (2, [.ref a0, .ref a1], [.ref a1, .ref a0], h) (rfl) ?_
  obtain ⟨g1, e⟩ := gd_some e
  refine eb_g (p := hT h a1 = 4) (5, [.ref a0, .ref a1], [.int (hI h a1 0), .ref a0], h) rfl g1 ?_
  obtain ⟨g2, e⟩ := gd_some e
  obtain ⟨h3, eh3, e⟩ := lq_some e
  refine eb_g (p := hT h a0 = 4) (8, [.ref a0, .ref a1], [], h3) (by rw [eh3]; rfl) g2 ?_
  refine eb_n 2 (10, [.ref a0, .ref a1], [.ref a1, .ref a0], h3) (rfl) ?_
  obtain ⟨g4, e⟩ := gd_some e
  refine eb_g (p := hT h3 a1 = 4) (13, [.ref a0, .ref a1], [.int (hI h3 a1 1), .ref a0], h3) rfl g4 ?_
  obtain ⟨g5, e⟩ := gd_some e
  obtain ⟨h6, eh6, e⟩ := lq_some e
  refine eb_g (p := hT h3 a0 = 4) (16, [.ref a0, .ref a1], [], h6) (by rw [eh6]; rfl) g5 ?_
  refine eb_n 2 (18, [.ref a0, .ref a1], [.ref a1, .ref a0], h6) (rfl) ?_
  obtain ⟨g7, e⟩ := gd_some e
  refine eb_g (p := hT h6 a1 = 4) (21, [.ref a0, .ref a1], [.int (hI h6 a1 2), .ref a0], h6) rfl g7 ?_
  obtain ⟨g8, e⟩ := gd_some e
  obtain ⟨h9, eh9, e⟩ := lq_some e
  refine eb_g (p := hT h6 a0 = 4) (24, [.ref a0, .ref a1], [], h9) (by rw [eh9]; rfl) g8 ?_
  rw [sv_inj e]
  exact eb_r rfl
set_option maxRecDepth 100000 in
set_option maxHeartbeats 4000000 in
theorem f_Rack_copyFrom_b26_ev {h' : AH} (d : Nat) (hd : 0 ≤ d) (k26 : AH → Nat → Nat → Int32 → Option AH) (hk26 : ∀ (h : AH) (a0 : Nat) (a1 : Nat) (a2 : Int32)  , k26 h a0 a1 a2 = some h' → Eb (Ev tb mL d) 140 (26, [.ref a0, .ref a1, .int a2], [], h) h' none)  (h : AH) (a0 : Nat) (a1 : Nat) (a2 : Int32)   (e : f_Rack_copyFrom_b26 k26 h a0 a1 a2 = some h') : Eb (Ev tb mL d) 140 (26, [.ref a0, .ref a1, .int a2], [], h) h' none := by
  unfold f_Rack_copyFrom_b26 at e
  refine eb_n 2 (28, [.ref a0, .ref a1, .int a2], [.ref a0, .int a2], h) (rfl) ?_
  obtain ⟨g1, e⟩ := gd_some e
  refine eb_g (p := hT h a0 = 5) (31, [.ref a0, .ref a1, .int a2], [.int (hI h a0 2), .int a2], h) rfl g1 ?_
  refine eb_b (c := (hI h a0 2) ≤ a2) (94, [.ref a0, .ref a1, .int a2], [], h) (34, [.ref a0, .ref a1, .int a2], [], h) rfl (fun c2 => ?_) (fun c2 => ?_)
  · replace e := ite_t c2 e
    rw [sv_inj e]
    exact eb_r rfl
  · replace e := ite_f c2 e
    refine eb_n 2 (37, [.ref a0, .ref a1, .int a2], [.int (nI 60), .int a2], h) (rfl) ?_
    refine eb_b (c := (nI 60) ≤ a2) (94, [.ref a0, .ref a1, .int a2], [], h) (40, [.ref a0, .ref a1, .int a2], [], h) rfl (fun c3 => ?_) (fun c3 => ?_)
    · replace e := ite_t c3 e
      rw [sv_inj e]
      exact eb_r rfl
    · replace e := ite_f c3 e
      refine eb_n 1 (41, [.ref a0, .ref a1, .int a2], [.ref a0], h) (rfl) ?_
      refine eb_g (p := hT h a0 = 5) (44, [.ref a0, .ref a1, .int a2], [.ref (hR h a0 3)], h) rfl g1 ?_
      refine eb_n 2 (46, [.ref a0, .ref a1, .int a2], [.ref a1, .int a2, .ref (hR h a0 3)], h) (rfl) ?_
      obtain ⟨g4, e⟩ := gd_some e
      refine eb_g (p := hT h a1 = 5) (49, [.ref a0, .ref a1, .int a2], [.ref (hR h a1 3), .int a2, .ref (hR h a0 3)], h) rfl g4 ?_
      refine eb_n 1 (50, [.ref a0, .ref a1, .int a2], [.int a2, .ref (hR h a1 3), .int a2, .ref (hR h a0 3)], h) (rfl) ?_
      obtain ⟨g5, e⟩ := gd_some e
      refine eb_g (p := hT h (hR h a1 3) = 101 ∧ inb a2 (hL h (hR h a1 3))) (51, [.ref a0, .ref a1, .int a2], [.int (hI h (hR h a1 3) (ix a2)), .int a2, .ref (hR h a0 3)], h) rfl g5 ?_
      obtain ⟨g6, e⟩ := gd_some e
      obtain ⟨h7, eh7, e⟩ := lq_some e
      refine eb_g (p := hT h (hR h a0 3) = 101 ∧ inb a2 (hL h (hR h a0 3))) (52, [.ref a0, .ref a1, .int a2], [], h7) (by rw [eh7]; rfl) g6 ?_
      refine eb_n 1 (53, [.ref a0, .ref a1, .int a2], [.ref a0], h7) (rfl) ?_
      obtain ⟨g8, e⟩ := gd_some e
      refine eb_g (p := hT h7 a0 = 5) (56, [.ref a0, .ref a1, .int a2], [.ref (hR h7 a0 4)], h7) rfl g8 ?_
      refine eb_n 2 (58, [.ref a0, .ref a1, .int a2], [.ref a1, .int a2, .ref (hR h7 a0 4)], h7) (rfl) ?_
      obtain ⟨g9, e⟩ := gd_some e
      refine eb_g (p := hT h7 a1 = 5) (61, [.ref a0, .ref a1, .int a2], [.ref (hR h7 a1 4), .int a2, .ref (hR h7 a0 4)], h7) rfl g9 ?_
      refine eb_n 1 (62, [.ref a0, .ref a1, .int a2], [.int a2, .ref (hR h7 a1 4), .int a2, .ref (hR h7 a0 4)], h7) (rfl) ?_
      obtain ⟨g10, e⟩ := gd_some e
      refine eb_g (p := hT h7 (hR h7 a1 4) = 101 ∧ inb a2 (hL h7 (hR h7 a1 4))) (63, [.ref a0, .ref a1, .int a2], [.int (hI h7 (hR h7 a1 4) (ix a2)), .int a2, .ref (hR h7 a0 4)], h7) rfl g10 ?_
      obtain ⟨g11, e⟩ := gd_some e
      obtain ⟨h12, eh12, e⟩ := lq_some e
      refine eb_g (p := hT h7 (hR h7 a0 4) = 101 ∧ inb a2 (hL h7 (hR h7 a0 4))) (64, [.ref a0, .ref a1, .int a2], [], h12) (by rw [eh12]; rfl) g11 ?_
      refine eb_n 1 (65, [.ref a0, .ref a1, .int a2], [.ref a0], h12) (rfl) ?_
      obtain ⟨g13, e⟩ := gd_some e
      refine eb_g (p := hT h12 a0 = 5) (68, [.ref a0, .ref a1, .int a2], [.ref (hR h12 a0 5)], h12) rfl g13 ?_
      refine eb_n 2 (70, [.ref a0, .ref a1, .int a2], [.ref a1, .int a2, .ref (hR h12 a0 5)], h12) (rfl) ?_
      obtain ⟨g14, e⟩ := gd_some e
      refine eb_g (p := hT h12 a1 = 5) (73, [.ref a0, .ref a1, .int a2], [.ref (hR h12 a1 5), .int a2, .ref (hR h12 a0 5)], h12) rfl g14 ?_
      refine eb_n 1 (74, [.ref a0, .ref a1, .int a2], [.int a2, .ref (hR h12 a1 5), .int a2, .ref (hR h12 a0 5)], h12) (rfl) ?_
      obtain ⟨g15, e⟩ := gd_some e
      refine eb_g (p := hT h12 (hR h12 a1 5) = 101 ∧ inb a2 (hL h12 (hR h12 a1 5))) (75, [.ref a0, .ref a1, .int a2], [.int (hI h12 (hR h12 a1 5) (ix a2)), .int a2, .ref (hR h12 a0 5)], h12) rfl g15 ?_
      obtain ⟨g16, e⟩ := gd_some e
      obtain ⟨h17, eh17, e⟩ := lq_some e
      refine eb_g (p := hT h12 (hR h12 a0 5) = 101 ∧ inb a2 (hL h12 (hR h12 a0 5))) (76, [.ref a0, .ref a1, .int a2], [], h17) (by rw [eh17]; rfl) g16 ?_
      refine eb_n 1 (77, [.ref a0, .ref a1, .int a2], [.ref a0], h17) (rfl) ?_
      obtain ⟨g18, e⟩ := gd_some e
      refine eb_g (p := hT h17 a0 = 5) (80, [.ref a0, .ref a1, .int a2], [.ref (hR h17 a0 6)], h17) rfl g18 ?_
      refine eb_n 2 (82, [.ref a0, .ref a1, .int a2], [.ref a1, .int a2, .ref (hR h17 a0 6)], h17) (rfl) ?_
      obtain ⟨g19, e⟩ := gd_some e
      refine eb_g (p := hT h17 a1 = 5) (85, [.ref a0, .ref a1, .int a2], [.ref (hR h17 a1 6), .int a2, .ref (hR h17 a0 6)], h17) rfl g19 ?_
      refine eb_n 1 (86, [.ref a0, .ref a1, .int a2], [.int a2, .ref (hR h17 a1 6), .int a2, .ref (hR h17 a0 6)], h17) (rfl) ?_
      obtain ⟨g20, e⟩ := gd_some e
      refine eb_g (p := hT h17 (hR h17 a1 6) = 101 ∧ inb a2 (hL h17 (hR h17 a1 6))) (87, [.ref a0, .ref a1, .int a2], [.int (hI h17 (hR h17 a1 6) (ix a2)), .int a2, .ref (hR h17 a0 6)], h17) rfl g20 ?_
      obtain ⟨g21, e⟩ := gd_some e
      obtain ⟨h22, eh22, e⟩ := lq_some e
      refine eb_g (p := hT h17 (hR h17 a0 6) = 101 ∧ inb a2 (hL h17 (hR h17 a0 6))) (88, [.ref a0, .ref a1, .int a2], [], h22) (by rw [eh22]; rfl) g21 ?_
      obtain ⟨x23, hx23, e⟩ := lq_some e
      refine eb_n 1 (91, [.ref a0, .ref a1, .int x23], [], h22) (by subst hx23; rfl) ?_
      refine eb_n 1 (26, [.ref a0, .ref a1, .int x23], [], h22) (rfl) ?_
      exact hk26 _ _ _ _  e
set_option maxRecDepth 100000 in
set_option maxHeartbeats 4000000 in
theorem f_Rack_copyFrom_l26_ev {h' : AH} (d : Nat) (hd : 0 ≤ d)  : ∀ (n : Nat) (h : AH) (a0 : Nat) (a1 : Nat) (a2 : Int32)   (_ : f_Rack_copyFrom_l26  n h a0 a1 a2 = some h'), Eb (Ev tb mL d) 140 (26, [.ref a0, .ref a1, .int a2], [], h) h' none := by
  intro n
  induction n with
  | zero => intro h a0 a1 a2  e; exact nomatch e
  | succ n ih =>
    intro h a0 a1 a2  e
    exact f_Rack_copyFrom_b26_ev d hd _ (fun h a0 a1 a2  e => ih h a0 a1 a2  e) h a0 a1 a2  e
set_option maxRecDepth 100000 in
set_option maxHeartbeats 4000000 in
theorem f_Rack_copyFrom_ev (d0 : Nat) (hd0 : 1 ≤ d0) {h' : AH} {h : AH} {a0 : Nat} {a1 : Nat} (e : f_Rack_copyFrom h a0 a1 = some h') : Ev tb mL d0 140 [.ref a0, .ref a1] h h' none := by
  obtain ⟨d, rfl⟩ : ∃ d, d0 = d + 1 := ⟨d0 - 1, by omega⟩
  have hd : 0 ≤ d := by omega
  refine ⟨Nat.le_of_ble_eq_true rfl, ?_⟩
  show Eb (Ev tb mL d) 140 (0, [.ref a0, .ref a1, .retAddr 0], [], h) h' none
  unfold f_Rack_copyFrom at e
  refine eb_n 2 (2, [.ref a0, .ref a1, .retAddr 0], [.ref a1, .ref a0], h) (rfl) ?_
  obtain ⟨g1, e⟩ := gd_some e
  refine eb_g (p := hT h a1 = 5) (5, [.ref a0, .ref a1, .retAddr 0], [.int (hI h a1 0), .ref a0], h) rfl g1 ?_
  obtain ⟨g2, e⟩ := gd_some e
  obtain ⟨h3, eh3, e⟩ := lq_some e
  refine eb_g (p := hT h a0 = 5) (8, [.ref a0, .ref a1, .retAddr 0], [], h3) (by rw [eh3]; rfl) g2 ?_
  refine eb_n 2 (10, [.ref a0, .ref a1, .retAddr 0], [.ref a1, .ref a0], h3) (rfl) ?_
  obtain ⟨g4, e⟩ := gd_some e
  refine eb_g (p := hT h3 a1 = 5) (13, [.ref a0, .ref a1, .retAddr 0], [.int (hI h3 a1 1), .ref a0], h3) rfl g4 ?_
  obtain ⟨g5, e⟩ := gd_some e
  obtain ⟨h6, eh6, e⟩ := lq_some e
  refine eb_g (p := hT h3 a0 = 5) (16, [.ref a0, .ref a1, .retAddr 0], [], h6) (by rw [eh6]; rfl) g5 ?_
  refine eb_n 2 (18, [.ref a0, .ref a1, .retAddr 0], [.ref a1, .ref a0], h6) (rfl) ?_
  obtain ⟨g7, e⟩ := gd_some e
  refine eb_g (p := hT h6 a1 = 5) (21, [.ref a0, .ref a1, .retAddr 0], [.int (hI h6 a1 2), .ref a0], h6) rfl g7 ?_
  obtain ⟨g8, e⟩ := gd_some e
  obtain ⟨h9, eh9, e⟩ := lq_some e
  refine eb_g (p := hT h6 a0 = 5) (24, [.ref a0, .ref a1, .retAddr 0], [], h9) (by rw [eh9]; rfl) g8 ?_
  refine eb_n 2 (26, [.ref a0, .ref a1, .int (nI 0)], [], h9) (rfl) ?_
  exact f_Rack_copyFrom_l26_ev d hd   FU _ _ _ _  e
set_option maxRecDepth 100000 in
set_option maxHeartbeats 4000000 in
theorem f_Peeler_copyFrom_ev (d0 : Nat) (hd0 : 1 ≤ d0) {h' : AH} {h : AH} {a0 : Nat} {a1 : Nat} (e : f_Peeler_copyFrom h a0 a1 = some h') : Ev tb mL d0 141 [.ref a0, .ref a1] h h' none := by
  obtain ⟨d, rfl⟩ : ∃ d, d0 = d + 1 := ⟨d0 - 1, by omega⟩
  have hd : 0 ≤ d := by omega
  refine ⟨Nat.le_of_ble_eq_true rfl, ?_⟩
  show Eb (Ev tb mL d) 141 (0, [.ref a0, .ref a1], [], h) h' none
  unfold f_Peeler_copyFrom at e
  refine eb_n 2 (2, [.ref a0, .ref a1], [.ref a1, .ref a0], h) (rfl) ?_
  obtain ⟨g1, e⟩ := gd_some e
  refine eb_g (p := hT h a1 = 6) (5, [.ref a0, .ref a1], [.int (hI h a1 0), .ref a0], h) rfl g1 ?_
  obtain ⟨g2, e⟩ := gd_some e
  obtain ⟨h3, eh3, e⟩ := lq_some e
  refine eb_g (p := hT h a0 = 6) (8, [.ref a0, .ref a1], [], h3) (by rw [eh3]; rfl) g2 ?_
  refine eb_n 2 (10, [.ref a0, .ref a1], [.ref a1, .ref a0], h3) (rfl) ?_
  obtain ⟨g4, e⟩ := gd_some e
  refine eb_g (p := hT h3 a1 = 6) (13, [.ref a0, .ref a1], [.int (hI h3 a1 1), .ref a0], h3) rfl g4 ?_
  obtain ⟨g5, e⟩ := gd_some e
  obtain ⟨h6, eh6, e⟩ := lq_some e
  refine eb_g (p := hT h3 a0 = 6) (16, [.ref a0, .ref a1], [], h6) (by rw [eh6]; rfl) g5 ?_
  refine eb_n 2 (18, [.ref a0, .ref a1], [.ref a1, .ref a0], h6) (rfl) ?_
  obtain ⟨g7, e⟩ := gd_some e
  refine eb_g (p := hT h6 a1 = 6) (21, [.ref a0, .ref a1], [.int (hI h6 a1 2), .ref a0], h6) rfl g7 ?_
  obtain ⟨g8, e⟩ := gd_some e
  obtain ⟨h9, eh9, e⟩ := lq_some e
  refine eb_g (p := hT h6 a0 = 6) (24, [.ref a0, .ref a1], [], h9) (by rw [eh9]; rfl) g8 ?_
  refine eb_n 2 (26, [.ref a0, .ref a1], [.ref a1, .ref a0], h9) (rfl) ?_
  obtain ⟨g10, e⟩ := gd_some e
  refine eb_g (p := hT h9 a1 = 6) (29, [.ref a0, .ref a1], [.int (hI h9 a1 3), .ref a0], h9) rfl g10 ?_
  obtain ⟨g11, e⟩ := gd_some e
  obtain ⟨h12, eh12, e⟩ := lq_some e
  refine eb_g (p := hT h9 a0 = 6) (32, [.ref a0, .ref a1], [], h12) (by rw [eh12]; rfl) g11 ?_
  refine eb_n 2 (34, [.ref a0, .ref a1], [.ref a1, .ref a0], h12) (rfl) ?_
  obtain ⟨g13, e⟩ := gd_some e
  refine eb_g (p := hT h12 a1 = 6) (37, [.ref a0, .ref a1], [.int (hI h12 a1 4), .ref a0], h12) rfl g13 ?_
  obtain ⟨g14, e⟩ := gd_some e
  obtain ⟨h15, eh15, e⟩ := lq_some e
  refine eb_g (p := hT h12 a0 = 6) (40, [.ref a0, .ref a1], [], h15) (by rw [eh15]; rfl) g14 ?_
  refine eb_n 2 (42, [.ref a0, .ref a1], [.ref a1, .ref a0], h15) (rfl) ?_
  obtain ⟨g16, e⟩ := gd_some e
  refine eb_g (p := hT h15 a1 = 6) (45, [.ref a0, .ref a1], [.int (hI h15 a1 5), .ref a0], h15) rfl g16 ?_
  obtain ⟨g17, e⟩ := gd_some e
  obtain ⟨h18, eh18, e⟩ := lq_some e
  refine eb_g (p := hT h15 a0 = 6) (48, [.ref a0, .ref a1], [], h18) (by rw [eh18]; rfl) g17 ?_
  refine eb_n 2 (50, [.ref a0, .ref a1], [.ref a1, .ref a0], h18) (rfl) ?_
  obtain ⟨g19, e⟩ := gd_some e
  refine eb_g (p := hT h18 a1 = 6) (53, [.ref a0, .ref a1], [.int (hI h18 a1 6), .ref a0], h18) rfl g19 ?_
  obtain ⟨g20, e⟩ := gd_some e
  obtain ⟨h21, eh21, e⟩ := lq_some e
  refine eb_g (p := hT h18 a0 = 6 ∧ ((hI h18 a1 6) = 0 ∨ (hI h18 a1 6) = 1)) (56, [.ref a0, .ref a1], [], h21) (by rw [eh21]; rfl) g20 ?_
  rw [sv_inj e]
  exact eb_r rfl
set_option maxRecDepth 100000 in
set_option maxHeartbeats 4000000 in
theorem f_Boat_copyFrom_ev (d0 : Nat) (hd0 : 1 ≤ d0) {h' : AH} {h : AH} {a0 : Nat} {a1 : Nat} (e : f_Boat_copyFrom h a0 a1 = some h') : Ev tb mL d0 62 [.ref a0, .ref a1] h h' none := by
  obtain ⟨d, rfl⟩ : ∃ d, d0 = d + 1 := ⟨d0 - 1, by omega⟩
  have hd : 0 ≤ d := by omega
  refine ⟨Nat.le_of_ble_eq_true rfl, ?_⟩
  show Eb (Ev tb mL d) 62 (0, [.ref a0, .ref a1], [], h) h' none
  unfold f_Boat_copyFrom at e
  refine eb_n 2 (2, [.ref a0, .ref a1], [.ref a1, .ref a0], h) (rfl) ?_
  obtain ⟨g1, e⟩ := gd_some e
  refine eb_g (p := hT h a1 = 7) (5, [.ref a0, .ref a1], [.int (hI h a1 0), .ref a0], h) rfl g1 ?_
  obtain ⟨g2, e⟩ := gd_some e
  obtain ⟨h3, eh3, e⟩ := lq_some e
  refine eb_g (p := hT h a0 = 7) (8, [.ref a0, .ref a1], [], h3) (by rw [eh3]; rfl) g2 ?_
  refine eb_n 2 (10, [.ref a0, .ref a1], [.ref a1, .ref a0], h3) (rfl) ?_
  obtain ⟨g4, e⟩ := gd_some e
  refine eb_g (p := hT h3 a1 = 7) (13, [.ref a0, .ref a1], [.int (hI h3 a1 1), .ref a0], h3) rfl g4 ?_
  obtain ⟨g5, e⟩ := gd_some e
  obtain ⟨h6, eh6, e⟩ := lq_some e
  refine eb_g (p := hT h3 a0 = 7) (16, [.ref a0, .ref a1], [], h6) (by rw [eh6]; rfl) g5 ?_
  refine eb_n 2 (18, [.ref a0, .ref a1], [.ref a1, .ref a0], h6) (rfl) ?_
  obtain ⟨g7, e⟩ := gd_some e
  refine eb_g (p := hT h6 a1 = 7) (21, [.ref a0, .ref a1], [.int (hI h6 a1 2), .ref a0], h6) rfl g7 ?_
  obtain ⟨g8, e⟩ := gd_some e
  obtain ⟨h9, eh9, e⟩ := lq_some e
  refine eb_g (p := hT h6 a0 = 7) (24, [.ref a0, .ref a1], [], h9) (by rw [eh9]; rfl) g8 ?_
  refine eb_n 2 (26, [.ref a0, .ref a1], [.ref a1, .ref a0], h9) (rfl) ?_
  obtain ⟨g10, e⟩ := gd_some e
  refine eb_g (p := hT h9 a1 = 7) (29, [.ref a0, .ref a1], [.int (hI h9 a1 3), .ref a0], h9) rfl g10 ?_
  obtain ⟨g11, e⟩ := gd_some e
  obtain ⟨h12, eh12, e⟩ := lq_some e
  refine eb_g (p := hT h9 a0 = 7) (32, [.ref a0, .ref a1], [], h12) (by rw [eh12]; rfl) g11 ?_
  refine eb_n 2 (34, [.ref a0, .ref a1], [.ref a1, .ref a0], h12) (rfl) ?_
  obtain ⟨g13, e⟩ := gd_some e
  refine eb_g (p := hT h12 a1 = 7) (37, [.ref a0, .ref a1], [.int (hI h12 a1 4), .ref a0], h12) rfl g13 ?_
  obtain ⟨g14, e⟩ := gd_some e
  obtain ⟨h15, eh15, e⟩ := lq_some e
  refine eb_g (p := hT h12 a0 = 7) (40, [.ref a0, .ref a1], [], h15) (by rw [eh15]; rfl) g14 ?_
  refine eb_n 2 (42, [.ref a0, .ref a1], [.ref a1, .ref a0], h15) (rfl) ?_
  obtain ⟨g16, e⟩ := gd_some e
  refine eb_g (p := hT h15 a1 = 7) (45, [.ref a0, .ref a1], [.int (hI h15 a1 5), .ref a0], h15) rfl g16 ?_
  obtain ⟨g17, e⟩ := gd_some e
  obtain ⟨h18, eh18, e⟩ := lq_some e
  refine eb_g (p := hT h15 a0 = 7) (48, [.ref a0, .ref a1], [], h18) (by rw [eh18]; rfl) g17 ?_
  refine eb_n 2 (50, [.ref a0, .ref a1], [.ref a1, .ref a0], h18) (rfl) ?_
  obtain ⟨g19, e⟩ := gd_some e
  refine eb_g (p := hT h18 a1 = 7) (53, [.ref a0, .ref a1], [.int (hI h18 a1 6), .ref a0], h18) rfl g19 ?_
  obtain ⟨g20, e⟩ := gd_some e
  obtain ⟨h21, eh21, e⟩ := lq_some e
  refine eb_g (p := hT h18 a0 = 7) (56, [.ref a0, .ref a1], [], h21) (by rw [eh21]; rfl) g20 ?_
  rw [sv_inj e]
  exact eb_r rfl

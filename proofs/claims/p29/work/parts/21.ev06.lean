/-! THEIR ANSWERS ARE RUNS (written by wip/p29/gen_sh.py) -/
set_option maxRecDepth 100000 in
set_option maxHeartbeats 4000000 in
theorem f_River_letHourGo_b176_ev {h' : AH} (d : Nat) (hd : 5 ≤ d)  (h : AH) (a0 : Nat)  (d1 : Value) (d2 : Value) (d3 : Value) (e : f_River_letHourGo_b176  h a0 = some h') : Eb (Ev tb mL d) 114 (176, [.ref a0, d1, d2, d3], [], h) h' none := by
  unfold f_River_letHourGo_b176 at e
  refine eb_n 1 (177, [.ref a0, d1, d2, d3], [.ref a0], h) (rfl) ?_
  obtain ⟨g1, e⟩ := gd_some e
  obtain ⟨h2, eh2, e⟩ := bv_some e
  refine eb_cg (p := hT h a0 = 3) rfl g1 (f_River_endHour_ev d (Nat.le_trans (by decide) hd) eh2) ?_
  show Eb _ 114 (180, [.ref a0, d1, d2, d3], [], h2) _ _
  rw [sv_inj e]
  exact eb_r rfl
set_option maxRecDepth 100000 in
set_option maxHeartbeats 4000000 in
theorem f_River_letHourGo_b170_ev {h' : AH} (d : Nat) (hd : 5 ≤ d) (k127 : AH → Nat → Int32 → Option AH) (hk127 : ∀ (h : AH) (a0 : Nat) (a3 : Int32)  (d1 : Value) (d2 : Value), k127 h a0 a3 = some h' → Eb (Ev tb mL d) 114 (127, [.ref a0, d1, d2, .int a3], [], h) h' none)  (h : AH) (a0 : Nat) (a3 : Int32)  (d1 : Value) (d2 : Value) (e : f_River_letHourGo_b170 k127 h a0 a3 = some h') : Eb (Ev tb mL d) 114 (170, [.ref a0, d1, d2, .int a3], [], h) h' none := by
  unfold f_River_letHourGo_b170 at e
  obtain ⟨x1, hx1, e⟩ := lq_some e
  refine eb_n 1 (173, [.ref a0, d1, d2, .int x1], [], h) (by subst hx1; rfl) ?_
  refine eb_n 1 (127, [.ref a0, d1, d2, .int x1], [], h) (rfl) ?_
  exact hk127 _ _ _ _ _ e
set_option maxRecDepth 100000 in
set_option maxHeartbeats 4000000 in
theorem f_River_letHourGo_b127_ev {h' : AH} (d : Nat) (hd : 5 ≤ d) (k127 : AH → Nat → Int32 → Option AH) (hk127 : ∀ (h : AH) (a0 : Nat) (a3 : Int32)  (d1 : Value) (d2 : Value), k127 h a0 a3 = some h' → Eb (Ev tb mL d) 114 (127, [.ref a0, d1, d2, .int a3], [], h) h' none)  (h : AH) (a0 : Nat) (a3 : Int32)  (d1 : Value) (d2 : Value) (e : f_River_letHourGo_b127 k127 h a0 a3 = some h') : Eb (Ev tb mL d) 114 (127, [.ref a0, d1, d2, .int a3], [], h) h' none := by
  unfold f_River_letHourGo_b127 at e
  refine eb_n 2 (129, [.ref a0, d1, d2, .int a3], [.ref a0, .int a3], h) (rfl) ?_
  obtain ⟨g1, e⟩ := gd_some e
  refine eb_g (p := hT h a0 = 3) (132, [.ref a0, d1, d2, .int a3], [.int (hI h a0 9), .int a3], h) rfl g1 ?_
  refine eb_b (c := (hI h a0 9) ≤ a3) (176, [.ref a0, d1, d2, .int a3], [], h) (135, [.ref a0, d1, d2, .int a3], [], h) rfl (fun c2 => ?_) (fun c2 => ?_)
  · replace e := ite_t c2 e
    exact f_River_letHourGo_b176_ev d hd   _ _ _ _ _ e
  · replace e := ite_f c2 e
    refine eb_n 2 (137, [.ref a0, d1, d2, .int a3], [.int (nI 4), .int a3], h) (rfl) ?_
    refine eb_b (c := (nI 4) ≤ a3) (176, [.ref a0, d1, d2, .int a3], [], h) (140, [.ref a0, d1, d2, .int a3], [], h) rfl (fun c3 => ?_) (fun c3 => ?_)
    · replace e := ite_t c3 e
      exact f_River_letHourGo_b176_ev d hd   _ _ _ _ _ e
    · replace e := ite_f c3 e
      refine eb_n 1 (141, [.ref a0, d1, d2, .int a3], [.ref a0], h) (rfl) ?_
      refine eb_g (p := hT h a0 = 3) (144, [.ref a0, d1, d2, .int a3], [.ref (hR h a0 3)], h) rfl g1 ?_
      refine eb_n 1 (145, [.ref a0, d1, d2, .int a3], [.int a3, .ref (hR h a0 3)], h) (rfl) ?_
      obtain ⟨g4, e⟩ := gd_some e
      refine eb_g (p := hT h (hR h a0 3) = 107 ∧ inb a3 (hL h (hR h a0 3))) (146, [.ref a0, d1, d2, .int a3], [.ref (hR h (hR h a0 3) (ix a3))], h) rfl g4 ?_
      refine eb_n 1 (147, [.ref a0, d1, d2, .int a3], [.ref a0, .ref (hR h (hR h a0 3) (ix a3))], h) (rfl) ?_
      refine eb_g (p := hT h a0 = 3) (150, [.ref a0, d1, d2, .int a3], [.int (hI h a0 13), .ref (hR h (hR h a0 3) (ix a3))], h) rfl g1 ?_
      refine eb_n 1 (151, [.ref a0, d1, d2, .int a3], [.ref a0, .int (hI h a0 13), .ref (hR h (hR h a0 3) (ix a3))], h) (rfl) ?_
      refine eb_g (p := hT h a0 = 3) (154, [.ref a0, d1, d2, .int a3], [.int (hI h a0 14), .int (hI h a0 13), .ref (hR h (hR h a0 3) (ix a3))], h) rfl g1 ?_
      obtain ⟨g5, e⟩ := gd_some e
      obtain ⟨h6, r7, eh6, e⟩ := bn_some e
      refine eb_cg (p := hT h (hR h (hR h a0 3) (ix a3)) = 7) rfl g5 (f_Boat_comesToMarket_ev d (Nat.le_trans (by decide) hd) eh6) ?_
      show Eb _ 114 (157, [.ref a0, d1, d2, .int a3], [.int r7], h6) _ _
      refine eb_b (c := r7 = 0) (170, [.ref a0, d1, d2, .int a3], [], h6) (160, [.ref a0, d1, d2, .int a3], [], h6) rfl (fun c8 => ?_) (fun c8 => ?_)
      · replace e := ite_t c8 e
        exact f_River_letHourGo_b170_ev d hd k127 hk127 _ _ _ _ _ e
      · replace e := ite_f c8 e
        refine eb_n 2 (162, [.ref a0, d1, d2, .int a3], [.ref a0, .ref a0], h6) (rfl) ?_
        obtain ⟨g9, e⟩ := gd_some e
        refine eb_g (p := hT h6 a0 = 3) (165, [.ref a0, d1, d2, .int a3], [.ref (hR h6 a0 3), .ref a0], h6) rfl g9 ?_
        refine eb_n 1 (166, [.ref a0, d1, d2, .int a3], [.int a3, .ref (hR h6 a0 3), .ref a0], h6) (rfl) ?_
        obtain ⟨g10, e⟩ := gd_some e
        refine eb_g (p := hT h6 (hR h6 a0 3) = 107 ∧ inb a3 (hL h6 (hR h6 a0 3))) (167, [.ref a0, d1, d2, .int a3], [.ref (hR h6 (hR h6 a0 3) (ix a3)), .ref a0], h6) rfl g10 ?_
        obtain ⟨h11, eh11, e⟩ := bv_some e
        refine eb_cg (p := hT h6 a0 = 3) rfl g9 (f_River_sellQuills_ev d (Nat.le_trans (by decide) hd) eh11) ?_
        show Eb _ 114 (170, [.ref a0, d1, d2, .int a3], [], h11) _ _
        exact f_River_letHourGo_b170_ev d hd k127 hk127 _ _ _ _ _ e
set_option maxRecDepth 100000 in
set_option maxHeartbeats 4000000 in
theorem f_River_letHourGo_l127_ev {h' : AH} (d : Nat) (hd : 5 ≤ d)  : ∀ (n : Nat) (h : AH) (a0 : Nat) (a3 : Int32)  (d1 : Value) (d2 : Value) (_ : f_River_letHourGo_l127  n h a0 a3 = some h'), Eb (Ev tb mL d) 114 (127, [.ref a0, d1, d2, .int a3], [], h) h' none := by
  intro n
  induction n with
  | zero => intro h a0 a3 d1 d2 e; exact nomatch e
  | succ n ih =>
    intro h a0 a3 d1 d2 e
    exact f_River_letHourGo_b127_ev d hd _ (fun h a0 a3 d1 d2 e => ih h a0 a3 d1 d2 e) h a0 a3 d1 d2 e
set_option maxRecDepth 100000 in
set_option maxHeartbeats 4000000 in
theorem f_River_letHourGo_b125_ev {h' : AH} (d : Nat) (hd : 5 ≤ d)  (h : AH) (a0 : Nat)  (d1 : Value) (d2 : Value) (d3 : Value) (e : f_River_letHourGo_b125  h a0 = some h') : Eb (Ev tb mL d) 114 (125, [.ref a0, d1, d2, d3], [], h) h' none := by
  unfold f_River_letHourGo_b125 at e
  refine eb_n 2 (127, [.ref a0, d1, d2, .int (nI 0)], [], h) (rfl) ?_
  exact f_River_letHourGo_l127_ev d hd   FU _ _ _ _ _ e
set_option maxRecDepth 100000 in
set_option maxHeartbeats 4000000 in
theorem f_River_letHourGo_b92_ev {h' : AH} (d : Nat) (hd : 5 ≤ d) (k92 : AH → Nat → Int32 → Int32 → Option AH) (hk92 : ∀ (h : AH) (a0 : Nat) (a2 : Int32) (a3 : Int32)  (d1 : Value), k92 h a0 a2 a3 = some h' → Eb (Ev tb mL d) 114 (92, [.ref a0, d1, .int a2, .int a3], [], h) h' none)  (h : AH) (a0 : Nat) (a2 : Int32) (a3 : Int32)  (d1 : Value) (e : f_River_letHourGo_b92 k92 h a0 a2 a3 = some h') : Eb (Ev tb mL d) 114 (92, [.ref a0, d1, .int a2, .int a3], [], h) h' none := by
  unfold f_River_letHourGo_b92 at e
  refine eb_n 2 (94, [.ref a0, d1, .int a2, .int a3], [.ref a0, .int a3], h) (rfl) ?_
  obtain ⟨g1, e⟩ := gd_some e
  refine eb_g (p := hT h a0 = 3) (97, [.ref a0, d1, .int a2, .int a3], [.int (hI h a0 7), .int a3], h) rfl g1 ?_
  refine eb_b (c := (hI h a0 7) ≤ a3) (125, [.ref a0, d1, .int a2, .int a3], [], h) (100, [.ref a0, d1, .int a2, .int a3], [], h) rfl (fun c2 => ?_) (fun c2 => ?_)
  · replace e := ite_t c2 e
    exact f_River_letHourGo_b125_ev d hd   _ _ _ _ _ e
  · replace e := ite_f c2 e
    refine eb_n 2 (102, [.ref a0, d1, .int a2, .int a3], [.int (nI 4), .int a3], h) (rfl) ?_
    refine eb_b (c := (nI 4) ≤ a3) (125, [.ref a0, d1, .int a2, .int a3], [], h) (105, [.ref a0, d1, .int a2, .int a3], [], h) rfl (fun c3 => ?_) (fun c3 => ?_)
    · replace e := ite_t c3 e
      exact f_River_letHourGo_b125_ev d hd   _ _ _ _ _ e
    · replace e := ite_f c3 e
      refine eb_n 1 (106, [.ref a0, d1, .int a2, .int a3], [.ref a0], h) (rfl) ?_
      refine eb_g (p := hT h a0 = 3) (109, [.ref a0, d1, .int a2, .int a3], [.ref (hR h a0 1)], h) rfl g1 ?_
      refine eb_n 1 (110, [.ref a0, d1, .int a2, .int a3], [.int a3, .ref (hR h a0 1)], h) (rfl) ?_
      obtain ⟨g4, e⟩ := gd_some e
      refine eb_g (p := hT h (hR h a0 1) = 105 ∧ inb a3 (hL h (hR h a0 1))) (111, [.ref a0, d1, .int a2, .int a3], [.ref (hR h (hR h a0 1) (ix a3))], h) rfl g4 ?_
      refine eb_n 2 (113, [.ref a0, d1, .int a2, .int a3], [.ref a0, .int a2, .ref (hR h (hR h a0 1) (ix a3))], h) (rfl) ?_
      refine eb_g (p := hT h a0 = 3) (116, [.ref a0, d1, .int a2, .int a3], [.ref (hR h a0 4), .int a2, .ref (hR h (hR h a0 1) (ix a3))], h) rfl g1 ?_
      obtain ⟨g5, e⟩ := gd_some e
      obtain ⟨h6, eh6, e⟩ := bv_some e
      refine eb_cg (p := hT h (hR h (hR h a0 1) (ix a3)) = 5) rfl g5 (f_Rack_letDry_ev d (Nat.le_trans (by decide) hd) eh6) ?_
      show Eb _ 114 (119, [.ref a0, d1, .int a2, .int a3], [], h6) _ _
      obtain ⟨x7, hx7, e⟩ := lq_some e
      refine eb_n 1 (122, [.ref a0, d1, .int a2, .int x7], [], h6) (by subst hx7; rfl) ?_
      refine eb_n 1 (92, [.ref a0, d1, .int a2, .int x7], [], h6) (rfl) ?_
      exact hk92 _ _ _ _ _ e
set_option maxRecDepth 100000 in
set_option maxHeartbeats 4000000 in
theorem f_River_letHourGo_l92_ev {h' : AH} (d : Nat) (hd : 5 ≤ d)  : ∀ (n : Nat) (h : AH) (a0 : Nat) (a2 : Int32) (a3 : Int32)  (d1 : Value) (_ : f_River_letHourGo_l92  n h a0 a2 a3 = some h'), Eb (Ev tb mL d) 114 (92, [.ref a0, d1, .int a2, .int a3], [], h) h' none := by
  intro n
  induction n with
  | zero => intro h a0 a2 a3 d1 e; exact nomatch e
  | succ n ih =>
    intro h a0 a2 a3 d1 e
    exact f_River_letHourGo_b92_ev d hd _ (fun h a0 a2 a3 d1 e => ih h a0 a2 a3 d1 e) h a0 a2 a3 d1 e
set_option maxRecDepth 100000 in
set_option maxHeartbeats 4000000 in
theorem f_River_letHourGo_b80_ev {h' : AH} (d : Nat) (hd : 5 ≤ d)  (h : AH) (a0 : Nat)  (d1 : Value) (d2 : Value) (d3 : Value) (e : f_River_letHourGo_b80  h a0 = some h') : Eb (Ev tb mL d) 114 (80, [.ref a0, d1, d2, d3], [], h) h' none := by
  unfold f_River_letHourGo_b80 at e
  refine eb_n 1 (81, [.ref a0, d1, d2, d3], [.ref a0], h) (rfl) ?_
  obtain ⟨g1, e⟩ := gd_some e
  refine eb_g (p := hT h a0 = 3) (84, [.ref a0, d1, d2, d3], [.ref (hR h a0 5)], h) rfl g1 ?_
  refine eb_n 1 (85, [.ref a0, d1, d2, d3], [.ref a0, .ref (hR h a0 5)], h) (rfl) ?_
  obtain ⟨h2, r3, eh2, e⟩ := bn_some e
  refine eb_cg (p := hT h a0 = 3) rfl g1 (f_River_hourOfDay_ev d (Nat.le_trans (by decide) hd) eh2) ?_
  show Eb _ 114 (88, [.ref a0, d1, d2, d3], [.int r3, .ref (hR h a0 5)], h2) _ _
  obtain ⟨g4, e⟩ := gd_some e
  refine eb_g (p := hT h2 (hR h a0 5) = 101 ∧ inb r3 (hL h2 (hR h a0 5))) (89, [.ref a0, d1, d2, d3], [.int (hI h2 (hR h a0 5) (ix r3))], h2) rfl g4 ?_
  obtain ⟨x5, hx5, e⟩ := lq_some e
  refine eb_n 1 (90, [.ref a0, d1, .int x5, d3], [], h2) (by subst hx5; rfl) ?_
  refine eb_n 2 (92, [.ref a0, d1, .int x5, .int (nI 0)], [], h2) (rfl) ?_
  exact f_River_letHourGo_l92_ev d hd   FU _ _ _ _ _ e
set_option maxRecDepth 100000 in
set_option maxHeartbeats 4000000 in
theorem f_River_letHourGo_b50_ev {h' : AH} (d : Nat) (hd : 5 ≤ d) (k50 : AH → Nat → Int32 → Option AH) (hk50 : ∀ (h : AH) (a0 : Nat) (a2 : Int32)  (d1 : Value) (d3 : Value), k50 h a0 a2 = some h' → Eb (Ev tb mL d) 114 (50, [.ref a0, d1, .int a2, d3], [], h) h' none)  (h : AH) (a0 : Nat) (a2 : Int32)  (d1 : Value) (d3 : Value) (e : f_River_letHourGo_b50 k50 h a0 a2 = some h') : Eb (Ev tb mL d) 114 (50, [.ref a0, d1, .int a2, d3], [], h) h' none := by
  unfold f_River_letHourGo_b50 at e
  refine eb_n 2 (52, [.ref a0, d1, .int a2, d3], [.ref a0, .int a2], h) (rfl) ?_
  obtain ⟨g1, e⟩ := gd_some e
  refine eb_g (p := hT h a0 = 3) (55, [.ref a0, d1, .int a2, d3], [.int (hI h a0 8), .int a2], h) rfl g1 ?_
  refine eb_b (c := (hI h a0 8) ≤ a2) (80, [.ref a0, d1, .int a2, d3], [], h) (58, [.ref a0, d1, .int a2, d3], [], h) rfl (fun c2 => ?_) (fun c2 => ?_)
  · replace e := ite_t c2 e
    exact f_River_letHourGo_b80_ev d hd   _ _ _ _ _ e
  · replace e := ite_f c2 e
    refine eb_n 2 (61, [.ref a0, d1, .int a2, d3], [.int (nI 8), .int a2], h) (rfl) ?_
    refine eb_b (c := (nI 8) ≤ a2) (80, [.ref a0, d1, .int a2, d3], [], h) (64, [.ref a0, d1, .int a2, d3], [], h) rfl (fun c3 => ?_) (fun c3 => ?_)
    · replace e := ite_t c3 e
      exact f_River_letHourGo_b80_ev d hd   _ _ _ _ _ e
    · replace e := ite_f c3 e
      refine eb_n 2 (66, [.ref a0, d1, .int a2, d3], [.ref a0, .ref a0], h) (rfl) ?_
      refine eb_g (p := hT h a0 = 3) (69, [.ref a0, d1, .int a2, d3], [.ref (hR h a0 2), .ref a0], h) rfl g1 ?_
      refine eb_n 1 (70, [.ref a0, d1, .int a2, d3], [.int a2, .ref (hR h a0 2), .ref a0], h) (rfl) ?_
      obtain ⟨g4, e⟩ := gd_some e
      refine eb_g (p := hT h (hR h a0 2) = 106 ∧ inb a2 (hL h (hR h a0 2))) (71, [.ref a0, d1, .int a2, d3], [.ref (hR h (hR h a0 2) (ix a2)), .ref a0], h) rfl g4 ?_
      obtain ⟨h5, eh5, e⟩ := bv_some e
      refine eb_cg (p := hT h a0 = 3) rfl g1 (f_River_letPeel_ev d (Nat.le_trans (by decide) hd) eh5) ?_
      show Eb _ 114 (74, [.ref a0, d1, .int a2, d3], [], h5) _ _
      obtain ⟨x6, hx6, e⟩ := lq_some e
      refine eb_n 1 (77, [.ref a0, d1, .int x6, d3], [], h5) (by subst hx6; rfl) ?_
      refine eb_n 1 (50, [.ref a0, d1, .int x6, d3], [], h5) (rfl) ?_
      exact hk50 _ _ _ _ _ e
set_option maxRecDepth 100000 in
set_option maxHeartbeats 4000000 in
theorem f_River_letHourGo_l50_ev {h' : AH} (d : Nat) (hd : 5 ≤ d)  : ∀ (n : Nat) (h : AH) (a0 : Nat) (a2 : Int32)  (d1 : Value) (d3 : Value) (_ : f_River_letHourGo_l50  n h a0 a2 = some h'), Eb (Ev tb mL d) 114 (50, [.ref a0, d1, .int a2, d3], [], h) h' none := by
  intro n
  induction n with
  | zero => intro h a0 a2 d1 d3 e; exact nomatch e
  | succ n ih =>
    intro h a0 a2 d1 d3 e
    exact f_River_letHourGo_b50_ev d hd _ (fun h a0 a2 d1 d3 e => ih h a0 a2 d1 d3 e) h a0 a2 d1 d3 e
set_option maxRecDepth 100000 in
set_option maxHeartbeats 4000000 in
theorem f_River_letHourGo_b48_ev {h' : AH} (d : Nat) (hd : 5 ≤ d)  (h : AH) (a0 : Nat)  (d1 : Value) (d2 : Value) (d3 : Value) (e : f_River_letHourGo_b48  h a0 = some h') : Eb (Ev tb mL d) 114 (48, [.ref a0, d1, d2, d3], [], h) h' none := by
  unfold f_River_letHourGo_b48 at e
  refine eb_n 2 (50, [.ref a0, d1, .int (nI 0), d3], [], h) (rfl) ?_
  exact f_River_letHourGo_l50_ev d hd   FU _ _ _ _ _ e
set_option maxRecDepth 100000 in
set_option maxHeartbeats 4000000 in
theorem f_River_letHourGo_b32_ev {h' : AH} (d : Nat) (hd : 5 ≤ d)  (h : AH) (a0 : Nat) (a1 : Nat)  (d2 : Value) (d3 : Value) (e : f_River_letHourGo_b32  h a0 a1 = some h') : Eb (Ev tb mL d) 114 (32, [.ref a0, .ref a1, d2, d3], [], h) h' none := by
  unfold f_River_letHourGo_b32 at e
  refine eb_n 2 (34, [.ref a0, .ref a1, d2, d3], [.ref a0, .ref a1], h) (rfl) ?_
  obtain ⟨g1, e⟩ := gd_some e
  obtain ⟨h2, eh2, e⟩ := bv_some e
  refine eb_cg (p := hT h a1 = 2) rfl g1 (f_Orders_carryOut_ev d (Nat.le_trans (by decide) hd) eh2) ?_
  show Eb _ 114 (37, [.ref a0, .ref a1, d2, d3], [], h2) _ _
  refine eb_n 1 (38, [.ref a0, .ref a1, d2, d3], [.ref a0], h2) (rfl) ?_
  obtain ⟨g3, e⟩ := gd_some e
  obtain ⟨h4, r5, eh4, e⟩ := bn_some e
  refine eb_cg (p := hT h2 a0 = 3) rfl g3 (f_River_hourOfDay_ev d (Nat.le_trans (by decide) hd) eh4) ?_
  show Eb _ 114 (41, [.ref a0, .ref a1, d2, d3], [.int r5], h4) _ _
  refine eb_b (c := ¬ r5 = 0) (48, [.ref a0, .ref a1, d2, d3], [], h4) (44, [.ref a0, .ref a1, d2, d3], [], h4) rfl (fun c6 => ?_) (fun c6 => ?_)
  · replace e := ite_t c6 e
    exact f_River_letHourGo_b48_ev d hd   _ _ _ _ _ e
  · replace e := ite_f c6 e
    refine eb_n 1 (45, [.ref a0, .ref a1, d2, d3], [.ref a0], h4) (rfl) ?_
    obtain ⟨g7, e⟩ := gd_some e
    obtain ⟨h8, eh8, e⟩ := bv_some e
    refine eb_cg (p := hT h4 a0 = 3) rfl g7 (f_River_growSticks_ev d (Nat.le_trans (by decide) hd) eh8) ?_
    show Eb _ 114 (48, [.ref a0, .ref a1, d2, d3], [], h8) _ _
    exact f_River_letHourGo_b48_ev d hd   _ _ _ _ _ e
set_option maxRecDepth 100000 in
set_option maxHeartbeats 4000000 in
theorem f_River_letHourGo_b2_ev {h' : AH} (d : Nat) (hd : 5 ≤ d) (k2 : AH → Nat → Nat → Int32 → Option AH) (hk2 : ∀ (h : AH) (a0 : Nat) (a1 : Nat) (a2 : Int32)  (d3 : Value), k2 h a0 a1 a2 = some h' → Eb (Ev tb mL d) 114 (2, [.ref a0, .ref a1, .int a2, d3], [], h) h' none)  (h : AH) (a0 : Nat) (a1 : Nat) (a2 : Int32)  (d3 : Value) (e : f_River_letHourGo_b2 k2 h a0 a1 a2 = some h') : Eb (Ev tb mL d) 114 (2, [.ref a0, .ref a1, .int a2, d3], [], h) h' none := by
  unfold f_River_letHourGo_b2 at e
  refine eb_n 2 (4, [.ref a0, .ref a1, .int a2, d3], [.ref a0, .int a2], h) (rfl) ?_
  obtain ⟨g1, e⟩ := gd_some e
  refine eb_g (p := hT h a0 = 3) (7, [.ref a0, .ref a1, .int a2, d3], [.int (hI h a0 8), .int a2], h) rfl g1 ?_
  refine eb_b (c := (hI h a0 8) ≤ a2) (32, [.ref a0, .ref a1, .int a2, d3], [], h) (10, [.ref a0, .ref a1, .int a2, d3], [], h) rfl (fun c2 => ?_) (fun c2 => ?_)
  · replace e := ite_t c2 e
    exact f_River_letHourGo_b32_ev d hd   _ _ _ _ _ e
  · replace e := ite_f c2 e
    refine eb_n 2 (13, [.ref a0, .ref a1, .int a2, d3], [.int (nI 8), .int a2], h) (rfl) ?_
    refine eb_b (c := (nI 8) ≤ a2) (32, [.ref a0, .ref a1, .int a2, d3], [], h) (16, [.ref a0, .ref a1, .int a2, d3], [], h) rfl (fun c3 => ?_) (fun c3 => ?_)
    · replace e := ite_t c3 e
      exact f_River_letHourGo_b32_ev d hd   _ _ _ _ _ e
    · replace e := ite_f c3 e
      refine eb_n 1 (17, [.ref a0, .ref a1, .int a2, d3], [.ref a0], h) (rfl) ?_
      refine eb_g (p := hT h a0 = 3) (20, [.ref a0, .ref a1, .int a2, d3], [.ref (hR h a0 2)], h) rfl g1 ?_
      refine eb_n 1 (21, [.ref a0, .ref a1, .int a2, d3], [.int a2, .ref (hR h a0 2)], h) (rfl) ?_
      obtain ⟨g4, e⟩ := gd_some e
      refine eb_g (p := hT h (hR h a0 2) = 106 ∧ inb a2 (hL h (hR h a0 2))) (22, [.ref a0, .ref a1, .int a2, d3], [.ref (hR h (hR h a0 2) (ix a2))], h) rfl g4 ?_
      refine eb_n 1 (23, [.ref a0, .ref a1, .int a2, d3], [.int (nI 0), .ref (hR h (hR h a0 2) (ix a2))], h) (rfl) ?_
      obtain ⟨g5, e⟩ := gd_some e
      obtain ⟨h6, eh6, e⟩ := lq_some e
      refine eb_g (p := hT h (hR h (hR h a0 2) (ix a2)) = 6 ∧ ((nI 0) = 0 ∨ (nI 0) = 1)) (26, [.ref a0, .ref a1, .int a2, d3], [], h6) (by rw [eh6]; rfl) g5 ?_
      obtain ⟨x7, hx7, e⟩ := lq_some e
      refine eb_n 1 (29, [.ref a0, .ref a1, .int x7, d3], [], h6) (by subst hx7; rfl) ?_
      refine eb_n 1 (2, [.ref a0, .ref a1, .int x7, d3], [], h6) (rfl) ?_
      exact hk2 _ _ _ _ _ e
set_option maxRecDepth 100000 in
set_option maxHeartbeats 4000000 in
theorem f_River_letHourGo_l2_ev {h' : AH} (d : Nat) (hd : 5 ≤ d)  : ∀ (n : Nat) (h : AH) (a0 : Nat) (a1 : Nat) (a2 : Int32)  (d3 : Value) (_ : f_River_letHourGo_l2  n h a0 a1 a2 = some h'), Eb (Ev tb mL d) 114 (2, [.ref a0, .ref a1, .int a2, d3], [], h) h' none := by
  intro n
  induction n with
  | zero => intro h a0 a1 a2 d3 e; exact nomatch e
  | succ n ih =>
    intro h a0 a1 a2 d3 e
    exact f_River_letHourGo_b2_ev d hd _ (fun h a0 a1 a2 d3 e => ih h a0 a1 a2 d3 e) h a0 a1 a2 d3 e
set_option maxRecDepth 100000 in
set_option maxHeartbeats 4000000 in
theorem f_River_letHourGo_ev (d0 : Nat) (hd0 : 6 ≤ d0) {h' : AH} {h : AH} {a0 : Nat} {a1 : Nat} (e : f_River_letHourGo h a0 a1 = some h') : Ev tb mL d0 114 [.ref a0, .ref a1] h h' none := by
  obtain ⟨d, rfl⟩ : ∃ d, d0 = d + 1 := ⟨d0 - 1, by omega⟩
  have hd : 5 ≤ d := by omega
  refine ⟨Nat.le_of_ble_eq_true rfl, ?_⟩
  show Eb (Ev tb mL d) 114 (0, [.ref a0, .ref a1, .retAddr 0, .retAddr 0], [], h) h' none
  unfold f_River_letHourGo at e
  refine eb_n 2 (2, [.ref a0, .ref a1, .int (nI 0), .retAddr 0], [], h) (rfl) ?_
  exact f_River_letHourGo_l2_ev d hd   FU _ _ _ _ _ e
set_option maxRecDepth 100000 in
set_option maxHeartbeats 4000000 in
theorem f_QuillBoats_letHoursGo_b2_ev {h' : AH} (d : Nat) (hd : 6 ≤ d) (k2 : AH → Nat → Nat → Int32 → Int32 → Option AH) (hk2 : ∀ (h : AH) (a0 : Nat) (a1 : Nat) (a2 : Int32) (a3 : Int32)  , k2 h a0 a1 a2 a3 = some h' → Eb (Ev tb mL d) 68 (2, [.ref a0, .ref a1, .int a2, .int a3], [], h) h' none)  (h : AH) (a0 : Nat) (a1 : Nat) (a2 : Int32) (a3 : Int32)   (e : f_QuillBoats_letHoursGo_b2 k2 h a0 a1 a2 a3 = some h') : Eb (Ev tb mL d) 68 (2, [.ref a0, .ref a1, .int a2, .int a3], [], h) h' none := by
  unfold f_QuillBoats_letHoursGo_b2 at e
  refine eb_n 2 (4, [.ref a0, .ref a1, .int a2, .int a3], [.int a2, .int a3], h) (rfl) ?_
  refine eb_b (c := a2 ≤ a3) (21, [.ref a0, .ref a1, .int a2, .int a3], [], h) (7, [.ref a0, .ref a1, .int a2, .int a3], [], h) rfl (fun c1 => ?_) (fun c1 => ?_)
  · replace e := ite_t c1 e
    rw [sv_inj e]
    exact eb_r rfl
  · replace e := ite_f c1 e
    refine eb_n 2 (9, [.ref a0, .ref a1, .int a2, .int a3], [.ref a0, .ref a1], h) (rfl) ?_
    obtain ⟨g2, e⟩ := gd_some e
    refine eb_g (p := hT h a0 = 1) (12, [.ref a0, .ref a1, .int a2, .int a3], [.ref (hR h a0 3), .ref a1], h) rfl g2 ?_
    obtain ⟨g3, e⟩ := gd_some e
    obtain ⟨h4, eh4, e⟩ := bv_some e
    refine eb_cg (p := hT h a1 = 3) rfl g3 (f_River_letHourGo_ev d (Nat.le_trans (by decide) hd) eh4) ?_
    show Eb _ 68 (15, [.ref a0, .ref a1, .int a2, .int a3], [], h4) _ _
    obtain ⟨x5, hx5, e⟩ := lq_some e
    refine eb_n 1 (18, [.ref a0, .ref a1, .int a2, .int x5], [], h4) (by subst hx5; rfl) ?_
    refine eb_n 1 (2, [.ref a0, .ref a1, .int a2, .int x5], [], h4) (rfl) ?_
    exact hk2 _ _ _ _ _  e
set_option maxRecDepth 100000 in
set_option maxHeartbeats 4000000 in
theorem f_QuillBoats_letHoursGo_l2_ev {h' : AH} (d : Nat) (hd : 6 ≤ d)  : ∀ (n : Nat) (h : AH) (a0 : Nat) (a1 : Nat) (a2 : Int32) (a3 : Int32)   (_ : f_QuillBoats_letHoursGo_l2  n h a0 a1 a2 a3 = some h'), Eb (Ev tb mL d) 68 (2, [.ref a0, .ref a1, .int a2, .int a3], [], h) h' none := by
  intro n
  induction n with
  | zero => intro h a0 a1 a2 a3  e; exact nomatch e
  | succ n ih =>
    intro h a0 a1 a2 a3  e
    exact f_QuillBoats_letHoursGo_b2_ev d hd _ (fun h a0 a1 a2 a3  e => ih h a0 a1 a2 a3  e) h a0 a1 a2 a3  e
set_option maxRecDepth 100000 in
set_option maxHeartbeats 4000000 in
theorem f_QuillBoats_letHoursGo_ev (d0 : Nat) (hd0 : 7 ≤ d0) {h' : AH} {h : AH} {a0 : Nat} {a1 : Nat} {a2 : Int32} (e : f_QuillBoats_letHoursGo h a0 a1 a2 = some h') : Ev tb mL d0 68 [.ref a0, .ref a1, .int a2] h h' none := by
  obtain ⟨d, rfl⟩ : ∃ d, d0 = d + 1 := ⟨d0 - 1, by omega⟩
  have hd : 6 ≤ d := by omega
  refine ⟨Nat.le_of_ble_eq_true rfl, ?_⟩
  show Eb (Ev tb mL d) 68 (0, [.ref a0, .ref a1, .int a2, .retAddr 0], [], h) h' none
  unfold f_QuillBoats_letHoursGo at e
  refine eb_n 2 (2, [.ref a0, .ref a1, .int a2, .int (nI 0)], [], h) (rfl) ?_
  exact f_QuillBoats_letHoursGo_l2_ev d hd   FU _ _ _ _ _  e
set_option maxRecDepth 100000 in
set_option maxHeartbeats 4000000 in
theorem f_QuillBoats_pass_ev (d0 : Nat) (hd0 : 8 ≤ d0) {h' : AH} {r : Int32} {h : AH} {a0 : Nat} {a1 : Int32} (e : f_QuillBoats_pass h a0 a1 = some (h', r)) : Ev tb mL d0 19 [.ref a0, .int a1] h h' (some (.int r)) := by
  obtain ⟨d, rfl⟩ : ∃ d, d0 = d + 1 := ⟨d0 - 1, by omega⟩
  have hd : 7 ≤ d := by omega
  refine ⟨Nat.le_of_ble_eq_true rfl, ?_⟩
  show Eb (Ev tb mL d) 19 (0, [.ref a0, .int a1, .retAddr 0], [], h) h' (some (.int r))
  unfold f_QuillBoats_pass at e
  refine eb_n 3 (4, [.ref a0, .int a1, .retAddr 0], [.int (nI 120), .int (nI 1), .int a1], h) (rfl) ?_
  obtain ⟨h1, r2, eh1, e⟩ := bn_some e
  refine eb_c rfl (f_QuillBoats_isWithin_ev d (Nat.le_trans (by decide) hd) eh1) ?_
  show Eb _ 19 (7, [.ref a0, .int a1, .retAddr 0], [.int r2], h1) _ _
  refine eb_b (c := ¬ r2 = 0) (20, [.ref a0, .int a1, .retAddr 0], [], h1) (10, [.ref a0, .int a1, .retAddr 0], [], h1) rfl (fun c3 => ?_) (fun c3 => ?_)
  · replace e := ite_t c3 e
    refine eb_n 1 (21, [.ref a0, .int a1, .retAddr 0], [.ref a0], h1) (rfl) ?_
    obtain ⟨g4, e⟩ := gd_some e
    refine eb_g (p := hT h1 a0 = 1) (24, [.ref a0, .int a1, .retAddr 0], [.ref (hR h1 a0 4)], h1) rfl g4 ?_
    obtain ⟨g5, e⟩ := gd_some e
    refine eb_g (p := hT h1 (hR h1 a0 4) = 3) (27, [.ref a0, .int a1, .retAddr 0], [.int (hI h1 (hR h1 a0 4) 15)], h1) rfl g5 ?_
    obtain ⟨x6, hx6, e⟩ := lq_some e
    refine eb_n 1 (28, [.ref a0, .int a1, .int x6], [], h1) (by subst hx6; rfl) ?_
    refine eb_n 2 (30, [.ref a0, .int a1, .int x6], [.ref a0, .ref a0], h1) (rfl) ?_
    refine eb_g (p := hT h1 a0 = 1) (33, [.ref a0, .int a1, .int x6], [.ref (hR h1 a0 4), .ref a0], h1) rfl g4 ?_
    refine eb_n 1 (34, [.ref a0, .int a1, .int x6], [.int a1, .ref (hR h1 a0 4), .ref a0], h1) (rfl) ?_
    obtain ⟨h7, eh7, e⟩ := bv_some e
    refine eb_cg (p := hT h1 a0 = 1) rfl g4 (f_QuillBoats_letHoursGo_ev d (Nat.le_trans (by decide) hd) eh7) ?_
    show Eb _ 19 (37, [.ref a0, .int a1, .int x6], [], h7) _ _
    refine eb_n 1 (38, [.ref a0, .int a1, .int x6], [.ref a0], h7) (rfl) ?_
    obtain ⟨g8, e⟩ := gd_some e
    refine eb_g (p := hT h7 a0 = 1) (41, [.ref a0, .int a1, .int x6], [.ref (hR h7 a0 4)], h7) rfl g8 ?_
    obtain ⟨g9, e⟩ := gd_some e
    refine eb_g (p := hT h7 (hR h7 a0 4) = 3) (44, [.ref a0, .int a1, .int x6], [.int (hI h7 (hR h7 a0 4) 15)], h7) rfl g9 ?_
    refine eb_n 2 (46, [.ref a0, .int a1, .int x6], [.int ((hI h7 (hR h7 a0 4) 15) - x6)], h7) (rfl) ?_
    rw [(sp_inj e).1, (sp_inj e).2]
    exact eb_rg (p := nrm 0 ((hI h7 (hR h7 a0 4) 15) - x6)) rfl (nrm_0 _)
  · replace e := ite_f c3 e
    exact nomatch e
set_option maxRecDepth 100000 in
set_option maxHeartbeats 4000000 in
theorem f_Law_act_ev (d0 : Nat) (hd0 : 9 ≤ d0) {h' : AH} {r : Int32} {h : AH} {a0 : Nat} {a1 : Nat} {a2 : Int32} (e : f_Law_act h a0 a1 a2 = some (h', r)) : Ev tb mL d0 6 [.ref a0, .ref a1, .int a2] h h' (some (.int r)) := by
  obtain ⟨d, rfl⟩ : ∃ d, d0 = d + 1 := ⟨d0 - 1, by omega⟩
  have hd : 8 ≤ d := by omega
  refine ⟨Nat.le_of_ble_eq_true rfl, ?_⟩
  show Eb (Ev tb mL d) 6 (0, [.ref a0, .ref a1, .int a2, .retAddr 0, .retAddr 0, .retAddr 0, .retAddr 0, .retAddr 0, .retAddr 0, .retAddr 0, .retAddr 0, .retAddr 0, .retAddr 0], [], h) h' (some (.int r))
  unfold f_Law_act at e
  refine eb_n 4 (6, [.ref a0, .ref a1, .int a2, .retAddr 0, .retAddr 0, .retAddr 0, .retAddr 0, .retAddr 0, .retAddr 0, .retAddr 0, .retAddr 0, .retAddr 0, .retAddr 0], [.int (nI 8), .int (a2 >>> ((nI 7) &&& 31))], h) (rfl) ?_
  obtain ⟨h1, r2, eh1, e⟩ := bn_some e
  refine eb_c rfl (f_Law_below_ev d (Nat.le_trans (by decide) hd) eh1) ?_
  show Eb _ 6 (9, [.ref a0, .ref a1, .int a2, .retAddr 0, .retAddr 0, .retAddr 0, .retAddr 0, .retAddr 0, .retAddr 0, .retAddr 0, .retAddr 0, .retAddr 0, .retAddr 0], [.int r2], h1) _ _
  by_cases c3 : r2 = nI 0
  · replace e := ite_t c3 e
    refine eb_n 1 (48, [.ref a0, .ref a1, .int a2, .retAddr 0, .retAddr 0, .retAddr 0, .retAddr 0, .retAddr 0, .retAddr 0, .retAddr 0, .retAddr 0, .retAddr 0, .retAddr 0], [], h1) (by rw [c3]; rfl) ?_
    refine eb_n 4 (52, [.ref a0, .ref a1, .int a2, .retAddr 0, .retAddr 0, .retAddr 0, .retAddr 0, .retAddr 0, .retAddr 0, .retAddr 0, .retAddr 0, .retAddr 0, .retAddr 0], [.ref a1, .int (a2 >>> ((nI 1) &&& 31))], h1) (rfl) ?_
    obtain ⟨g4, e⟩ := gd_some e
    refine eb_g (p := hT h1 a1 = 13) (55, [.ref a0, .ref a1, .int a2, .retAddr 0, .retAddr 0, .retAddr 0, .retAddr 0, .retAddr 0, .retAddr 0, .retAddr 0, .retAddr 0, .retAddr 0, .retAddr 0], [.ref (hR h1 a1 15), .int (a2 >>> ((nI 1) &&& 31))], h1) rfl g4 ?_
    obtain ⟨g5, e⟩ := gd_some e
    refine eb_g (p := hT h1 (hR h1 a1 15) = 109) (56, [.ref a0, .ref a1, .int a2, .retAddr 0, .retAddr 0, .retAddr 0, .retAddr 0, .retAddr 0, .retAddr 0, .retAddr 0, .retAddr 0, .retAddr 0, .retAddr 0], [.int (nI (hL h1 (hR h1 a1 15))), .int (a2 >>> ((nI 1) &&& 31))], h1) rfl g5 ?_
    obtain ⟨h6, r7, eh6, e⟩ := bn_some e
    refine eb_c rfl (f_Law_below_ev d (Nat.le_trans (by decide) hd) eh6) ?_
    show Eb _ 6 (59, [.ref a0, .ref a1, .int a2, .retAddr 0, .retAddr 0, .retAddr 0, .retAddr 0, .retAddr 0, .retAddr 0, .retAddr 0, .retAddr 0, .retAddr 0, .retAddr 0], [.int r7], h6) _ _
    refine eb_n 3 (62, [.ref a0, .ref a1, .int a2, .int r7, .retAddr 0, .retAddr 0, .retAddr 0, .retAddr 0, .retAddr 0, .retAddr 0, .retAddr 0, .retAddr 0, .retAddr 0], [.int r7, .ref a1], h6) (rfl) ?_
    obtain ⟨g8, e⟩ := gd_some e
    obtain ⟨h9, r10, eh9, e⟩ := bn_some e
    refine eb_cg (p := hT h6 a1 = 13) rfl g8 (f_Sim_canWhet_ev d (Nat.le_trans (by decide) hd) eh9) ?_
    show Eb _ 6 (65, [.ref a0, .ref a1, .int a2, .int r7, .retAddr 0, .retAddr 0, .retAddr 0, .retAddr 0, .retAddr 0, .retAddr 0, .retAddr 0, .retAddr 0, .retAddr 0], [.int r10], h9) _ _
    refine eb_b (c := ¬ r10 = 0) (70, [.ref a0, .ref a1, .int a2, .int r7, .retAddr 0, .retAddr 0, .retAddr 0, .retAddr 0, .retAddr 0, .retAddr 0, .retAddr 0, .retAddr 0, .retAddr 0], [], h9) (68, [.ref a0, .ref a1, .int a2, .int r7, .retAddr 0, .retAddr 0, .retAddr 0, .retAddr 0, .retAddr 0, .retAddr 0, .retAddr 0, .retAddr 0, .retAddr 0], [], h9) rfl (fun c11 => ?_) (fun c11 => ?_)
    · replace e := ite_t c11 e
      refine eb_n 2 (72, [.ref a0, .ref a1, .int a2, .int r7, .retAddr 0, .retAddr 0, .retAddr 0, .retAddr 0, .retAddr 0, .retAddr 0, .retAddr 0, .retAddr 0, .retAddr 0], [.int r7, .ref a1], h9) (rfl) ?_
      obtain ⟨g12, e⟩ := gd_some e
      obtain ⟨h13, eh13, e⟩ := bv_some e
      refine eb_cg (p := hT h9 a1 = 13) rfl g12 (f_Sim_whet_ev d (Nat.le_trans (by decide) hd) eh13) ?_
      show Eb _ 6 (75, [.ref a0, .ref a1, .int a2, .int r7, .retAddr 0, .retAddr 0, .retAddr 0, .retAddr 0, .retAddr 0, .retAddr 0, .retAddr 0, .retAddr 0, .retAddr 0], [], h13) _ _
      refine eb_n 2 (77, [.ref a0, .ref a1, .int a2, .int r7, .retAddr 0, .retAddr 0, .retAddr 0, .retAddr 0, .retAddr 0, .retAddr 0, .retAddr 0, .retAddr 0, .retAddr 0], [.int r7, .ref a0], h13) (rfl) ?_
      obtain ⟨g14, e⟩ := gd_some e
      obtain ⟨h15, r16, eh15, e⟩ := bn_some e
      refine eb_cg (p := hT h13 a0 = 1) rfl g14 (f_QuillBoats_whet_ev d (Nat.le_trans (by decide) hd) eh15) ?_
      show Eb _ 6 (80, [.ref a0, .ref a1, .int a2, .int r7, .retAddr 0, .retAddr 0, .retAddr 0, .retAddr 0, .retAddr 0, .retAddr 0, .retAddr 0, .retAddr 0, .retAddr 0], [.int r16], h15) _ _
      refine eb_n 1 (81, [.ref a0, .ref a1, .int a2, .int r7, .retAddr 0, .retAddr 0, .retAddr 0, .retAddr 0, .retAddr 0, .retAddr 0, .retAddr 0, .retAddr 0, .retAddr 0], [.ref a1, .int r16], h15) (rfl) ?_
      obtain ⟨g17, e⟩ := gd_some e
      refine eb_g (p := hT h15 a1 = 13) (84, [.ref a0, .ref a1, .int a2, .int r7, .retAddr 0, .retAddr 0, .retAddr 0, .retAddr 0, .retAddr 0, .retAddr 0, .retAddr 0, .retAddr 0, .retAddr 0], [.int (hI h15 a1 1), .int r16], h15) rfl g17 ?_
      refine eb_b (c := ¬ r16 = (hI h15 a1 1)) (91, [.ref a0, .ref a1, .int a2, .int r7, .retAddr 0, .retAddr 0, .retAddr 0, .retAddr 0, .retAddr 0, .retAddr 0, .retAddr 0, .retAddr 0, .retAddr 0], [], h15) (87, [.ref a0, .ref a1, .int a2, .int r7, .retAddr 0, .retAddr 0, .retAddr 0, .retAddr 0, .retAddr 0, .retAddr 0, .retAddr 0, .retAddr 0, .retAddr 0], [], h15) rfl (fun c18 => ?_) (fun c18 => ?_)
      · replace e := ite_t c18 e
        refine eb_n 1 (92, [.ref a0, .ref a1, .int a2, .int r7, .retAddr 0, .retAddr 0, .retAddr 0, .retAddr 0, .retAddr 0, .retAddr 0, .retAddr 0, .retAddr 0, .retAddr 0], [.int (nI 0)], h15) (rfl) ?_
        rw [(sp_inj e).1, (sp_inj e).2]
        exact eb_rg (p := nrm 3 (nI 0)) rfl nrm_30
      · replace e := ite_f c18 e
        refine eb_n 2 (92, [.ref a0, .ref a1, .int a2, .int r7, .retAddr 0, .retAddr 0, .retAddr 0, .retAddr 0, .retAddr 0, .retAddr 0, .retAddr 0, .retAddr 0, .retAddr 0], [.int (nI 1)], h15) (rfl) ?_
        rw [(sp_inj e).1, (sp_inj e).2]
        exact eb_rg (p := nrm 3 (nI 1)) rfl nrm_31
    · replace e := ite_f c11 e
      refine eb_n 1 (69, [.ref a0, .ref a1, .int a2, .int r7, .retAddr 0, .retAddr 0, .retAddr 0, .retAddr 0, .retAddr 0, .retAddr 0, .retAddr 0, .retAddr 0, .retAddr 0], [.int (nI 1)], h9) (rfl) ?_
      rw [(sp_inj e).1, (sp_inj e).2]
      exact eb_rg (p := nrm 3 (nI 1)) rfl nrm_31
  replace e := ite_f c3 e
  by_cases c19 : r2 = nI 1
  · replace e := ite_t c19 e
    refine eb_n 1 (93, [.ref a0, .ref a1, .int a2, .retAddr 0, .retAddr 0, .retAddr 0, .retAddr 0, .retAddr 0, .retAddr 0, .retAddr 0, .retAddr 0, .retAddr 0, .retAddr 0], [], h1) (by rw [c19]; rfl) ?_
    refine eb_n 4 (97, [.ref a0, .ref a1, .int a2, .retAddr 0, .retAddr 0, .retAddr 0, .retAddr 0, .retAddr 0, .retAddr 0, .retAddr 0, .retAddr 0, .retAddr 0, .retAddr 0], [.ref a1, .int (a2 >>> ((nI 1) &&& 31))], h1) (rfl) ?_
    obtain ⟨g20, e⟩ := gd_some e
    refine eb_g (p := hT h1 a1 = 13) (100, [.ref a0, .ref a1, .int a2, .retAddr 0, .retAddr 0, .retAddr 0, .retAddr 0, .retAddr 0, .retAddr 0, .retAddr 0, .retAddr 0, .retAddr 0, .retAddr 0], [.ref (hR h1 a1 16), .int (a2 >>> ((nI 1) &&& 31))], h1) rfl g20 ?_
    obtain ⟨g21, e⟩ := gd_some e
    refine eb_g (p := hT h1 (hR h1 a1 16) = 109) (101, [.ref a0, .ref a1, .int a2, .retAddr 0, .retAddr 0, .retAddr 0, .retAddr 0, .retAddr 0, .retAddr 0, .retAddr 0, .retAddr 0, .retAddr 0, .retAddr 0], [.int (nI (hL h1 (hR h1 a1 16))), .int (a2 >>> ((nI 1) &&& 31))], h1) rfl g21 ?_
    obtain ⟨h22, r23, eh22, e⟩ := bn_some e
    refine eb_c rfl (f_Law_below_ev d (Nat.le_trans (by decide) hd) eh22) ?_
    show Eb _ 6 (104, [.ref a0, .ref a1, .int a2, .retAddr 0, .retAddr 0, .retAddr 0, .retAddr 0, .retAddr 0, .retAddr 0, .retAddr 0, .retAddr 0, .retAddr 0, .retAddr 0], [.int r23], h22) _ _
    refine eb_n 5 (110, [.ref a0, .ref a1, .int a2, .retAddr 0, .int r23, .retAddr 0, .retAddr 0, .retAddr 0, .retAddr 0, .retAddr 0, .retAddr 0, .retAddr 0, .retAddr 0], [.int (nI 4), .int (a2 >>> ((nI 2) &&& 31))], h22) (rfl) ?_
    obtain ⟨h24, r25, eh24, e⟩ := bn_some e
    refine eb_c rfl (f_Law_below_ev d (Nat.le_trans (by decide) hd) eh24) ?_
    show Eb _ 6 (113, [.ref a0, .ref a1, .int a2, .retAddr 0, .int r23, .retAddr 0, .retAddr 0, .retAddr 0, .retAddr 0, .retAddr 0, .retAddr 0, .retAddr 0, .retAddr 0], [.int r25], h24) _ _
    refine eb_n 6 (120, [.ref a0, .ref a1, .int a2, .retAddr 0, .int r23, .int r25, .retAddr 0, .retAddr 0, .retAddr 0, .retAddr 0, .retAddr 0, .retAddr 0, .retAddr 0], [.ref a1, .int (a2 >>> ((nI 3) &&& 31)), .int (nI 1)], h24) (rfl) ?_
    obtain ⟨g26, e⟩ := gd_some e
    refine eb_g (p := hT h24 a1 = 13) (123, [.ref a0, .ref a1, .int a2, .retAddr 0, .int r23, .int r25, .retAddr 0, .retAddr 0, .retAddr 0, .retAddr 0, .retAddr 0, .retAddr 0, .retAddr 0], [.ref (hR h24 a1 16), .int (a2 >>> ((nI 3) &&& 31)), .int (nI 1)], h24) rfl g26 ?_
    refine eb_n 1 (125, [.ref a0, .ref a1, .int a2, .retAddr 0, .int r23, .int r25, .retAddr 0, .retAddr 0, .retAddr 0, .retAddr 0, .retAddr 0, .retAddr 0, .retAddr 0], [.int r23, .ref (hR h24 a1 16), .int (a2 >>> ((nI 3) &&& 31)), .int (nI 1)], h24) (rfl) ?_
    obtain ⟨g27, e⟩ := gd_some e
    refine eb_g (p := hT h24 (hR h24 a1 16) = 109 ∧ inb r23 (hL h24 (hR h24 a1 16))) (126, [.ref a0, .ref a1, .int a2, .retAddr 0, .int r23, .int r25, .retAddr 0, .retAddr 0, .retAddr 0, .retAddr 0, .retAddr 0, .retAddr 0, .retAddr 0], [.ref (hR h24 (hR h24 a1 16) (ix r23)), .int (a2 >>> ((nI 3) &&& 31)), .int (nI 1)], h24) rfl g27 ?_
    refine eb_n 1 (127, [.ref a0, .ref a1, .int a2, .retAddr 0, .int r23, .int r25, .retAddr 0, .retAddr 0, .retAddr 0, .retAddr 0, .retAddr 0, .retAddr 0, .retAddr 0], [.int (nI 0), .ref (hR h24 (hR h24 a1 16) (ix r23)), .int (a2 >>> ((nI 3) &&& 31)), .int (nI 1)], h24) (rfl) ?_
    obtain ⟨g28, e⟩ := gd_some e
    refine eb_g (p := hT h24 (hR h24 (hR h24 a1 16) (ix r23)) = 101 ∧ inb (nI 0) (hL h24 (hR h24 (hR h24 a1 16) (ix r23)))) (128, [.ref a0, .ref a1, .int a2, .retAddr 0, .int r23, .int r25, .retAddr 0, .retAddr 0, .retAddr 0, .retAddr 0, .retAddr 0, .retAddr 0, .retAddr 0], [.int (hI h24 (hR h24 (hR h24 a1 16) (ix r23)) (ix (nI 0))), .int (a2 >>> ((nI 3) &&& 31)), .int (nI 1)], h24) rfl g28 ?_
    obtain ⟨h29, r30, eh29, e⟩ := bn_some e
    refine eb_c rfl (f_Law_below_ev d (Nat.le_trans (by decide) hd) eh29) ?_
    show Eb _ 6 (131, [.ref a0, .ref a1, .int a2, .retAddr 0, .int r23, .int r25, .retAddr 0, .retAddr 0, .retAddr 0, .retAddr 0, .retAddr 0, .retAddr 0, .retAddr 0], [.int r30, .int (nI 1)], h29) _ _
    obtain ⟨x31, hx31, e⟩ := lq_some e
    refine eb_n 2 (134, [.ref a0, .ref a1, .int a2, .retAddr 0, .int r23, .int r25, .int x31, .retAddr 0, .retAddr 0, .retAddr 0, .retAddr 0, .retAddr 0, .retAddr 0], [], h29) (by subst hx31; rfl) ?_
    refine eb_n 1 (135, [.ref a0, .ref a1, .int a2, .retAddr 0, .int r23, .int r25, .int x31, .retAddr 0, .retAddr 0, .retAddr 0, .retAddr 0, .retAddr 0, .retAddr 0], [.ref a1], h29) (rfl) ?_
    obtain ⟨g32, e⟩ := gd_some e
    refine eb_g (p := hT h29 a1 = 13) (138, [.ref a0, .ref a1, .int a2, .retAddr 0, .int r23, .int r25, .int x31, .retAddr 0, .retAddr 0, .retAddr 0, .retAddr 0, .retAddr 0, .retAddr 0], [.ref (hR h29 a1 16)], h29) rfl g32 ?_
    refine eb_n 1 (140, [.ref a0, .ref a1, .int a2, .retAddr 0, .int r23, .int r25, .int x31, .retAddr 0, .retAddr 0, .retAddr 0, .retAddr 0, .retAddr 0, .retAddr 0], [.int r23, .ref (hR h29 a1 16)], h29) (rfl) ?_
    obtain ⟨g33, e⟩ := gd_some e
    refine eb_g (p := hT h29 (hR h29 a1 16) = 109 ∧ inb r23 (hL h29 (hR h29 a1 16))) (141, [.ref a0, .ref a1, .int a2, .retAddr 0, .int r23, .int r25, .int x31, .retAddr 0, .retAddr 0, .retAddr 0, .retAddr 0, .retAddr 0, .retAddr 0], [.ref (hR h29 (hR h29 a1 16) (ix r23))], h29) rfl g33 ?_
    refine eb_n 1 (142, [.ref a0, .ref a1, .int a2, .retAddr 0, .int r23, .int r25, .int x31, .retAddr 0, .retAddr 0, .retAddr 0, .retAddr 0, .retAddr 0, .retAddr 0], [.int (nI 3), .ref (hR h29 (hR h29 a1 16) (ix r23))], h29) (rfl) ?_
    obtain ⟨g34, e⟩ := gd_some e
    refine eb_g (p := hT h29 (hR h29 (hR h29 a1 16) (ix r23)) = 101 ∧ inb (nI 3) (hL h29 (hR h29 (hR h29 a1 16) (ix r23)))) (143, [.ref a0, .ref a1, .int a2, .retAddr 0, .int r23, .int r25, .int x31, .retAddr 0, .retAddr 0, .retAddr 0, .retAddr 0, .retAddr 0, .retAddr 0], [.int (hI h29 (hR h29 (hR h29 a1 16) (ix r23)) (ix (nI 3)))], h29) rfl g34 ?_
    refine eb_b (c := ¬ (hI h29 (hR h29 (hR h29 a1 16) (ix r23)) (ix (nI 3))) = 0) (156, [.ref a0, .ref a1, .int a2, .retAddr 0, .int r23, .int r25, .int x31, .retAddr 0, .retAddr 0, .retAddr 0, .retAddr 0, .retAddr 0, .retAddr 0], [], h29) (146, [.ref a0, .ref a1, .int a2, .retAddr 0, .int r23, .int r25, .int x31, .retAddr 0, .retAddr 0, .retAddr 0, .retAddr 0, .retAddr 0, .retAddr 0], [], h29) rfl (fun c35 => ?_) (fun c35 => ?_)
    · replace e := ite_t c35 e
      refine eb_n 1 (157, [.ref a0, .ref a1, .int a2, .retAddr 0, .int r23, .int r25, .int x31, .retAddr 0, .retAddr 0, .retAddr 0, .retAddr 0, .retAddr 0, .retAddr 0], [.int (nI 1)], h29) (rfl) ?_
      rw [(sp_inj e).1, (sp_inj e).2]
      exact eb_rg (p := nrm 3 (nI 1)) rfl nrm_31
    · replace e := ite_f c35 e
      refine eb_n 1 (147, [.ref a0, .ref a1, .int a2, .retAddr 0, .int r23, .int r25, .int x31, .retAddr 0, .retAddr 0, .retAddr 0, .retAddr 0, .retAddr 0, .retAddr 0], [.ref a1], h29) (rfl) ?_
      refine eb_g (p := hT h29 a1 = 13) (150, [.ref a0, .ref a1, .int a2, .retAddr 0, .int r23, .int r25, .int x31, .retAddr 0, .retAddr 0, .retAddr 0, .retAddr 0, .retAddr 0, .retAddr 0], [.ref (hR h29 a1 9)], h29) rfl g32 ?_
      refine eb_n 1 (152, [.ref a0, .ref a1, .int a2, .retAddr 0, .int r23, .int r25, .int x31, .retAddr 0, .retAddr 0, .retAddr 0, .retAddr 0, .retAddr 0, .retAddr 0], [.int r25, .ref (hR h29 a1 9)], h29) (rfl) ?_
      obtain ⟨g36, e⟩ := gd_some e
      refine eb_g (p := hT h29 (hR h29 a1 9) = 101 ∧ inb r25 (hL h29 (hR h29 a1 9))) (153, [.ref a0, .ref a1, .int a2, .retAddr 0, .int r23, .int r25, .int x31, .retAddr 0, .retAddr 0, .retAddr 0, .retAddr 0, .retAddr 0, .retAddr 0], [.int (hI h29 (hR h29 a1 9) (ix r25))], h29) rfl g36 ?_
      refine eb_b (c := ¬ (hI h29 (hR h29 a1 9) (ix r25)) = 0) (158, [.ref a0, .ref a1, .int a2, .retAddr 0, .int r23, .int r25, .int x31, .retAddr 0, .retAddr 0, .retAddr 0, .retAddr 0, .retAddr 0, .retAddr 0], [], h29) (156, [.ref a0, .ref a1, .int a2, .retAddr 0, .int r23, .int r25, .int x31, .retAddr 0, .retAddr 0, .retAddr 0, .retAddr 0, .retAddr 0, .retAddr 0], [], h29) rfl (fun c37 => ?_) (fun c37 => ?_)
      · replace e := ite_t c37 e
        refine eb_n 4 (165, [.ref a0, .ref a1, .int a2, .retAddr 0, .int r23, .int r25, .int x31, .retAddr 0, .retAddr 0, .retAddr 0, .retAddr 0, .retAddr 0, .retAddr 0], [.int x31, .int r25, .int r23, .ref a0], h29) (rfl) ?_
        obtain ⟨g38, e⟩ := gd_some e
        obtain ⟨h39, r40, eh39, e⟩ := bn_some e
        refine eb_cg (p := hT h29 a0 = 1) rfl g38 (f_QuillBoats_load_ev d (Nat.le_trans (by decide) hd) eh39) ?_
        show Eb _ 6 (168, [.ref a0, .ref a1, .int a2, .retAddr 0, .int r23, .int r25, .int x31, .retAddr 0, .retAddr 0, .retAddr 0, .retAddr 0, .retAddr 0, .retAddr 0], [.int r40], h39) _ _
        refine eb_n 4 (175, [.ref a0, .ref a1, .int a2, .retAddr 0, .int r23, .int r25, .int x31, .retAddr 0, .retAddr 0, .retAddr 0, .retAddr 0, .retAddr 0, .retAddr 0], [.int x31, .int r25, .int r23, .ref a1, .int r40], h39) (rfl) ?_
        obtain ⟨g41, e⟩ := gd_some e
        obtain ⟨h42, r43, eh42, e⟩ := bn_some e
        refine eb_cg (p := hT h39 a1 = 13) rfl g41 (f_Sim_load_ev d (Nat.le_trans (by decide) hd) eh42) ?_
        show Eb _ 6 (178, [.ref a0, .ref a1, .int a2, .retAddr 0, .int r23, .int r25, .int x31, .retAddr 0, .retAddr 0, .retAddr 0, .retAddr 0, .retAddr 0, .retAddr 0], [.int r43, .int r40], h42) _ _
        refine eb_b (c := ¬ r40 = r43) (185, [.ref a0, .ref a1, .int a2, .retAddr 0, .int r23, .int r25, .int x31, .retAddr 0, .retAddr 0, .retAddr 0, .retAddr 0, .retAddr 0, .retAddr 0], [], h42) (181, [.ref a0, .ref a1, .int a2, .retAddr 0, .int r23, .int r25, .int x31, .retAddr 0, .retAddr 0, .retAddr 0, .retAddr 0, .retAddr 0, .retAddr 0], [], h42) rfl (fun c44 => ?_) (fun c44 => ?_)
        · replace e := ite_t c44 e
          refine eb_n 1 (186, [.ref a0, .ref a1, .int a2, .retAddr 0, .int r23, .int r25, .int x31, .retAddr 0, .retAddr 0, .retAddr 0, .retAddr 0, .retAddr 0, .retAddr 0], [.int (nI 0)], h42) (rfl) ?_
          rw [(sp_inj e).1, (sp_inj e).2]
          exact eb_rg (p := nrm 3 (nI 0)) rfl nrm_30
        · replace e := ite_f c44 e
          refine eb_n 2 (186, [.ref a0, .ref a1, .int a2, .retAddr 0, .int r23, .int r25, .int x31, .retAddr 0, .retAddr 0, .retAddr 0, .retAddr 0, .retAddr 0, .retAddr 0], [.int (nI 1)], h42) (rfl) ?_
          rw [(sp_inj e).1, (sp_inj e).2]
          exact eb_rg (p := nrm 3 (nI 1)) rfl nrm_31
      · replace e := ite_f c37 e
        refine eb_n 1 (157, [.ref a0, .ref a1, .int a2, .retAddr 0, .int r23, .int r25, .int x31, .retAddr 0, .retAddr 0, .retAddr 0, .retAddr 0, .retAddr 0, .retAddr 0], [.int (nI 1)], h29) (rfl) ?_
        rw [(sp_inj e).1, (sp_inj e).2]
        exact eb_rg (p := nrm 3 (nI 1)) rfl nrm_31
  replace e := ite_f c19 e
  by_cases c45 : r2 = nI 2
  · replace e := ite_t c45 e
    refine eb_n 1 (93, [.ref a0, .ref a1, .int a2, .retAddr 0, .retAddr 0, .retAddr 0, .retAddr 0, .retAddr 0, .retAddr 0, .retAddr 0, .retAddr 0, .retAddr 0, .retAddr 0], [], h1) (by rw [c45]; rfl) ?_
    refine eb_n 4 (97, [.ref a0, .ref a1, .int a2, .retAddr 0, .retAddr 0, .retAddr 0, .retAddr 0, .retAddr 0, .retAddr 0, .retAddr 0, .retAddr 0, .retAddr 0, .retAddr 0], [.ref a1, .int (a2 >>> ((nI 1) &&& 31))], h1) (rfl) ?_
    obtain ⟨g46, e⟩ := gd_some e
    refine eb_g (p := hT h1 a1 = 13) (100, [.ref a0, .ref a1, .int a2, .retAddr 0, .retAddr 0, .retAddr 0, .retAddr 0, .retAddr 0, .retAddr 0, .retAddr 0, .retAddr 0, .retAddr 0, .retAddr 0], [.ref (hR h1 a1 16), .int (a2 >>> ((nI 1) &&& 31))], h1) rfl g46 ?_
    obtain ⟨g47, e⟩ := gd_some e
    refine eb_g (p := hT h1 (hR h1 a1 16) = 109) (101, [.ref a0, .ref a1, .int a2, .retAddr 0, .retAddr 0, .retAddr 0, .retAddr 0, .retAddr 0, .retAddr 0, .retAddr 0, .retAddr 0, .retAddr 0, .retAddr 0], [.int (nI (hL h1 (hR h1 a1 16))), .int (a2 >>> ((nI 1) &&& 31))], h1) rfl g47 ?_
    obtain ⟨h48, r49, eh48, e⟩ := bn_some e
    refine eb_c rfl (f_Law_below_ev d (Nat.le_trans (by decide) hd) eh48) ?_
    show Eb _ 6 (104, [.ref a0, .ref a1, .int a2, .retAddr 0, .retAddr 0, .retAddr 0, .retAddr 0, .retAddr 0, .retAddr 0, .retAddr 0, .retAddr 0, .retAddr 0, .retAddr 0], [.int r49], h48) _ _
    refine eb_n 5 (110, [.ref a0, .ref a1, .int a2, .retAddr 0, .int r49, .retAddr 0, .retAddr 0, .retAddr 0, .retAddr 0, .retAddr 0, .retAddr 0, .retAddr 0, .retAddr 0], [.int (nI 4), .int (a2 >>> ((nI 2) &&& 31))], h48) (rfl) ?_
    obtain ⟨h50, r51, eh50, e⟩ := bn_some e
    refine eb_c rfl (f_Law_below_ev d (Nat.le_trans (by decide) hd) eh50) ?_
    show Eb _ 6 (113, [.ref a0, .ref a1, .int a2, .retAddr 0, .int r49, .retAddr 0, .retAddr 0, .retAddr 0, .retAddr 0, .retAddr 0, .retAddr 0, .retAddr 0, .retAddr 0], [.int r51], h50) _ _
    refine eb_n 6 (120, [.ref a0, .ref a1, .int a2, .retAddr 0, .int r49, .int r51, .retAddr 0, .retAddr 0, .retAddr 0, .retAddr 0, .retAddr 0, .retAddr 0, .retAddr 0], [.ref a1, .int (a2 >>> ((nI 3) &&& 31)), .int (nI 1)], h50) (rfl) ?_
    obtain ⟨g52, e⟩ := gd_some e
    refine eb_g (p := hT h50 a1 = 13) (123, [.ref a0, .ref a1, .int a2, .retAddr 0, .int r49, .int r51, .retAddr 0, .retAddr 0, .retAddr 0, .retAddr 0, .retAddr 0, .retAddr 0, .retAddr 0], [.ref (hR h50 a1 16), .int (a2 >>> ((nI 3) &&& 31)), .int (nI 1)], h50) rfl g52 ?_
    refine eb_n 1 (125, [.ref a0, .ref a1, .int a2, .retAddr 0, .int r49, .int r51, .retAddr 0, .retAddr 0, .retAddr 0, .retAddr 0, .retAddr 0, .retAddr 0, .retAddr 0], [.int r49, .ref (hR h50 a1 16), .int (a2 >>> ((nI 3) &&& 31)), .int (nI 1)], h50) (rfl) ?_
    obtain ⟨g53, e⟩ := gd_some e
    refine eb_g (p := hT h50 (hR h50 a1 16) = 109 ∧ inb r49 (hL h50 (hR h50 a1 16))) (126, [.ref a0, .ref a1, .int a2, .retAddr 0, .int r49, .int r51, .retAddr 0, .retAddr 0, .retAddr 0, .retAddr 0, .retAddr 0, .retAddr 0, .retAddr 0], [.ref (hR h50 (hR h50 a1 16) (ix r49)), .int (a2 >>> ((nI 3) &&& 31)), .int (nI 1)], h50) rfl g53 ?_
    refine eb_n 1 (127, [.ref a0, .ref a1, .int a2, .retAddr 0, .int r49, .int r51, .retAddr 0, .retAddr 0, .retAddr 0, .retAddr 0, .retAddr 0, .retAddr 0, .retAddr 0], [.int (nI 0), .ref (hR h50 (hR h50 a1 16) (ix r49)), .int (a2 >>> ((nI 3) &&& 31)), .int (nI 1)], h50) (rfl) ?_
    obtain ⟨g54, e⟩ := gd_some e
    refine eb_g (p := hT h50 (hR h50 (hR h50 a1 16) (ix r49)) = 101 ∧ inb (nI 0) (hL h50 (hR h50 (hR h50 a1 16) (ix r49)))) (128, [.ref a0, .ref a1, .int a2, .retAddr 0, .int r49, .int r51, .retAddr 0, .retAddr 0, .retAddr 0, .retAddr 0, .retAddr 0, .retAddr 0, .retAddr 0], [.int (hI h50 (hR h50 (hR h50 a1 16) (ix r49)) (ix (nI 0))), .int (a2 >>> ((nI 3) &&& 31)), .int (nI 1)], h50) rfl g54 ?_
    obtain ⟨h55, r56, eh55, e⟩ := bn_some e
    refine eb_c rfl (f_Law_below_ev d (Nat.le_trans (by decide) hd) eh55) ?_
    show Eb _ 6 (131, [.ref a0, .ref a1, .int a2, .retAddr 0, .int r49, .int r51, .retAddr 0, .retAddr 0, .retAddr 0, .retAddr 0, .retAddr 0, .retAddr 0, .retAddr 0], [.int r56, .int (nI 1)], h55) _ _
    obtain ⟨x57, hx57, e⟩ := lq_some e
    refine eb_n 2 (134, [.ref a0, .ref a1, .int a2, .retAddr 0, .int r49, .int r51, .int x57, .retAddr 0, .retAddr 0, .retAddr 0, .retAddr 0, .retAddr 0, .retAddr 0], [], h55) (by subst hx57; rfl) ?_
    refine eb_n 1 (135, [.ref a0, .ref a1, .int a2, .retAddr 0, .int r49, .int r51, .int x57, .retAddr 0, .retAddr 0, .retAddr 0, .retAddr 0, .retAddr 0, .retAddr 0], [.ref a1], h55) (rfl) ?_
    obtain ⟨g58, e⟩ := gd_some e
    refine eb_g (p := hT h55 a1 = 13) (138, [.ref a0, .ref a1, .int a2, .retAddr 0, .int r49, .int r51, .int x57, .retAddr 0, .retAddr 0, .retAddr 0, .retAddr 0, .retAddr 0, .retAddr 0], [.ref (hR h55 a1 16)], h55) rfl g58 ?_
    refine eb_n 1 (140, [.ref a0, .ref a1, .int a2, .retAddr 0, .int r49, .int r51, .int x57, .retAddr 0, .retAddr 0, .retAddr 0, .retAddr 0, .retAddr 0, .retAddr 0], [.int r49, .ref (hR h55 a1 16)], h55) (rfl) ?_
    obtain ⟨g59, e⟩ := gd_some e
    refine eb_g (p := hT h55 (hR h55 a1 16) = 109 ∧ inb r49 (hL h55 (hR h55 a1 16))) (141, [.ref a0, .ref a1, .int a2, .retAddr 0, .int r49, .int r51, .int x57, .retAddr 0, .retAddr 0, .retAddr 0, .retAddr 0, .retAddr 0, .retAddr 0], [.ref (hR h55 (hR h55 a1 16) (ix r49))], h55) rfl g59 ?_
    refine eb_n 1 (142, [.ref a0, .ref a1, .int a2, .retAddr 0, .int r49, .int r51, .int x57, .retAddr 0, .retAddr 0, .retAddr 0, .retAddr 0, .retAddr 0, .retAddr 0], [.int (nI 3), .ref (hR h55 (hR h55 a1 16) (ix r49))], h55) (rfl) ?_
    obtain ⟨g60, e⟩ := gd_some e
    refine eb_g (p := hT h55 (hR h55 (hR h55 a1 16) (ix r49)) = 101 ∧ inb (nI 3) (hL h55 (hR h55 (hR h55 a1 16) (ix r49)))) (143, [.ref a0, .ref a1, .int a2, .retAddr 0, .int r49, .int r51, .int x57, .retAddr 0, .retAddr 0, .retAddr 0, .retAddr 0, .retAddr 0, .retAddr 0], [.int (hI h55 (hR h55 (hR h55 a1 16) (ix r49)) (ix (nI 3)))], h55) rfl g60 ?_
    refine eb_b (c := ¬ (hI h55 (hR h55 (hR h55 a1 16) (ix r49)) (ix (nI 3))) = 0) (156, [.ref a0, .ref a1, .int a2, .retAddr 0, .int r49, .int r51, .int x57, .retAddr 0, .retAddr 0, .retAddr 0, .retAddr 0, .retAddr 0, .retAddr 0], [], h55) (146, [.ref a0, .ref a1, .int a2, .retAddr 0, .int r49, .int r51, .int x57, .retAddr 0, .retAddr 0, .retAddr 0, .retAddr 0, .retAddr 0, .retAddr 0], [], h55) rfl (fun c61 => ?_) (fun c61 => ?_)
    · replace e := ite_t c61 e
      refine eb_n 1 (157, [.ref a0, .ref a1, .int a2, .retAddr 0, .int r49, .int r51, .int x57, .retAddr 0, .retAddr 0, .retAddr 0, .retAddr 0, .retAddr 0, .retAddr 0], [.int (nI 1)], h55) (rfl) ?_
      rw [(sp_inj e).1, (sp_inj e).2]
      exact eb_rg (p := nrm 3 (nI 1)) rfl nrm_31
    · replace e := ite_f c61 e
      refine eb_n 1 (147, [.ref a0, .ref a1, .int a2, .retAddr 0, .int r49, .int r51, .int x57, .retAddr 0, .retAddr 0, .retAddr 0, .retAddr 0, .retAddr 0, .retAddr 0], [.ref a1], h55) (rfl) ?_
      refine eb_g (p := hT h55 a1 = 13) (150, [.ref a0, .ref a1, .int a2, .retAddr 0, .int r49, .int r51, .int x57, .retAddr 0, .retAddr 0, .retAddr 0, .retAddr 0, .retAddr 0, .retAddr 0], [.ref (hR h55 a1 9)], h55) rfl g58 ?_
      refine eb_n 1 (152, [.ref a0, .ref a1, .int a2, .retAddr 0, .int r49, .int r51, .int x57, .retAddr 0, .retAddr 0, .retAddr 0, .retAddr 0, .retAddr 0, .retAddr 0], [.int r51, .ref (hR h55 a1 9)], h55) (rfl) ?_
      obtain ⟨g62, e⟩ := gd_some e
      refine eb_g (p := hT h55 (hR h55 a1 9) = 101 ∧ inb r51 (hL h55 (hR h55 a1 9))) (153, [.ref a0, .ref a1, .int a2, .retAddr 0, .int r49, .int r51, .int x57, .retAddr 0, .retAddr 0, .retAddr 0, .retAddr 0, .retAddr 0, .retAddr 0], [.int (hI h55 (hR h55 a1 9) (ix r51))], h55) rfl g62 ?_
      refine eb_b (c := ¬ (hI h55 (hR h55 a1 9) (ix r51)) = 0) (158, [.ref a0, .ref a1, .int a2, .retAddr 0, .int r49, .int r51, .int x57, .retAddr 0, .retAddr 0, .retAddr 0, .retAddr 0, .retAddr 0, .retAddr 0], [], h55) (156, [.ref a0, .ref a1, .int a2, .retAddr 0, .int r49, .int r51, .int x57, .retAddr 0, .retAddr 0, .retAddr 0, .retAddr 0, .retAddr 0, .retAddr 0], [], h55) rfl (fun c63 => ?_) (fun c63 => ?_)
      · replace e := ite_t c63 e
        refine eb_n 4 (165, [.ref a0, .ref a1, .int a2, .retAddr 0, .int r49, .int r51, .int x57, .retAddr 0, .retAddr 0, .retAddr 0, .retAddr 0, .retAddr 0, .retAddr 0], [.int x57, .int r51, .int r49, .ref a0], h55) (rfl) ?_
        obtain ⟨g64, e⟩ := gd_some e
        obtain ⟨h65, r66, eh65, e⟩ := bn_some e
        refine eb_cg (p := hT h55 a0 = 1) rfl g64 (f_QuillBoats_load_ev d (Nat.le_trans (by decide) hd) eh65) ?_
        show Eb _ 6 (168, [.ref a0, .ref a1, .int a2, .retAddr 0, .int r49, .int r51, .int x57, .retAddr 0, .retAddr 0, .retAddr 0, .retAddr 0, .retAddr 0, .retAddr 0], [.int r66], h65) _ _
        refine eb_n 4 (175, [.ref a0, .ref a1, .int a2, .retAddr 0, .int r49, .int r51, .int x57, .retAddr 0, .retAddr 0, .retAddr 0, .retAddr 0, .retAddr 0, .retAddr 0], [.int x57, .int r51, .int r49, .ref a1, .int r66], h65) (rfl) ?_
        obtain ⟨g67, e⟩ := gd_some e
        obtain ⟨h68, r69, eh68, e⟩ := bn_some e
        refine eb_cg (p := hT h65 a1 = 13) rfl g67 (f_Sim_load_ev d (Nat.le_trans (by decide) hd) eh68) ?_
        show Eb _ 6 (178, [.ref a0, .ref a1, .int a2, .retAddr 0, .int r49, .int r51, .int x57, .retAddr 0, .retAddr 0, .retAddr 0, .retAddr 0, .retAddr 0, .retAddr 0], [.int r69, .int r66], h68) _ _
        refine eb_b (c := ¬ r66 = r69) (185, [.ref a0, .ref a1, .int a2, .retAddr 0, .int r49, .int r51, .int x57, .retAddr 0, .retAddr 0, .retAddr 0, .retAddr 0, .retAddr 0, .retAddr 0], [], h68) (181, [.ref a0, .ref a1, .int a2, .retAddr 0, .int r49, .int r51, .int x57, .retAddr 0, .retAddr 0, .retAddr 0, .retAddr 0, .retAddr 0, .retAddr 0], [], h68) rfl (fun c70 => ?_) (fun c70 => ?_)
        · replace e := ite_t c70 e
          refine eb_n 1 (186, [.ref a0, .ref a1, .int a2, .retAddr 0, .int r49, .int r51, .int x57, .retAddr 0, .retAddr 0, .retAddr 0, .retAddr 0, .retAddr 0, .retAddr 0], [.int (nI 0)], h68) (rfl) ?_
          rw [(sp_inj e).1, (sp_inj e).2]
          exact eb_rg (p := nrm 3 (nI 0)) rfl nrm_30
        · replace e := ite_f c70 e
          refine eb_n 2 (186, [.ref a0, .ref a1, .int a2, .retAddr 0, .int r49, .int r51, .int x57, .retAddr 0, .retAddr 0, .retAddr 0, .retAddr 0, .retAddr 0, .retAddr 0], [.int (nI 1)], h68) (rfl) ?_
          rw [(sp_inj e).1, (sp_inj e).2]
          exact eb_rg (p := nrm 3 (nI 1)) rfl nrm_31
      · replace e := ite_f c63 e
        refine eb_n 1 (157, [.ref a0, .ref a1, .int a2, .retAddr 0, .int r49, .int r51, .int x57, .retAddr 0, .retAddr 0, .retAddr 0, .retAddr 0, .retAddr 0, .retAddr 0], [.int (nI 1)], h55) (rfl) ?_
        rw [(sp_inj e).1, (sp_inj e).2]
        exact eb_rg (p := nrm 3 (nI 1)) rfl nrm_31
  replace e := ite_f c45 e
  by_cases c71 : r2 = nI 3
  · replace e := ite_t c71 e
    refine eb_n 1 (187, [.ref a0, .ref a1, .int a2, .retAddr 0, .retAddr 0, .retAddr 0, .retAddr 0, .retAddr 0, .retAddr 0, .retAddr 0, .retAddr 0, .retAddr 0, .retAddr 0], [], h1) (by rw [c71]; rfl) ?_
    refine eb_n 4 (192, [.ref a0, .ref a1, .int a2, .retAddr 0, .retAddr 0, .retAddr 0, .retAddr 0, .retAddr 0, .retAddr 0, .retAddr 0, .retAddr 0, .retAddr 0, .retAddr 0], [.int (nI 12), .int (a2 >>> ((nI 1) &&& 31))], h1) (rfl) ?_
    obtain ⟨h72, r73, eh72, e⟩ := bn_some e
    refine eb_c rfl (f_Law_below_ev d (Nat.le_trans (by decide) hd) eh72) ?_
    show Eb _ 6 (195, [.ref a0, .ref a1, .int a2, .retAddr 0, .retAddr 0, .retAddr 0, .retAddr 0, .retAddr 0, .retAddr 0, .retAddr 0, .retAddr 0, .retAddr 0, .retAddr 0], [.int r73], h72) _ _
    refine eb_n 2 (198, [.ref a0, .ref a1, .int a2, .retAddr 0, .retAddr 0, .retAddr 0, .retAddr 0, .int r73, .retAddr 0, .retAddr 0, .retAddr 0, .retAddr 0, .retAddr 0], [.ref a1], h72) (rfl) ?_
    obtain ⟨g74, e⟩ := gd_some e
    refine eb_g (p := hT h72 a1 = 13) (201, [.ref a0, .ref a1, .int a2, .retAddr 0, .retAddr 0, .retAddr 0, .retAddr 0, .int r73, .retAddr 0, .retAddr 0, .retAddr 0, .retAddr 0, .retAddr 0], [.ref (hR h72 a1 7)], h72) rfl g74 ?_
    refine eb_n 1 (203, [.ref a0, .ref a1, .int a2, .retAddr 0, .retAddr 0, .retAddr 0, .retAddr 0, .int r73, .retAddr 0, .retAddr 0, .retAddr 0, .retAddr 0, .retAddr 0], [.int r73, .ref (hR h72 a1 7)], h72) (rfl) ?_
    obtain ⟨g75, e⟩ := gd_some e
    refine eb_g (p := hT h72 (hR h72 a1 7) = 101 ∧ inb r73 (hL h72 (hR h72 a1 7))) (204, [.ref a0, .ref a1, .int a2, .retAddr 0, .retAddr 0, .retAddr 0, .retAddr 0, .int r73, .retAddr 0, .retAddr 0, .retAddr 0, .retAddr 0, .retAddr 0], [.int (hI h72 (hR h72 a1 7) (ix r73))], h72) rfl g75 ?_
    obtain ⟨x76, hx76, e⟩ := lq_some e
    refine eb_n 1 (206, [.ref a0, .ref a1, .int a2, .retAddr 0, .retAddr 0, .retAddr 0, .retAddr 0, .int r73, .int x76, .retAddr 0, .retAddr 0, .retAddr 0, .retAddr 0], [], h72) (by subst hx76; rfl) ?_
    refine eb_n 1 (207, [.ref a0, .ref a1, .int a2, .retAddr 0, .retAddr 0, .retAddr 0, .retAddr 0, .int r73, .int x76, .retAddr 0, .retAddr 0, .retAddr 0, .retAddr 0], [.ref a1], h72) (rfl) ?_
    refine eb_g (p := hT h72 a1 = 13) (210, [.ref a0, .ref a1, .int a2, .retAddr 0, .retAddr 0, .retAddr 0, .retAddr 0, .int r73, .int x76, .retAddr 0, .retAddr 0, .retAddr 0, .retAddr 0], [.ref (hR h72 a1 7)], h72) rfl g74 ?_
    refine eb_n 5 (216, [.ref a0, .ref a1, .int a2, .retAddr 0, .retAddr 0, .retAddr 0, .retAddr 0, .int r73, .int x76, .retAddr 0, .retAddr 0, .retAddr 0, .retAddr 0], [.int (nI 4), .int (a2 >>> ((nI 3) &&& 31)), .int r73, .ref (hR h72 a1 7)], h72) (rfl) ?_
    obtain ⟨h77, r78, eh77, e⟩ := bn_some e
    refine eb_c rfl (f_Law_below_ev d (Nat.le_trans (by decide) hd) eh77) ?_
    show Eb _ 6 (219, [.ref a0, .ref a1, .int a2, .retAddr 0, .retAddr 0, .retAddr 0, .retAddr 0, .int r73, .int x76, .retAddr 0, .retAddr 0, .retAddr 0, .retAddr 0], [.int r78, .int r73, .ref (hR h72 a1 7)], h77) _ _
    obtain ⟨g79, e⟩ := gd_some e
    obtain ⟨h80, eh80, e⟩ := lq_some e
    refine eb_g (p := hT h77 (hR h72 a1 7) = 101 ∧ inb r73 (hL h77 (hR h72 a1 7))) (220, [.ref a0, .ref a1, .int a2, .retAddr 0, .retAddr 0, .retAddr 0, .retAddr 0, .int r73, .int x76, .retAddr 0, .retAddr 0, .retAddr 0, .retAddr 0], [], h80) (by rw [eh80]; rfl) g79 ?_
    refine eb_n 3 (224, [.ref a0, .ref a1, .int a2, .retAddr 0, .retAddr 0, .retAddr 0, .retAddr 0, .int r73, .int x76, .retAddr 0, .retAddr 0, .retAddr 0, .retAddr 0], [.ref a1, .int r73, .ref a0], h80) (rfl) ?_
    obtain ⟨g81, e⟩ := gd_some e
    refine eb_g (p := hT h80 a1 = 13) (227, [.ref a0, .ref a1, .int a2, .retAddr 0, .retAddr 0, .retAddr 0, .retAddr 0, .int r73, .int x76, .retAddr 0, .retAddr 0, .retAddr 0, .retAddr 0], [.ref (hR h80 a1 7), .int r73, .ref a0], h80) rfl g81 ?_
    refine eb_n 1 (229, [.ref a0, .ref a1, .int a2, .retAddr 0, .retAddr 0, .retAddr 0, .retAddr 0, .int r73, .int x76, .retAddr 0, .retAddr 0, .retAddr 0, .retAddr 0], [.int r73, .ref (hR h80 a1 7), .int r73, .ref a0], h80) (rfl) ?_
    obtain ⟨g82, e⟩ := gd_some e
    refine eb_g (p := hT h80 (hR h80 a1 7) = 101 ∧ inb r73 (hL h80 (hR h80 a1 7))) (230, [.ref a0, .ref a1, .int a2, .retAddr 0, .retAddr 0, .retAddr 0, .retAddr 0, .int r73, .int x76, .retAddr 0, .retAddr 0, .retAddr 0, .retAddr 0], [.int (hI h80 (hR h80 a1 7) (ix r73)), .int r73, .ref a0], h80) rfl g82 ?_
    obtain ⟨g83, e⟩ := gd_some e
    obtain ⟨h84, r85, eh84, e⟩ := bn_some e
    refine eb_cg (p := hT h80 a0 = 1) rfl g83 (f_QuillBoats_setShade_ev d (Nat.le_trans (by decide) hd) eh84) ?_
    show Eb _ 6 (233, [.ref a0, .ref a1, .int a2, .retAddr 0, .retAddr 0, .retAddr 0, .retAddr 0, .int r73, .int x76, .retAddr 0, .retAddr 0, .retAddr 0, .retAddr 0], [.int r85], h84) _ _
    refine eb_n 1 (235, [.ref a0, .ref a1, .int a2, .retAddr 0, .retAddr 0, .retAddr 0, .retAddr 0, .int r73, .int x76, .retAddr 0, .retAddr 0, .retAddr 0, .retAddr 0], [.int x76, .int r85], h84) (rfl) ?_
    refine eb_b (c := ¬ r85 = x76) (242, [.ref a0, .ref a1, .int a2, .retAddr 0, .retAddr 0, .retAddr 0, .retAddr 0, .int r73, .int x76, .retAddr 0, .retAddr 0, .retAddr 0, .retAddr 0], [], h84) (238, [.ref a0, .ref a1, .int a2, .retAddr 0, .retAddr 0, .retAddr 0, .retAddr 0, .int r73, .int x76, .retAddr 0, .retAddr 0, .retAddr 0, .retAddr 0], [], h84) rfl (fun c86 => ?_) (fun c86 => ?_)
    · replace e := ite_t c86 e
      refine eb_n 1 (243, [.ref a0, .ref a1, .int a2, .retAddr 0, .retAddr 0, .retAddr 0, .retAddr 0, .int r73, .int x76, .retAddr 0, .retAddr 0, .retAddr 0, .retAddr 0], [.int (nI 0)], h84) (rfl) ?_
      rw [(sp_inj e).1, (sp_inj e).2]
      exact eb_rg (p := nrm 3 (nI 0)) rfl nrm_30
    · replace e := ite_f c86 e
      refine eb_n 2 (243, [.ref a0, .ref a1, .int a2, .retAddr 0, .retAddr 0, .retAddr 0, .retAddr 0, .int r73, .int x76, .retAddr 0, .retAddr 0, .retAddr 0, .retAddr 0], [.int (nI 1)], h84) (rfl) ?_
      rw [(sp_inj e).1, (sp_inj e).2]
      exact eb_rg (p := nrm 3 (nI 1)) rfl nrm_31
  replace e := ite_f c71 e
  by_cases c87 : r2 = nI 4
  · replace e := ite_t c87 e
    refine eb_n 1 (244, [.ref a0, .ref a1, .int a2, .retAddr 0, .retAddr 0, .retAddr 0, .retAddr 0, .retAddr 0, .retAddr 0, .retAddr 0, .retAddr 0, .retAddr 0, .retAddr 0], [], h1) (by rw [c87]; rfl) ?_
    refine eb_n 2 (246, [.ref a0, .ref a1, .int a2, .retAddr 0, .retAddr 0, .retAddr 0, .retAddr 0, .retAddr 0, .retAddr 0, .retAddr 0, .retAddr 0, .retAddr 0, .retAddr 0], [.int (nI 3), .int a2], h1) (rfl) ?_
    obtain ⟨h88, r89, eh88, e⟩ := bn_some e
    refine eb_c rfl (f_Law_below_ev d (Nat.le_trans (by decide) hd) eh88) ?_
    show Eb _ 6 (249, [.ref a0, .ref a1, .int a2, .retAddr 0, .retAddr 0, .retAddr 0, .retAddr 0, .retAddr 0, .retAddr 0, .retAddr 0, .retAddr 0, .retAddr 0, .retAddr 0], [.int r89], h88) _ _
    refine eb_b (c := r89 ≤ 0) (254, [.ref a0, .ref a1, .int a2, .retAddr 0, .retAddr 0, .retAddr 0, .retAddr 0, .retAddr 0, .retAddr 0, .retAddr 0, .retAddr 0, .retAddr 0, .retAddr 0], [], h88) (252, [.ref a0, .ref a1, .int a2, .retAddr 0, .retAddr 0, .retAddr 0, .retAddr 0, .retAddr 0, .retAddr 0, .retAddr 0, .retAddr 0, .retAddr 0, .retAddr 0], [], h88) rfl (fun c90 => ?_) (fun c90 => ?_)
    · replace e := ite_t c90 e
      refine eb_n 1 (255, [.ref a0, .ref a1, .int a2, .retAddr 0, .retAddr 0, .retAddr 0, .retAddr 0, .retAddr 0, .retAddr 0, .retAddr 0, .retAddr 0, .retAddr 0, .retAddr 0], [.ref a1], h88) (rfl) ?_
      obtain ⟨g91, e⟩ := gd_some e
      refine eb_g (p := hT h88 a1 = 13) (258, [.ref a0, .ref a1, .int a2, .retAddr 0, .retAddr 0, .retAddr 0, .retAddr 0, .retAddr 0, .retAddr 0, .retAddr 0, .retAddr 0, .retAddr 0, .retAddr 0], [.int (hI h88 a1 6)], h88) rfl g91 ?_
      obtain ⟨x92, hx92, e⟩ := lq_some e
      refine eb_n 1 (260, [.ref a0, .ref a1, .int a2, .retAddr 0, .retAddr 0, .retAddr 0, .retAddr 0, .retAddr 0, .retAddr 0, .int x92, .retAddr 0, .retAddr 0, .retAddr 0], [], h88) (by subst hx92; rfl) ?_
      refine eb_n 5 (266, [.ref a0, .ref a1, .int a2, .retAddr 0, .retAddr 0, .retAddr 0, .retAddr 0, .retAddr 0, .retAddr 0, .int x92, .retAddr 0, .retAddr 0, .retAddr 0], [.int (nI 6), .int (a2 >>> ((nI 2) &&& 31)), .ref a1], h88) (rfl) ?_
      obtain ⟨h93, r94, eh93, e⟩ := bn_some e
      refine eb_c rfl (f_Law_below_ev d (Nat.le_trans (by decide) hd) eh93) ?_
      show Eb _ 6 (269, [.ref a0, .ref a1, .int a2, .retAddr 0, .retAddr 0, .retAddr 0, .retAddr 0, .retAddr 0, .retAddr 0, .int x92, .retAddr 0, .retAddr 0, .retAddr 0], [.int r94, .ref a1], h93) _ _
      obtain ⟨g95, e⟩ := gd_some e
      obtain ⟨h96, eh96, e⟩ := lq_some e
      refine eb_g (p := hT h93 a1 = 13) (272, [.ref a0, .ref a1, .int a2, .retAddr 0, .retAddr 0, .retAddr 0, .retAddr 0, .retAddr 0, .retAddr 0, .int x92, .retAddr 0, .retAddr 0, .retAddr 0], [], h96) (by rw [eh96]; rfl) g95 ?_
      refine eb_n 2 (274, [.ref a0, .ref a1, .int a2, .retAddr 0, .retAddr 0, .retAddr 0, .retAddr 0, .retAddr 0, .retAddr 0, .int x92, .retAddr 0, .retAddr 0, .retAddr 0], [.ref a1, .ref a0], h96) (rfl) ?_
      obtain ⟨g97, e⟩ := gd_some e
      refine eb_g (p := hT h96 a1 = 13) (277, [.ref a0, .ref a1, .int a2, .retAddr 0, .retAddr 0, .retAddr 0, .retAddr 0, .retAddr 0, .retAddr 0, .int x92, .retAddr 0, .retAddr 0, .retAddr 0], [.int (hI h96 a1 6), .ref a0], h96) rfl g97 ?_
      obtain ⟨g98, e⟩ := gd_some e
      obtain ⟨h99, r100, eh99, e⟩ := bn_some e
      refine eb_cg (p := hT h96 a0 = 1) rfl g98 (f_QuillBoats_setCurrent_ev d (Nat.le_trans (by decide) hd) eh99) ?_
      show Eb _ 6 (280, [.ref a0, .ref a1, .int a2, .retAddr 0, .retAddr 0, .retAddr 0, .retAddr 0, .retAddr 0, .retAddr 0, .int x92, .retAddr 0, .retAddr 0, .retAddr 0], [.int r100], h99) _ _
      refine eb_n 1 (282, [.ref a0, .ref a1, .int a2, .retAddr 0, .retAddr 0, .retAddr 0, .retAddr 0, .retAddr 0, .retAddr 0, .int x92, .retAddr 0, .retAddr 0, .retAddr 0], [.int x92, .int r100], h99) (rfl) ?_
      refine eb_b (c := ¬ r100 = x92) (289, [.ref a0, .ref a1, .int a2, .retAddr 0, .retAddr 0, .retAddr 0, .retAddr 0, .retAddr 0, .retAddr 0, .int x92, .retAddr 0, .retAddr 0, .retAddr 0], [], h99) (285, [.ref a0, .ref a1, .int a2, .retAddr 0, .retAddr 0, .retAddr 0, .retAddr 0, .retAddr 0, .retAddr 0, .int x92, .retAddr 0, .retAddr 0, .retAddr 0], [], h99) rfl (fun c101 => ?_) (fun c101 => ?_)
      · replace e := ite_t c101 e
        refine eb_n 1 (290, [.ref a0, .ref a1, .int a2, .retAddr 0, .retAddr 0, .retAddr 0, .retAddr 0, .retAddr 0, .retAddr 0, .int x92, .retAddr 0, .retAddr 0, .retAddr 0], [.int (nI 0)], h99) (rfl) ?_
        rw [(sp_inj e).1, (sp_inj e).2]
        exact eb_rg (p := nrm 3 (nI 0)) rfl nrm_30
      · replace e := ite_f c101 e
        refine eb_n 2 (290, [.ref a0, .ref a1, .int a2, .retAddr 0, .retAddr 0, .retAddr 0, .retAddr 0, .retAddr 0, .retAddr 0, .int x92, .retAddr 0, .retAddr 0, .retAddr 0], [.int (nI 1)], h99) (rfl) ?_
        rw [(sp_inj e).1, (sp_inj e).2]
        exact eb_rg (p := nrm 3 (nI 1)) rfl nrm_31
    · replace e := ite_f c90 e
      refine eb_n 1 (253, [.ref a0, .ref a1, .int a2, .retAddr 0, .retAddr 0, .retAddr 0, .retAddr 0, .retAddr 0, .retAddr 0, .retAddr 0, .retAddr 0, .retAddr 0, .retAddr 0], [.int (nI 1)], h88) (rfl) ?_
      rw [(sp_inj e).1, (sp_inj e).2]
      exact eb_rg (p := nrm 3 (nI 1)) rfl nrm_31
  replace e := ite_f c87 e
  by_cases c102 : r2 = nI 5
  · replace e := ite_t c102 e
    refine eb_n 1 (291, [.ref a0, .ref a1, .int a2, .retAddr 0, .retAddr 0, .retAddr 0, .retAddr 0, .retAddr 0, .retAddr 0, .retAddr 0, .retAddr 0, .retAddr 0, .retAddr 0], [], h1) (by rw [c102]; rfl) ?_
    refine eb_n 5 (298, [.ref a0, .ref a1, .int a2, .retAddr 0, .retAddr 0, .retAddr 0, .retAddr 0, .retAddr 0, .retAddr 0, .retAddr 0, .retAddr 0, .retAddr 0, .retAddr 0], [.int (nI 300), .int (a2 >>> ((nI 2) &&& 31)), .int (nI 1)], h1) (rfl) ?_
    obtain ⟨h103, r104, eh103, e⟩ := bn_some e
    refine eb_c rfl (f_Law_below_ev d (Nat.le_trans (by decide) hd) eh103) ?_
    show Eb _ 6 (301, [.ref a0, .ref a1, .int a2, .retAddr 0, .retAddr 0, .retAddr 0, .retAddr 0, .retAddr 0, .retAddr 0, .retAddr 0, .retAddr 0, .retAddr 0, .retAddr 0], [.int r104, .int (nI 1)], h103) _ _
    obtain ⟨x105, hx105, e⟩ := lq_some e
    refine eb_n 2 (304, [.ref a0, .ref a1, .int a2, .retAddr 0, .retAddr 0, .retAddr 0, .retAddr 0, .retAddr 0, .retAddr 0, .retAddr 0, .int x105, .retAddr 0, .retAddr 0], [], h103) (by subst hx105; rfl) ?_
    refine eb_n 3 (308, [.ref a0, .ref a1, .int a2, .retAddr 0, .retAddr 0, .retAddr 0, .retAddr 0, .retAddr 0, .retAddr 0, .retAddr 0, .int x105, .retAddr 0, .retAddr 0], [.ref a1, .int (nI 99999), .ref a1], h103) (rfl) ?_
    obtain ⟨g106, e⟩ := gd_some e
    refine eb_g (p := hT h103 a1 = 13) (311, [.ref a0, .ref a1, .int a2, .retAddr 0, .retAddr 0, .retAddr 0, .retAddr 0, .retAddr 0, .retAddr 0, .retAddr 0, .int x105, .retAddr 0, .retAddr 0], [.int (hI h103 a1 1), .int (nI 99999), .ref a1], h103) rfl g106 ?_
    refine eb_n 2 (314, [.ref a0, .ref a1, .int a2, .retAddr 0, .retAddr 0, .retAddr 0, .retAddr 0, .retAddr 0, .retAddr 0, .retAddr 0, .int x105, .retAddr 0, .retAddr 0], [.int ((hI h103 a1 1) + x105), .int (nI 99999), .ref a1], h103) (rfl) ?_
    obtain ⟨h107, r108, eh107, e⟩ := bn_some e
    refine eb_c rfl (f_Math_min_ev d (Nat.le_trans (by decide) hd) eh107) ?_
    show Eb _ 6 (317, [.ref a0, .ref a1, .int a2, .retAddr 0, .retAddr 0, .retAddr 0, .retAddr 0, .retAddr 0, .retAddr 0, .retAddr 0, .int x105, .retAddr 0, .retAddr 0], [.int r108, .ref a1], h107) _ _
    obtain ⟨g109, e⟩ := gd_some e
    obtain ⟨h110, eh110, e⟩ := lq_some e
    refine eb_g (p := hT h107 a1 = 13) (320, [.ref a0, .ref a1, .int a2, .retAddr 0, .retAddr 0, .retAddr 0, .retAddr 0, .retAddr 0, .retAddr 0, .retAddr 0, .int x105, .retAddr 0, .retAddr 0], [], h110) (by rw [eh110]; rfl) g109 ?_
    refine eb_n 2 (323, [.ref a0, .ref a1, .int a2, .retAddr 0, .retAddr 0, .retAddr 0, .retAddr 0, .retAddr 0, .retAddr 0, .retAddr 0, .int x105, .retAddr 0, .retAddr 0], [.int x105, .ref a0], h110) (rfl) ?_
    obtain ⟨g111, e⟩ := gd_some e
    obtain ⟨h112, r113, eh112, e⟩ := bn_some e
    refine eb_cg (p := hT h110 a0 = 1) rfl g111 (f_QuillBoats_grant_ev d (Nat.le_trans (by decide) hd) eh112) ?_
    show Eb _ 6 (326, [.ref a0, .ref a1, .int a2, .retAddr 0, .retAddr 0, .retAddr 0, .retAddr 0, .retAddr 0, .retAddr 0, .retAddr 0, .int x105, .retAddr 0, .retAddr 0], [.int r113], h112) _ _
    refine eb_n 1 (327, [.ref a0, .ref a1, .int a2, .retAddr 0, .retAddr 0, .retAddr 0, .retAddr 0, .retAddr 0, .retAddr 0, .retAddr 0, .int x105, .retAddr 0, .retAddr 0], [.ref a1, .int r113], h112) (rfl) ?_
    obtain ⟨g114, e⟩ := gd_some e
    refine eb_g (p := hT h112 a1 = 13) (330, [.ref a0, .ref a1, .int a2, .retAddr 0, .retAddr 0, .retAddr 0, .retAddr 0, .retAddr 0, .retAddr 0, .retAddr 0, .int x105, .retAddr 0, .retAddr 0], [.int (hI h112 a1 1), .int r113], h112) rfl g114 ?_
    refine eb_b (c := ¬ r113 = (hI h112 a1 1)) (337, [.ref a0, .ref a1, .int a2, .retAddr 0, .retAddr 0, .retAddr 0, .retAddr 0, .retAddr 0, .retAddr 0, .retAddr 0, .int x105, .retAddr 0, .retAddr 0], [], h112) (333, [.ref a0, .ref a1, .int a2, .retAddr 0, .retAddr 0, .retAddr 0, .retAddr 0, .retAddr 0, .retAddr 0, .retAddr 0, .int x105, .retAddr 0, .retAddr 0], [], h112) rfl (fun c115 => ?_) (fun c115 => ?_)
    · replace e := ite_t c115 e
      refine eb_n 1 (338, [.ref a0, .ref a1, .int a2, .retAddr 0, .retAddr 0, .retAddr 0, .retAddr 0, .retAddr 0, .retAddr 0, .retAddr 0, .int x105, .retAddr 0, .retAddr 0], [.int (nI 0)], h112) (rfl) ?_
      rw [(sp_inj e).1, (sp_inj e).2]
      exact eb_rg (p := nrm 3 (nI 0)) rfl nrm_30
    · replace e := ite_f c115 e
      refine eb_n 2 (338, [.ref a0, .ref a1, .int a2, .retAddr 0, .retAddr 0, .retAddr 0, .retAddr 0, .retAddr 0, .retAddr 0, .retAddr 0, .int x105, .retAddr 0, .retAddr 0], [.int (nI 1)], h112) (rfl) ?_
      rw [(sp_inj e).1, (sp_inj e).2]
      exact eb_rg (p := nrm 3 (nI 1)) rfl nrm_31
  replace e := ite_f c102 e
  refine eb_1 (f' := (339, [.ref a0, .ref a1, .int a2, .retAddr 0, .retAddr 0, .retAddr 0, .retAddr 0, .retAddr 0, .retAddr 0, .retAddr 0, .retAddr 0, .retAddr 0, .retAddr 0], [], h1)) (tsw_d (tsw_out (x := r2) (lo := 0) (n := 6) (by decide) (by decide) (fun k hk => match k, hk with | 0, _ => c3 | 1, _ => c19 | 2, _ => c45 | 3, _ => c71 | 4, _ => c87 | 5, _ => c102 | k + 6, hk => absurd hk (by omega))) rfl rfl) ?_
  refine eb_n 5 (345, [.ref a0, .ref a1, .int a2, .retAddr 0, .retAddr 0, .retAddr 0, .retAddr 0, .retAddr 0, .retAddr 0, .retAddr 0, .retAddr 0, .retAddr 0, .retAddr 0], [.int (nI 9), .int (a2 >>> ((nI 2) &&& 31)), .int (nI 1)], h1) (rfl) ?_
  obtain ⟨h116, r117, eh116, e⟩ := bn_some e
  refine eb_c rfl (f_Law_below_ev d (Nat.le_trans (by decide) hd) eh116) ?_
  show Eb _ 6 (348, [.ref a0, .ref a1, .int a2, .retAddr 0, .retAddr 0, .retAddr 0, .retAddr 0, .retAddr 0, .retAddr 0, .retAddr 0, .retAddr 0, .retAddr 0, .retAddr 0], [.int r117, .int (nI 1)], h116) _ _
  obtain ⟨x118, hx118, e⟩ := lq_some e
  refine eb_n 2 (351, [.ref a0, .ref a1, .int a2, .retAddr 0, .retAddr 0, .retAddr 0, .retAddr 0, .retAddr 0, .retAddr 0, .retAddr 0, .retAddr 0, .int x118, .retAddr 0], [], h116) (by subst hx118; rfl) ?_
  refine eb_n 1 (352, [.ref a0, .ref a1, .int a2, .retAddr 0, .retAddr 0, .retAddr 0, .retAddr 0, .retAddr 0, .retAddr 0, .retAddr 0, .retAddr 0, .int x118, .retAddr 0], [.ref a1], h116) (rfl) ?_
  obtain ⟨g119, e⟩ := gd_some e
  refine eb_g (p := hT h116 a1 = 13) (355, [.ref a0, .ref a1, .int a2, .retAddr 0, .retAddr 0, .retAddr 0, .retAddr 0, .retAddr 0, .retAddr 0, .retAddr 0, .retAddr 0, .int x118, .retAddr 0], [.int (hI h116 a1 2)], h116) rfl g119 ?_
  obtain ⟨x120, hx120, e⟩ := lq_some e
  refine eb_n 1 (357, [.ref a0, .ref a1, .int a2, .retAddr 0, .retAddr 0, .retAddr 0, .retAddr 0, .retAddr 0, .retAddr 0, .retAddr 0, .retAddr 0, .int x118, .int x120], [], h116) (by subst hx120; rfl) ?_
  refine eb_n 2 (360, [.ref a0, .ref a1, .int a2, .retAddr 0, .retAddr 0, .retAddr 0, .retAddr 0, .retAddr 0, .retAddr 0, .retAddr 0, .retAddr 0, .int x118, .int x120], [.int x118, .ref a1], h116) (rfl) ?_
  obtain ⟨h121, r122, eh121, e⟩ := bn_some e
  refine eb_cg (p := hT h116 a1 = 13) rfl g119 (f_Sim_behind_ev d (Nat.le_trans (by decide) hd) eh121) ?_
  show Eb _ 6 (363, [.ref a0, .ref a1, .int a2, .retAddr 0, .retAddr 0, .retAddr 0, .retAddr 0, .retAddr 0, .retAddr 0, .retAddr 0, .retAddr 0, .int x118, .int x120], [.ref r122], h121) _ _
  refine eb_n 3 (367, [.ref a0, .ref a1, .int a2, .retAddr 0, .retAddr 0, .retAddr 0, .retAddr 0, .retAddr 0, .retAddr 0, .retAddr 0, .retAddr 0, .int x118, .int x120], [.int x118, .ref a0], h121) (rfl) ?_
  obtain ⟨g123, e⟩ := gd_some e
  obtain ⟨h124, r125, eh124, e⟩ := bn_some e
  refine eb_cg (p := hT h121 a0 = 1) rfl g123 (f_QuillBoats_pass_ev d (Nat.le_trans (by decide) hd) eh124) ?_
  show Eb _ 6 (370, [.ref a0, .ref a1, .int a2, .retAddr 0, .retAddr 0, .retAddr 0, .retAddr 0, .retAddr 0, .retAddr 0, .retAddr 0, .retAddr 0, .int x118, .int x120], [.int r125], h124) _ _
  refine eb_n 1 (371, [.ref a0, .ref a1, .int a2, .retAddr 0, .retAddr 0, .retAddr 0, .retAddr 0, .retAddr 0, .retAddr 0, .retAddr 0, .retAddr 0, .int x118, .int x120], [.ref a1, .int r125], h124) (rfl) ?_
  obtain ⟨g126, e⟩ := gd_some e
  refine eb_g (p := hT h124 a1 = 13) (374, [.ref a0, .ref a1, .int a2, .retAddr 0, .retAddr 0, .retAddr 0, .retAddr 0, .retAddr 0, .retAddr 0, .retAddr 0, .retAddr 0, .int x118, .int x120], [.int (hI h124 a1 2), .int r125], h124) rfl g126 ?_
  refine eb_n 2 (377, [.ref a0, .ref a1, .int a2, .retAddr 0, .retAddr 0, .retAddr 0, .retAddr 0, .retAddr 0, .retAddr 0, .retAddr 0, .retAddr 0, .int x118, .int x120], [.int ((hI h124 a1 2) - x120), .int r125], h124) (rfl) ?_
  refine eb_b (c := ¬ r125 = ((hI h124 a1 2) - x120)) (384, [.ref a0, .ref a1, .int a2, .retAddr 0, .retAddr 0, .retAddr 0, .retAddr 0, .retAddr 0, .retAddr 0, .retAddr 0, .retAddr 0, .int x118, .int x120], [], h124) (380, [.ref a0, .ref a1, .int a2, .retAddr 0, .retAddr 0, .retAddr 0, .retAddr 0, .retAddr 0, .retAddr 0, .retAddr 0, .retAddr 0, .int x118, .int x120], [], h124) rfl (fun c127 => ?_) (fun c127 => ?_)
  · replace e := ite_t c127 e
    refine eb_n 1 (385, [.ref a0, .ref a1, .int a2, .retAddr 0, .retAddr 0, .retAddr 0, .retAddr 0, .retAddr 0, .retAddr 0, .retAddr 0, .retAddr 0, .int x118, .int x120], [.int (nI 0)], h124) (rfl) ?_
    rw [(sp_inj e).1, (sp_inj e).2]
    exact eb_rg (p := nrm 3 (nI 0)) rfl nrm_30
  · replace e := ite_f c127 e
    refine eb_n 2 (385, [.ref a0, .ref a1, .int a2, .retAddr 0, .retAddr 0, .retAddr 0, .retAddr 0, .retAddr 0, .retAddr 0, .retAddr 0, .retAddr 0, .int x118, .int x120], [.int (nI 1)], h124) (rfl) ?_
    rw [(sp_inj e).1, (sp_inj e).2]
    exact eb_rg (p := nrm 3 (nI 1)) rfl nrm_31
set_option maxRecDepth 100000 in
set_option maxHeartbeats 4000000 in
theorem f_River_storedQuills_b4_ev {h' : AH} {r : Int32} (d : Nat) (hd : 0 ≤ d) (k4 : AH → Nat → Int32 → Int32 → Option (AH × Int32)) (hk4 : ∀ (h : AH) (a0 : Nat) (a1 : Int32) (a2 : Int32)  , k4 h a0 a1 a2 = some (h', r) → Eb (Ev tb mL d) 115 (4, [.ref a0, .int a1, .int a2], [], h) h' (some (.int r)))  (h : AH) (a0 : Nat) (a1 : Int32) (a2 : Int32)   (e : f_River_storedQuills_b4 k4 h a0 a1 a2 = some (h', r)) : Eb (Ev tb mL d) 115 (4, [.ref a0, .int a1, .int a2], [], h) h' (some (.int r)) := by
  unfold f_River_storedQuills_b4 at e
  refine eb_n 2 (6, [.ref a0, .int a1, .int a2], [.int (nI 4), .int a2], h) (rfl) ?_
  refine eb_b (c := (nI 4) ≤ a2) (27, [.ref a0, .int a1, .int a2], [], h) (9, [.ref a0, .int a1, .int a2], [], h) rfl (fun c1 => ?_) (fun c1 => ?_)
  · replace e := ite_t c1 e
    refine eb_n 1 (28, [.ref a0, .int a1, .int a2], [.int a1], h) (rfl) ?_
    rw [(sp_inj e).1, (sp_inj e).2]
    exact eb_rg (p := nrm 0 a1) rfl (nrm_0 _)
  · replace e := ite_f c1 e
    refine eb_n 2 (11, [.ref a0, .int a1, .int a2], [.ref a0, .int a1], h) (rfl) ?_
    obtain ⟨g2, e⟩ := gd_some e
    refine eb_g (p := hT h a0 = 3) (14, [.ref a0, .int a1, .int a2], [.ref (hR h a0 4), .int a1], h) rfl g2 ?_
    refine eb_n 1 (15, [.ref a0, .int a1, .int a2], [.int a2, .ref (hR h a0 4), .int a1], h) (rfl) ?_
    obtain ⟨g3, e⟩ := gd_some e
    refine eb_g (p := hT h (hR h a0 4) = 108 ∧ inb a2 (hL h (hR h a0 4))) (16, [.ref a0, .int a1, .int a2], [.ref (hR h (hR h a0 4) (ix a2)), .int a1], h) rfl g3 ?_
    obtain ⟨g4, e⟩ := gd_some e
    refine eb_g (p := hT h (hR h (hR h a0 4) (ix a2)) = 8) (19, [.ref a0, .int a1, .int a2], [.int (hI h (hR h (hR h a0 4) (ix a2)) 0), .int a1], h) rfl g4 ?_
    obtain ⟨x5, hx5, e⟩ := lq_some e
    refine eb_n 2 (21, [.ref a0, .int x5, .int a2], [], h) (by subst hx5; rfl) ?_
    obtain ⟨x6, hx6, e⟩ := lq_some e
    refine eb_n 1 (24, [.ref a0, .int x5, .int x6], [], h) (by subst hx6; rfl) ?_
    refine eb_n 1 (4, [.ref a0, .int x5, .int x6], [], h) (rfl) ?_
    exact hk4 _ _ _ _  e
set_option maxRecDepth 100000 in
set_option maxHeartbeats 4000000 in
theorem f_River_storedQuills_l4_ev {h' : AH} {r : Int32} (d : Nat) (hd : 0 ≤ d)  : ∀ (n : Nat) (h : AH) (a0 : Nat) (a1 : Int32) (a2 : Int32)   (_ : f_River_storedQuills_l4  n h a0 a1 a2 = some (h', r)), Eb (Ev tb mL d) 115 (4, [.ref a0, .int a1, .int a2], [], h) h' (some (.int r)) := by
  intro n
  induction n with
  | zero => intro h a0 a1 a2  e; exact nomatch e
  | succ n ih =>
    intro h a0 a1 a2  e
    exact f_River_storedQuills_b4_ev d hd _ (fun h a0 a1 a2  e => ih h a0 a1 a2  e) h a0 a1 a2  e
set_option maxRecDepth 100000 in
set_option maxHeartbeats 4000000 in
theorem f_River_storedQuills_ev (d0 : Nat) (hd0 : 1 ≤ d0) {h' : AH} {r : Int32} {h : AH} {a0 : Nat} (e : f_River_storedQuills h a0 = some (h', r)) : Ev tb mL d0 115 [.ref a0] h h' (some (.int r)) := by
  obtain ⟨d, rfl⟩ : ∃ d, d0 = d + 1 := ⟨d0 - 1, by omega⟩
  have hd : 0 ≤ d := by omega
  refine ⟨Nat.le_of_ble_eq_true rfl, ?_⟩
  show Eb (Ev tb mL d) 115 (0, [.ref a0, .retAddr 0, .retAddr 0], [], h) h' (some (.int r))
  unfold f_River_storedQuills at e
  refine eb_n 4 (4, [.ref a0, .int (nI 0), .int (nI 0)], [], h) (rfl) ?_
  exact f_River_storedQuills_l4_ev d hd   FU _ _ _ _  e
set_option maxRecDepth 100000 in
set_option maxHeartbeats 4000000 in
theorem f_Rack_lyingQuills_ev (d0 : Nat) (hd0 : 1 ≤ d0) {h' : AH} {r : Int32} {h : AH} {a0 : Nat} (e : f_Rack_lyingQuills h a0 = some (h', r)) : Ev tb mL d0 150 [.ref a0] h h' (some (.int r)) := by
  obtain ⟨d, rfl⟩ : ∃ d, d0 = d + 1 := ⟨d0 - 1, by omega⟩
  have hd : 0 ≤ d := by omega
  refine ⟨Nat.le_of_ble_eq_true rfl, ?_⟩
  show Eb (Ev tb mL d) 150 (0, [.ref a0], [], h) h' (some (.int r))
  unfold f_Rack_lyingQuills at e
  refine eb_n 1 (1, [.ref a0], [.ref a0], h) (rfl) ?_
  obtain ⟨g1, e⟩ := gd_some e
  refine eb_g (p := hT h a0 = 5) (4, [.ref a0], [.int (hI h a0 1)], h) rfl g1 ?_
  rw [(sp_inj e).1, (sp_inj e).2]
  exact eb_rg (p := nrm 0 (hI h a0 1)) rfl (nrm_0 _)
set_option maxRecDepth 100000 in
set_option maxHeartbeats 4000000 in
theorem f_River_dryingQuills_b4_ev {h' : AH} {r : Int32} (d : Nat) (hd : 1 ≤ d) (k4 : AH → Nat → Int32 → Int32 → Option (AH × Int32)) (hk4 : ∀ (h : AH) (a0 : Nat) (a1 : Int32) (a2 : Int32)  , k4 h a0 a1 a2 = some (h', r) → Eb (Ev tb mL d) 116 (4, [.ref a0, .int a1, .int a2], [], h) h' (some (.int r)))  (h : AH) (a0 : Nat) (a1 : Int32) (a2 : Int32)   (e : f_River_dryingQuills_b4 k4 h a0 a1 a2 = some (h', r)) : Eb (Ev tb mL d) 116 (4, [.ref a0, .int a1, .int a2], [], h) h' (some (.int r)) := by
  unfold f_River_dryingQuills_b4 at e
  refine eb_n 2 (6, [.ref a0, .int a1, .int a2], [.ref a0, .int a2], h) (rfl) ?_
  obtain ⟨g1, e⟩ := gd_some e
  refine eb_g (p := hT h a0 = 3) (9, [.ref a0, .int a1, .int a2], [.int (hI h a0 7), .int a2], h) rfl g1 ?_
  refine eb_b (c := (hI h a0 7) ≤ a2) (35, [.ref a0, .int a1, .int a2], [], h) (12, [.ref a0, .int a1, .int a2], [], h) rfl (fun c2 => ?_) (fun c2 => ?_)
  · replace e := ite_t c2 e
    refine eb_n 1 (36, [.ref a0, .int a1, .int a2], [.int a1], h) (rfl) ?_
    rw [(sp_inj e).1, (sp_inj e).2]
    exact eb_rg (p := nrm 0 a1) rfl (nrm_0 _)
  · replace e := ite_f c2 e
    refine eb_n 2 (14, [.ref a0, .int a1, .int a2], [.int (nI 4), .int a2], h) (rfl) ?_
    refine eb_b (c := (nI 4) ≤ a2) (35, [.ref a0, .int a1, .int a2], [], h) (17, [.ref a0, .int a1, .int a2], [], h) rfl (fun c3 => ?_) (fun c3 => ?_)
    · replace e := ite_t c3 e
      refine eb_n 1 (36, [.ref a0, .int a1, .int a2], [.int a1], h) (rfl) ?_
      rw [(sp_inj e).1, (sp_inj e).2]
      exact eb_rg (p := nrm 0 a1) rfl (nrm_0 _)
    · replace e := ite_f c3 e
      refine eb_n 2 (19, [.ref a0, .int a1, .int a2], [.ref a0, .int a1], h) (rfl) ?_
      refine eb_g (p := hT h a0 = 3) (22, [.ref a0, .int a1, .int a2], [.ref (hR h a0 1), .int a1], h) rfl g1 ?_
      refine eb_n 1 (23, [.ref a0, .int a1, .int a2], [.int a2, .ref (hR h a0 1), .int a1], h) (rfl) ?_
      obtain ⟨g4, e⟩ := gd_some e
      refine eb_g (p := hT h (hR h a0 1) = 105 ∧ inb a2 (hL h (hR h a0 1))) (24, [.ref a0, .int a1, .int a2], [.ref (hR h (hR h a0 1) (ix a2)), .int a1], h) rfl g4 ?_
      obtain ⟨g5, e⟩ := gd_some e
      obtain ⟨h6, r7, eh6, e⟩ := bn_some e
      refine eb_cg (p := hT h (hR h (hR h a0 1) (ix a2)) = 5) rfl g5 (f_Rack_lyingQuills_ev d (Nat.le_trans (by decide) hd) eh6) ?_
      show Eb _ 116 (27, [.ref a0, .int a1, .int a2], [.int r7, .int a1], h6) _ _
      obtain ⟨x8, hx8, e⟩ := lq_some e
      refine eb_n 2 (29, [.ref a0, .int x8, .int a2], [], h6) (by subst hx8; rfl) ?_
      obtain ⟨x9, hx9, e⟩ := lq_some e
      refine eb_n 1 (32, [.ref a0, .int x8, .int x9], [], h6) (by subst hx9; rfl) ?_
      refine eb_n 1 (4, [.ref a0, .int x8, .int x9], [], h6) (rfl) ?_
      exact hk4 _ _ _ _  e
set_option maxRecDepth 100000 in
set_option maxHeartbeats 4000000 in
theorem f_River_dryingQuills_l4_ev {h' : AH} {r : Int32} (d : Nat) (hd : 1 ≤ d)  : ∀ (n : Nat) (h : AH) (a0 : Nat) (a1 : Int32) (a2 : Int32)   (_ : f_River_dryingQuills_l4  n h a0 a1 a2 = some (h', r)), Eb (Ev tb mL d) 116 (4, [.ref a0, .int a1, .int a2], [], h) h' (some (.int r)) := by
  intro n
  induction n with
  | zero => intro h a0 a1 a2  e; exact nomatch e
  | succ n ih =>
    intro h a0 a1 a2  e
    exact f_River_dryingQuills_b4_ev d hd _ (fun h a0 a1 a2  e => ih h a0 a1 a2  e) h a0 a1 a2  e
set_option maxRecDepth 100000 in
set_option maxHeartbeats 4000000 in
theorem f_River_dryingQuills_ev (d0 : Nat) (hd0 : 2 ≤ d0) {h' : AH} {r : Int32} {h : AH} {a0 : Nat} (e : f_River_dryingQuills h a0 = some (h', r)) : Ev tb mL d0 116 [.ref a0] h h' (some (.int r)) := by
  obtain ⟨d, rfl⟩ : ∃ d, d0 = d + 1 := ⟨d0 - 1, by omega⟩
  have hd : 1 ≤ d := by omega
  refine ⟨Nat.le_of_ble_eq_true rfl, ?_⟩
  show Eb (Ev tb mL d) 116 (0, [.ref a0, .retAddr 0, .retAddr 0], [], h) h' (some (.int r))
  unfold f_River_dryingQuills at e
  refine eb_n 4 (4, [.ref a0, .int (nI 0), .int (nI 0)], [], h) (rfl) ?_
  exact f_River_dryingQuills_l4_ev d hd   FU _ _ _ _  e
set_option maxRecDepth 100000 in
set_option maxHeartbeats 4000000 in
theorem f_River_shippedQuills_b4_ev {h' : AH} {r : Int32} (d : Nat) (hd : 0 ≤ d) (k4 : AH → Nat → Int32 → Int32 → Option (AH × Int32)) (hk4 : ∀ (h : AH) (a0 : Nat) (a1 : Int32) (a2 : Int32)  , k4 h a0 a1 a2 = some (h', r) → Eb (Ev tb mL d) 117 (4, [.ref a0, .int a1, .int a2], [], h) h' (some (.int r)))  (h : AH) (a0 : Nat) (a1 : Int32) (a2 : Int32)   (e : f_River_shippedQuills_b4 k4 h a0 a1 a2 = some (h', r)) : Eb (Ev tb mL d) 117 (4, [.ref a0, .int a1, .int a2], [], h) h' (some (.int r)) := by
  unfold f_River_shippedQuills_b4 at e
  refine eb_n 2 (6, [.ref a0, .int a1, .int a2], [.ref a0, .int a2], h) (rfl) ?_
  obtain ⟨g1, e⟩ := gd_some e
  refine eb_g (p := hT h a0 = 3) (9, [.ref a0, .int a1, .int a2], [.int (hI h a0 9), .int a2], h) rfl g1 ?_
  refine eb_b (c := (hI h a0 9) ≤ a2) (35, [.ref a0, .int a1, .int a2], [], h) (12, [.ref a0, .int a1, .int a2], [], h) rfl (fun c2 => ?_) (fun c2 => ?_)
  · replace e := ite_t c2 e
    refine eb_n 1 (36, [.ref a0, .int a1, .int a2], [.int a1], h) (rfl) ?_
    rw [(sp_inj e).1, (sp_inj e).2]
    exact eb_rg (p := nrm 0 a1) rfl (nrm_0 _)
  · replace e := ite_f c2 e
    refine eb_n 2 (14, [.ref a0, .int a1, .int a2], [.int (nI 4), .int a2], h) (rfl) ?_
    refine eb_b (c := (nI 4) ≤ a2) (35, [.ref a0, .int a1, .int a2], [], h) (17, [.ref a0, .int a1, .int a2], [], h) rfl (fun c3 => ?_) (fun c3 => ?_)
    · replace e := ite_t c3 e
      refine eb_n 1 (36, [.ref a0, .int a1, .int a2], [.int a1], h) (rfl) ?_
      rw [(sp_inj e).1, (sp_inj e).2]
      exact eb_rg (p := nrm 0 a1) rfl (nrm_0 _)
    · replace e := ite_f c3 e
      refine eb_n 2 (19, [.ref a0, .int a1, .int a2], [.ref a0, .int a1], h) (rfl) ?_
      refine eb_g (p := hT h a0 = 3) (22, [.ref a0, .int a1, .int a2], [.ref (hR h a0 3), .int a1], h) rfl g1 ?_
      refine eb_n 1 (23, [.ref a0, .int a1, .int a2], [.int a2, .ref (hR h a0 3), .int a1], h) (rfl) ?_
      obtain ⟨g4, e⟩ := gd_some e
      refine eb_g (p := hT h (hR h a0 3) = 107 ∧ inb a2 (hL h (hR h a0 3))) (24, [.ref a0, .int a1, .int a2], [.ref (hR h (hR h a0 3) (ix a2)), .int a1], h) rfl g4 ?_
      obtain ⟨g5, e⟩ := gd_some e
      refine eb_g (p := hT h (hR h (hR h a0 3) (ix a2)) = 7) (27, [.ref a0, .int a1, .int a2], [.int (hI h (hR h (hR h a0 3) (ix a2)) 4), .int a1], h) rfl g5 ?_
      obtain ⟨x6, hx6, e⟩ := lq_some e
      refine eb_n 2 (29, [.ref a0, .int x6, .int a2], [], h) (by subst hx6; rfl) ?_
      obtain ⟨x7, hx7, e⟩ := lq_some e
      refine eb_n 1 (32, [.ref a0, .int x6, .int x7], [], h) (by subst hx7; rfl) ?_
      refine eb_n 1 (4, [.ref a0, .int x6, .int x7], [], h) (rfl) ?_
      exact hk4 _ _ _ _  e
set_option maxRecDepth 100000 in
set_option maxHeartbeats 4000000 in
theorem f_River_shippedQuills_l4_ev {h' : AH} {r : Int32} (d : Nat) (hd : 0 ≤ d)  : ∀ (n : Nat) (h : AH) (a0 : Nat) (a1 : Int32) (a2 : Int32)   (_ : f_River_shippedQuills_l4  n h a0 a1 a2 = some (h', r)), Eb (Ev tb mL d) 117 (4, [.ref a0, .int a1, .int a2], [], h) h' (some (.int r)) := by
  intro n
  induction n with
  | zero => intro h a0 a1 a2  e; exact nomatch e
  | succ n ih =>
    intro h a0 a1 a2  e
    exact f_River_shippedQuills_b4_ev d hd _ (fun h a0 a1 a2  e => ih h a0 a1 a2  e) h a0 a1 a2  e
set_option maxRecDepth 100000 in
set_option maxHeartbeats 4000000 in
theorem f_River_shippedQuills_ev (d0 : Nat) (hd0 : 1 ≤ d0) {h' : AH} {r : Int32} {h : AH} {a0 : Nat} (e : f_River_shippedQuills h a0 = some (h', r)) : Ev tb mL d0 117 [.ref a0] h h' (some (.int r)) := by
  obtain ⟨d, rfl⟩ : ∃ d, d0 = d + 1 := ⟨d0 - 1, by omega⟩
  have hd : 0 ≤ d := by omega
  refine ⟨Nat.le_of_ble_eq_true rfl, ?_⟩
  show Eb (Ev tb mL d) 117 (0, [.ref a0, .retAddr 0, .retAddr 0], [], h) h' (some (.int r))
  unfold f_River_shippedQuills at e
  refine eb_n 4 (4, [.ref a0, .int (nI 0), .int (nI 0)], [], h) (rfl) ?_
  exact f_River_shippedQuills_l4_ev d hd   FU _ _ _ _  e
set_option maxRecDepth 100000 in
set_option maxHeartbeats 4000000 in
theorem f_River_total_ev (d0 : Nat) (hd0 : 3 ≤ d0) {h' : AH} {r : Int32} {h : AH} {a0 : Nat} {a1 : Int32} (e : f_River_total h a0 a1 = some (h', r)) : Ev tb mL d0 69 [.ref a0, .int a1] h h' (some (.int r)) := by
  obtain ⟨d, rfl⟩ : ∃ d, d0 = d + 1 := ⟨d0 - 1, by omega⟩
  have hd : 2 ≤ d := by omega
  refine ⟨Nat.le_of_ble_eq_true rfl, ?_⟩
  show Eb (Ev tb mL d) 69 (0, [.ref a0, .int a1], [], h) h' (some (.int r))
  unfold f_River_total at e
  refine eb_n 1 (1, [.ref a0, .int a1], [.int a1], h) (rfl) ?_
  by_cases c1 : a1 = nI 0
  · replace e := ite_t c1 e
    refine eb_n 1 (72, [.ref a0, .int a1], [], h) (by rw [c1]; rfl) ?_
    refine eb_n 1 (73, [.ref a0, .int a1], [.ref a0], h) (rfl) ?_
    obtain ⟨g2, e⟩ := gd_some e
    refine eb_g (p := hT h a0 = 3) (76, [.ref a0, .int a1], [.int (hI h a0 11)], h) rfl g2 ?_
    rw [(sp_inj e).1, (sp_inj e).2]
    exact eb_rg (p := nrm 0 (hI h a0 11)) rfl (nrm_0 _)
  replace e := ite_f c1 e
  by_cases c3 : a1 = nI 1
  · replace e := ite_t c3 e
    refine eb_n 1 (77, [.ref a0, .int a1], [], h) (by rw [c3]; rfl) ?_
    refine eb_n 1 (78, [.ref a0, .int a1], [.ref a0], h) (rfl) ?_
    obtain ⟨g4, e⟩ := gd_some e
    refine eb_g (p := hT h a0 = 3) (81, [.ref a0, .int a1], [.int (hI h a0 12)], h) rfl g4 ?_
    rw [(sp_inj e).1, (sp_inj e).2]
    exact eb_rg (p := nrm 0 (hI h a0 12)) rfl (nrm_0 _)
  replace e := ite_f c3 e
  by_cases c5 : a1 = nI 2
  · replace e := ite_t c5 e
    refine eb_n 1 (82, [.ref a0, .int a1], [], h) (by rw [c5]; rfl) ?_
    refine eb_n 1 (83, [.ref a0, .int a1], [.ref a0], h) (rfl) ?_
    obtain ⟨g6, e⟩ := gd_some e
    refine eb_g (p := hT h a0 = 3) (86, [.ref a0, .int a1], [.int (hI h a0 6)], h) rfl g6 ?_
    rw [(sp_inj e).1, (sp_inj e).2]
    exact eb_rg (p := nrm 0 (hI h a0 6)) rfl (nrm_0 _)
  replace e := ite_f c5 e
  by_cases c7 : a1 = nI 3
  · replace e := ite_t c7 e
    refine eb_n 1 (87, [.ref a0, .int a1], [], h) (by rw [c7]; rfl) ?_
    refine eb_n 1 (88, [.ref a0, .int a1], [.ref a0], h) (rfl) ?_
    obtain ⟨g8, e⟩ := gd_some e
    refine eb_g (p := hT h a0 = 3) (91, [.ref a0, .int a1], [.int (hI h a0 7)], h) rfl g8 ?_
    rw [(sp_inj e).1, (sp_inj e).2]
    exact eb_rg (p := nrm 0 (hI h a0 7)) rfl (nrm_0 _)
  replace e := ite_f c7 e
  by_cases c9 : a1 = nI 4
  · replace e := ite_t c9 e
    refine eb_n 1 (92, [.ref a0, .int a1], [], h) (by rw [c9]; rfl) ?_
    refine eb_n 1 (93, [.ref a0, .int a1], [.ref a0], h) (rfl) ?_
    obtain ⟨g10, e⟩ := gd_some e
    refine eb_g (p := hT h a0 = 3) (96, [.ref a0, .int a1], [.int (hI h a0 8)], h) rfl g10 ?_
    rw [(sp_inj e).1, (sp_inj e).2]
    exact eb_rg (p := nrm 0 (hI h a0 8)) rfl (nrm_0 _)
  replace e := ite_f c9 e
  by_cases c11 : a1 = nI 5
  · replace e := ite_t c11 e
    refine eb_n 1 (97, [.ref a0, .int a1], [], h) (by rw [c11]; rfl) ?_
    refine eb_n 1 (98, [.ref a0, .int a1], [.ref a0], h) (rfl) ?_
    obtain ⟨g12, e⟩ := gd_some e
    refine eb_g (p := hT h a0 = 3) (101, [.ref a0, .int a1], [.int (hI h a0 9)], h) rfl g12 ?_
    rw [(sp_inj e).1, (sp_inj e).2]
    exact eb_rg (p := nrm 0 (hI h a0 9)) rfl (nrm_0 _)
  replace e := ite_f c11 e
  by_cases c13 : a1 = nI 6
  · replace e := ite_t c13 e
    refine eb_n 1 (102, [.ref a0, .int a1], [], h) (by rw [c13]; rfl) ?_
    refine eb_n 1 (103, [.ref a0, .int a1], [.ref a0], h) (rfl) ?_
    obtain ⟨g14, e⟩ := gd_some e
    refine eb_g (p := hT h a0 = 3) (106, [.ref a0, .int a1], [.int (hI h a0 10)], h) rfl g14 ?_
    rw [(sp_inj e).1, (sp_inj e).2]
    exact eb_rg (p := nrm 0 (hI h a0 10)) rfl (nrm_0 _)
  replace e := ite_f c13 e
  by_cases c15 : a1 = nI 7
  · replace e := ite_t c15 e
    refine eb_n 1 (107, [.ref a0, .int a1], [], h) (by rw [c15]; rfl) ?_
    refine eb_n 1 (108, [.ref a0, .int a1], [.ref a0], h) (rfl) ?_
    obtain ⟨g16, e⟩ := gd_some e
    obtain ⟨h17, r18, eh17, e⟩ := bn_some e
    refine eb_cg (p := hT h a0 = 3) rfl g16 (f_River_storedQuills_ev d (Nat.le_trans (by decide) hd) eh17) ?_
    show Eb _ 69 (111, [.ref a0, .int a1], [.int r18], h17) _ _
    rw [(sp_inj e).1, (sp_inj e).2]
    exact eb_rg (p := nrm 0 r18) rfl (nrm_0 _)
  replace e := ite_f c15 e
  by_cases c19 : a1 = nI 8
  · replace e := ite_t c19 e
    refine eb_n 1 (112, [.ref a0, .int a1], [], h) (by rw [c19]; rfl) ?_
    refine eb_n 1 (113, [.ref a0, .int a1], [.ref a0], h) (rfl) ?_
    obtain ⟨g20, e⟩ := gd_some e
    obtain ⟨h21, r22, eh21, e⟩ := bn_some e
    refine eb_cg (p := hT h a0 = 3) rfl g20 (f_River_dryingQuills_ev d (Nat.le_trans (by decide) hd) eh21) ?_
    show Eb _ 69 (116, [.ref a0, .int a1], [.int r22], h21) _ _
    rw [(sp_inj e).1, (sp_inj e).2]
    exact eb_rg (p := nrm 0 r22) rfl (nrm_0 _)
  replace e := ite_f c19 e
  by_cases c23 : a1 = nI 9
  · replace e := ite_t c23 e
    refine eb_n 1 (117, [.ref a0, .int a1], [], h) (by rw [c23]; rfl) ?_
    refine eb_n 1 (118, [.ref a0, .int a1], [.ref a0], h) (rfl) ?_
    obtain ⟨g24, e⟩ := gd_some e
    obtain ⟨h25, r26, eh25, e⟩ := bn_some e
    refine eb_cg (p := hT h a0 = 3) rfl g24 (f_River_shippedQuills_ev d (Nat.le_trans (by decide) hd) eh25) ?_
    show Eb _ 69 (121, [.ref a0, .int a1], [.int r26], h25) _ _
    rw [(sp_inj e).1, (sp_inj e).2]
    exact eb_rg (p := nrm 0 r26) rfl (nrm_0 _)
  replace e := ite_f c23 e
  by_cases c27 : a1 = nI 10
  · replace e := ite_t c27 e
    refine eb_n 1 (122, [.ref a0, .int a1], [], h) (by rw [c27]; rfl) ?_
    refine eb_n 1 (123, [.ref a0, .int a1], [.ref a0], h) (rfl) ?_
    obtain ⟨g28, e⟩ := gd_some e
    refine eb_g (p := hT h a0 = 3) (126, [.ref a0, .int a1], [.int (hI h a0 15)], h) rfl g28 ?_
    rw [(sp_inj e).1, (sp_inj e).2]
    exact eb_rg (p := nrm 0 (hI h a0 15)) rfl (nrm_0 _)
  replace e := ite_f c27 e
  by_cases c29 : a1 = nI 11
  · replace e := ite_t c29 e
    refine eb_n 1 (127, [.ref a0, .int a1], [], h) (by rw [c29]; rfl) ?_
    refine eb_n 1 (128, [.ref a0, .int a1], [.ref a0], h) (rfl) ?_
    obtain ⟨g30, e⟩ := gd_some e
    refine eb_g (p := hT h a0 = 3) (131, [.ref a0, .int a1], [.int (hI h a0 16)], h) rfl g30 ?_
    rw [(sp_inj e).1, (sp_inj e).2]
    exact eb_rg (p := nrm 0 (hI h a0 16)) rfl (nrm_0 _)
  replace e := ite_f c29 e
  by_cases c31 : a1 = nI 12
  · replace e := ite_t c31 e
    refine eb_n 1 (132, [.ref a0, .int a1], [], h) (by rw [c31]; rfl) ?_
    refine eb_n 1 (133, [.ref a0, .int a1], [.ref a0], h) (rfl) ?_
    obtain ⟨g32, e⟩ := gd_some e
    refine eb_g (p := hT h a0 = 3) (136, [.ref a0, .int a1], [.int (hI h a0 17)], h) rfl g32 ?_
    rw [(sp_inj e).1, (sp_inj e).2]
    exact eb_rg (p := nrm 0 (hI h a0 17)) rfl (nrm_0 _)
  replace e := ite_f c31 e
  by_cases c33 : a1 = nI 13
  · replace e := ite_t c33 e
    refine eb_n 1 (137, [.ref a0, .int a1], [], h) (by rw [c33]; rfl) ?_
    refine eb_n 1 (138, [.ref a0, .int a1], [.ref a0], h) (rfl) ?_
    obtain ⟨g34, e⟩ := gd_some e
    refine eb_g (p := hT h a0 = 3) (141, [.ref a0, .int a1], [.int (hI h a0 13)], h) rfl g34 ?_
    rw [(sp_inj e).1, (sp_inj e).2]
    exact eb_rg (p := nrm 0 (hI h a0 13)) rfl (nrm_0 _)
  replace e := ite_f c33 e
  refine eb_1 (f' := (142, [.ref a0, .int a1], [], h)) (tsw_d (tsw_out (x := a1) (lo := 0) (n := 14) (by decide) (by decide) (fun k hk => match k, hk with | 0, _ => c1 | 1, _ => c3 | 2, _ => c5 | 3, _ => c7 | 4, _ => c9 | 5, _ => c11 | 6, _ => c13 | 7, _ => c15 | 8, _ => c19 | 9, _ => c23 | 10, _ => c27 | 11, _ => c29 | 12, _ => c31 | 13, _ => c33 | k + 14, hk => absurd hk (by omega))) rfl rfl) ?_
  refine eb_n 1 (143, [.ref a0, .int a1], [.ref a0], h) (rfl) ?_
  obtain ⟨g35, e⟩ := gd_some e
  refine eb_g (p := hT h a0 = 3) (146, [.ref a0, .int a1], [.int (hI h a0 14)], h) rfl g35 ?_
  rw [(sp_inj e).1, (sp_inj e).2]
  exact eb_rg (p := nrm 0 (hI h a0 14)) rfl (nrm_0 _)
set_option maxRecDepth 100000 in
set_option maxHeartbeats 4000000 in
theorem f_QuillBoats_counted_ev (d0 : Nat) (hd0 : 4 ≤ d0) {h' : AH} {r : Int32} {h : AH} {a0 : Nat} {a1 : Int32} (e : f_QuillBoats_counted h a0 a1 = some (h', r)) : Ev tb mL d0 50 [.ref a0, .int a1] h h' (some (.int r)) := by
  obtain ⟨d, rfl⟩ : ∃ d, d0 = d + 1 := ⟨d0 - 1, by omega⟩
  have hd : 3 ≤ d := by omega
  refine ⟨Nat.le_of_ble_eq_true rfl, ?_⟩
  show Eb (Ev tb mL d) 50 (0, [.ref a0, .int a1], [], h) h' (some (.int r))
  unfold f_QuillBoats_counted at e
  refine eb_n 2 (3, [.ref a0, .int a1], [.int (nI 15), .int a1], h) (rfl) ?_
  refine eb_b (c := ¬ a1 = (nI 15)) (13, [.ref a0, .int a1], [], h) (6, [.ref a0, .int a1], [], h) rfl (fun c1 => ?_) (fun c1 => ?_)
  · replace e := ite_t c1 e
    refine eb_n 1 (14, [.ref a0, .int a1], [.ref a0], h) (rfl) ?_
    obtain ⟨g2, e⟩ := gd_some e
    refine eb_g (p := hT h a0 = 1) (17, [.ref a0, .int a1], [.ref (hR h a0 4)], h) rfl g2 ?_
    refine eb_n 1 (18, [.ref a0, .int a1], [.int a1, .ref (hR h a0 4)], h) (rfl) ?_
    obtain ⟨g3, e⟩ := gd_some e
    obtain ⟨h4, r5, eh4, e⟩ := bn_some e
    refine eb_cg (p := hT h (hR h a0 4) = 3) rfl g3 (f_River_total_ev d (Nat.le_trans (by decide) hd) eh4) ?_
    show Eb _ 50 (21, [.ref a0, .int a1], [.int r5], h4) _ _
    rw [(sp_inj e).1, (sp_inj e).2]
    exact eb_rg (p := nrm 0 r5) rfl (nrm_0 _)
  · replace e := ite_f c1 e
    refine eb_n 1 (7, [.ref a0, .int a1], [.ref a0], h) (rfl) ?_
    obtain ⟨g6, e⟩ := gd_some e
    refine eb_g (p := hT h a0 = 1) (10, [.ref a0, .int a1], [.int (hI h a0 1)], h) rfl g6 ?_
    refine eb_n 1 (21, [.ref a0, .int a1], [.int (hI h a0 1)], h) (rfl) ?_
    rw [(sp_inj e).1, (sp_inj e).2]
    exact eb_rg (p := nrm 0 (hI h a0 1)) rfl (nrm_0 _)
set_option maxRecDepth 100000 in
set_option maxHeartbeats 4000000 in
theorem f_QuillBoats_count_ev (d0 : Nat) (hd0 : 5 ≤ d0) {h' : AH} {r : Int32} {h : AH} {a0 : Nat} {a1 : Int32} (e : f_QuillBoats_count h a0 a1 = some (h', r)) : Ev tb mL d0 7 [.ref a0, .int a1] h h' (some (.int r)) := by
  obtain ⟨d, rfl⟩ : ∃ d, d0 = d + 1 := ⟨d0 - 1, by omega⟩
  have hd : 4 ≤ d := by omega
  refine ⟨Nat.le_of_ble_eq_true rfl, ?_⟩
  show Eb (Ev tb mL d) 7 (0, [.ref a0, .int a1], [], h) h' (some (.int r))
  unfold f_QuillBoats_count at e
  refine eb_n 3 (4, [.ref a0, .int a1], [.int (nI 15), .int (nI 0), .int a1], h) (rfl) ?_
  obtain ⟨h1, r2, eh1, e⟩ := bn_some e
  refine eb_c rfl (f_QuillBoats_isWithin_ev d (Nat.le_trans (by decide) hd) eh1) ?_
  show Eb _ 7 (7, [.ref a0, .int a1], [.int r2], h1) _ _
  refine eb_b (c := ¬ r2 = 0) (20, [.ref a0, .int a1], [], h1) (10, [.ref a0, .int a1], [], h1) rfl (fun c3 => ?_) (fun c3 => ?_)
  · replace e := ite_t c3 e
    refine eb_n 2 (22, [.ref a0, .int a1], [.int a1, .ref a0], h1) (rfl) ?_
    obtain ⟨g4, e⟩ := gd_some e
    obtain ⟨h5, r6, eh5, e⟩ := bn_some e
    refine eb_cg (p := hT h1 a0 = 1) rfl g4 (f_QuillBoats_counted_ev d (Nat.le_trans (by decide) hd) eh5) ?_
    show Eb _ 7 (25, [.ref a0, .int a1], [.int r6], h5) _ _
    rw [(sp_inj e).1, (sp_inj e).2]
    exact eb_rg (p := nrm 0 r6) rfl (nrm_0 _)
  · replace e := ite_f c3 e
    exact nomatch e
set_option maxRecDepth 100000 in
set_option maxHeartbeats 4000000 in
theorem f_QuillBoats_garden_b20_ev {h' : AH} {r : Int32} (d : Nat) (hd : 2 ≤ d)  (h : AH)   (d0 : Value) (d1 : Value) (d2 : Value) (e : f_QuillBoats_garden_b20  h  = some (h', r)) : Eb (Ev tb mL d) 8 (20, [d0, d1, d2], [], h) h' (some (.int r)) := by
  unfold f_QuillBoats_garden_b20 at e
  exact nomatch e
set_option maxRecDepth 100000 in
set_option maxHeartbeats 4000000 in
theorem f_QuillBoats_garden_ev (d0 : Nat) (hd0 : 3 ≤ d0) {h' : AH} {r : Int32} {h : AH} {a0 : Nat} {a1 : Int32} {a2 : Int32} (e : f_QuillBoats_garden h a0 a1 a2 = some (h', r)) : Ev tb mL d0 8 [.ref a0, .int a1, .int a2] h h' (some (.int r)) := by
  obtain ⟨d, rfl⟩ : ∃ d, d0 = d + 1 := ⟨d0 - 1, by omega⟩
  have hd : 2 ≤ d := by omega
  refine ⟨Nat.le_of_ble_eq_true rfl, ?_⟩
  show Eb (Ev tb mL d) 8 (0, [.ref a0, .int a1, .int a2], [], h) h' (some (.int r))
  unfold f_QuillBoats_garden at e
  refine eb_n 1 (1, [.ref a0, .int a1, .int a2], [.ref a0], h) (rfl) ?_
  obtain ⟨g1, e⟩ := gd_some e
  refine eb_g (p := hT h a0 = 1) (4, [.ref a0, .int a1, .int a2], [.ref (hR h a0 4)], h) rfl g1 ?_
  refine eb_n 1 (5, [.ref a0, .int a1, .int a2], [.int a1, .ref (hR h a0 4)], h) (rfl) ?_
  obtain ⟨g2, e⟩ := gd_some e
  obtain ⟨h3, r4, eh3, e⟩ := bn_some e
  refine eb_cg (p := hT h (hR h a0 4) = 3) rfl g2 (f_River_hasGarden_ev d (Nat.le_trans (by decide) hd) eh3) ?_
  show Eb _ 8 (8, [.ref a0, .int a1, .int a2], [.int r4], h3) _ _
  refine eb_b (c := r4 = 0) (20, [.ref a0, .int a1, .int a2], [], h3) (11, [.ref a0, .int a1, .int a2], [], h3) rfl (fun c5 => ?_) (fun c5 => ?_)
  · replace e := ite_t c5 e
    exact f_QuillBoats_garden_b20_ev d hd   _  _ _ _ e
  · replace e := ite_f c5 e
    refine eb_n 3 (14, [.ref a0, .int a1, .int a2], [.int (nI 3), .int (nI 0), .int a2], h3) (rfl) ?_
    obtain ⟨h6, r7, eh6, e⟩ := bn_some e
    refine eb_c rfl (f_QuillBoats_isWithin_ev d (Nat.le_trans (by decide) hd) eh6) ?_
    show Eb _ 8 (17, [.ref a0, .int a1, .int a2], [.int r7], h6) _ _
    refine eb_b (c := ¬ r7 = 0) (30, [.ref a0, .int a1, .int a2], [], h6) (20, [.ref a0, .int a1, .int a2], [], h6) rfl (fun c8 => ?_) (fun c8 => ?_)
    · replace e := ite_t c8 e
      refine eb_n 1 (31, [.ref a0, .int a1, .int a2], [.ref a0], h6) (rfl) ?_
      obtain ⟨g9, e⟩ := gd_some e
      refine eb_g (p := hT h6 a0 = 1) (34, [.ref a0, .int a1, .int a2], [.ref (hR h6 a0 4)], h6) rfl g9 ?_
      refine eb_n 2 (36, [.ref a0, .int a1, .int a2], [.int a2, .int a1, .ref (hR h6 a0 4)], h6) (rfl) ?_
      obtain ⟨g10, e⟩ := gd_some e
      obtain ⟨h11, r12, eh11, e⟩ := bn_some e
      refine eb_cg (p := hT h6 (hR h6 a0 4) = 3) rfl g10 (f_River_ofGarden_ev d (Nat.le_trans (by decide) hd) eh11) ?_
      show Eb _ 8 (39, [.ref a0, .int a1, .int a2], [.int r12], h11) _ _
      rw [(sp_inj e).1, (sp_inj e).2]
      exact eb_rg (p := nrm 0 r12) rfl (nrm_0 _)
    · replace e := ite_f c8 e
      exact f_QuillBoats_garden_b20_ev d hd   _  _ _ _ e
set_option maxRecDepth 100000 in
set_option maxHeartbeats 4000000 in
theorem f_QuillBoats_rack_b20_ev {h' : AH} {r : Int32} (d : Nat) (hd : 2 ≤ d)  (h : AH)   (d0 : Value) (d1 : Value) (d2 : Value) (e : f_QuillBoats_rack_b20  h  = some (h', r)) : Eb (Ev tb mL d) 9 (20, [d0, d1, d2], [], h) h' (some (.int r)) := by
  unfold f_QuillBoats_rack_b20 at e
  exact nomatch e
set_option maxRecDepth 100000 in
set_option maxHeartbeats 4000000 in
theorem f_QuillBoats_rack_ev (d0 : Nat) (hd0 : 3 ≤ d0) {h' : AH} {r : Int32} {h : AH} {a0 : Nat} {a1 : Int32} {a2 : Int32} (e : f_QuillBoats_rack h a0 a1 a2 = some (h', r)) : Ev tb mL d0 9 [.ref a0, .int a1, .int a2] h h' (some (.int r)) := by
  obtain ⟨d, rfl⟩ : ∃ d, d0 = d + 1 := ⟨d0 - 1, by omega⟩
  have hd : 2 ≤ d := by omega
  refine ⟨Nat.le_of_ble_eq_true rfl, ?_⟩
  show Eb (Ev tb mL d) 9 (0, [.ref a0, .int a1, .int a2], [], h) h' (some (.int r))
  unfold f_QuillBoats_rack at e
  refine eb_n 1 (1, [.ref a0, .int a1, .int a2], [.ref a0], h) (rfl) ?_
  obtain ⟨g1, e⟩ := gd_some e
  refine eb_g (p := hT h a0 = 1) (4, [.ref a0, .int a1, .int a2], [.ref (hR h a0 4)], h) rfl g1 ?_
  refine eb_n 1 (5, [.ref a0, .int a1, .int a2], [.int a1, .ref (hR h a0 4)], h) (rfl) ?_
  obtain ⟨g2, e⟩ := gd_some e
  obtain ⟨h3, r4, eh3, e⟩ := bn_some e
  refine eb_cg (p := hT h (hR h a0 4) = 3) rfl g2 (f_River_hasRack_ev d (Nat.le_trans (by decide) hd) eh3) ?_
  show Eb _ 9 (8, [.ref a0, .int a1, .int a2], [.int r4], h3) _ _
  refine eb_b (c := r4 = 0) (20, [.ref a0, .int a1, .int a2], [], h3) (11, [.ref a0, .int a1, .int a2], [], h3) rfl (fun c5 => ?_) (fun c5 => ?_)
  · replace e := ite_t c5 e
    exact f_QuillBoats_rack_b20_ev d hd   _  _ _ _ e
  · replace e := ite_f c5 e
    refine eb_n 3 (14, [.ref a0, .int a1, .int a2], [.int (nI 3), .int (nI 0), .int a2], h3) (rfl) ?_
    obtain ⟨h6, r7, eh6, e⟩ := bn_some e
    refine eb_c rfl (f_QuillBoats_isWithin_ev d (Nat.le_trans (by decide) hd) eh6) ?_
    show Eb _ 9 (17, [.ref a0, .int a1, .int a2], [.int r7], h6) _ _
    refine eb_b (c := ¬ r7 = 0) (30, [.ref a0, .int a1, .int a2], [], h6) (20, [.ref a0, .int a1, .int a2], [], h6) rfl (fun c8 => ?_) (fun c8 => ?_)
    · replace e := ite_t c8 e
      refine eb_n 1 (31, [.ref a0, .int a1, .int a2], [.ref a0], h6) (rfl) ?_
      obtain ⟨g9, e⟩ := gd_some e
      refine eb_g (p := hT h6 a0 = 1) (34, [.ref a0, .int a1, .int a2], [.ref (hR h6 a0 4)], h6) rfl g9 ?_
      refine eb_n 2 (36, [.ref a0, .int a1, .int a2], [.int a2, .int a1, .ref (hR h6 a0 4)], h6) (rfl) ?_
      obtain ⟨g10, e⟩ := gd_some e
      obtain ⟨h11, r12, eh11, e⟩ := bn_some e
      refine eb_cg (p := hT h6 (hR h6 a0 4) = 3) rfl g10 (f_River_ofRack_ev d (Nat.le_trans (by decide) hd) eh11) ?_
      show Eb _ 9 (39, [.ref a0, .int a1, .int a2], [.int r12], h11) _ _
      rw [(sp_inj e).1, (sp_inj e).2]
      exact eb_rg (p := nrm 0 r12) rfl (nrm_0 _)
    · replace e := ite_f c8 e
      exact f_QuillBoats_rack_b20_ev d hd   _  _ _ _ e
set_option maxRecDepth 100000 in
set_option maxHeartbeats 4000000 in
theorem f_River_hasBundle_ev (d0 : Nat) (hd0 : 2 ≤ d0) {h' : AH} {r : Int32} {h : AH} {a0 : Nat} {a1 : Int32} {a2 : Int32} (e : f_River_hasBundle h a0 a1 a2 = some (h', r)) : Ev tb mL d0 55 [.ref a0, .int a1, .int a2] h h' (some (.int r)) := by
  obtain ⟨d, rfl⟩ : ∃ d, d0 = d + 1 := ⟨d0 - 1, by omega⟩
  have hd : 1 ≤ d := by omega
  refine ⟨Nat.le_of_ble_eq_true rfl, ?_⟩
  show Eb (Ev tb mL d) 55 (0, [.ref a0, .int a1, .int a2], [], h) h' (some (.int r))
  unfold f_River_hasBundle at e
  refine eb_n 2 (2, [.ref a0, .int a1, .int a2], [.int a1, .ref a0], h) (rfl) ?_
  obtain ⟨g1, e⟩ := gd_some e
  obtain ⟨h2, r3, eh2, e⟩ := bn_some e
  refine eb_cg (p := hT h a0 = 3) rfl g1 (f_River_hasRack_ev d (Nat.le_trans (by decide) hd) eh2) ?_
  show Eb _ 55 (5, [.ref a0, .int a1, .int a2], [.int r3], h2) _ _
  refine eb_b (c := r3 = 0) (29, [.ref a0, .int a1, .int a2], [], h2) (8, [.ref a0, .int a1, .int a2], [], h2) rfl (fun c4 => ?_) (fun c4 => ?_)
  · replace e := ite_t c4 e
    refine eb_n 1 (30, [.ref a0, .int a1, .int a2], [.int (nI 0)], h2) (rfl) ?_
    rw [(sp_inj e).1, (sp_inj e).2]
    exact eb_rg (p := nrm 3 (nI 0)) rfl nrm_30
  · replace e := ite_f c4 e
    refine eb_n 1 (9, [.ref a0, .int a1, .int a2], [.int a2], h2) (rfl) ?_
    refine eb_b (c := a2 < 0) (29, [.ref a0, .int a1, .int a2], [], h2) (12, [.ref a0, .int a1, .int a2], [], h2) rfl (fun c5 => ?_) (fun c5 => ?_)
    · replace e := ite_t c5 e
      refine eb_n 1 (30, [.ref a0, .int a1, .int a2], [.int (nI 0)], h2) (rfl) ?_
      rw [(sp_inj e).1, (sp_inj e).2]
      exact eb_rg (p := nrm 3 (nI 0)) rfl nrm_30
    · replace e := ite_f c5 e
      refine eb_n 2 (14, [.ref a0, .int a1, .int a2], [.ref a0, .int a2], h2) (rfl) ?_
      obtain ⟨g6, e⟩ := gd_some e
      refine eb_g (p := hT h2 a0 = 3) (17, [.ref a0, .int a1, .int a2], [.ref (hR h2 a0 1), .int a2], h2) rfl g6 ?_
      refine eb_n 1 (18, [.ref a0, .int a1, .int a2], [.int a1, .ref (hR h2 a0 1), .int a2], h2) (rfl) ?_
      obtain ⟨g7, e⟩ := gd_some e
      refine eb_g (p := hT h2 (hR h2 a0 1) = 105 ∧ inb a1 (hL h2 (hR h2 a0 1))) (19, [.ref a0, .int a1, .int a2], [.ref (hR h2 (hR h2 a0 1) (ix a1)), .int a2], h2) rfl g7 ?_
      obtain ⟨g8, e⟩ := gd_some e
      obtain ⟨h9, r10, eh9, e⟩ := bn_some e
      refine eb_cg (p := hT h2 (hR h2 (hR h2 a0 1) (ix a1)) = 5) rfl g8 (f_Rack_bundles_ev d (Nat.le_trans (by decide) hd) eh9) ?_
      show Eb _ 55 (22, [.ref a0, .int a1, .int a2], [.int r10, .int a2], h9) _ _
      refine eb_b (c := r10 ≤ a2) (29, [.ref a0, .int a1, .int a2], [], h9) (25, [.ref a0, .int a1, .int a2], [], h9) rfl (fun c11 => ?_) (fun c11 => ?_)
      · replace e := ite_t c11 e
        refine eb_n 1 (30, [.ref a0, .int a1, .int a2], [.int (nI 0)], h9) (rfl) ?_
        rw [(sp_inj e).1, (sp_inj e).2]
        exact eb_rg (p := nrm 3 (nI 0)) rfl nrm_30
      · replace e := ite_f c11 e
        refine eb_n 2 (30, [.ref a0, .int a1, .int a2], [.int (nI 1)], h9) (rfl) ?_
        rw [(sp_inj e).1, (sp_inj e).2]
        exact eb_rg (p := nrm 3 (nI 1)) rfl nrm_31
set_option maxRecDepth 100000 in
set_option maxHeartbeats 4000000 in
theorem f_Rack_tell_ev (d0 : Nat) (hd0 : 3 ≤ d0) {h' : AH} {r : Int32} {h : AH} {a0 : Nat} {a1 : Int32} {a2 : Int32} (e : f_Rack_tell h a0 a1 a2 = some (h', r)) : Ev tb mL d0 108 [.ref a0, .int a1, .int a2] h h' (some (.int r)) := by
  obtain ⟨d, rfl⟩ : ∃ d, d0 = d + 1 := ⟨d0 - 1, by omega⟩
  have hd : 2 ≤ d := by omega
  refine ⟨Nat.le_of_ble_eq_true rfl, ?_⟩
  show Eb (Ev tb mL d) 108 (0, [.ref a0, .int a1, .int a2], [], h) h' (some (.int r))
  unfold f_Rack_tell at e
  refine eb_n 1 (1, [.ref a0, .int a1, .int a2], [.int a1], h) (rfl) ?_
  refine eb_b (c := a1 < 0) (18, [.ref a0, .int a1, .int a2], [], h) (4, [.ref a0, .int a1, .int a2], [], h) rfl (fun c1 => ?_) (fun c1 => ?_)
  · replace e := ite_t c1 e
    refine eb_n 1 (19, [.ref a0, .int a1, .int a2], [.int (nI 0)], h) (rfl) ?_
    rw [(sp_inj e).1, (sp_inj e).2]
    exact eb_rg (p := nrm 0 (nI 0)) rfl (nrm_0 _)
  · replace e := ite_f c1 e
    refine eb_n 2 (6, [.ref a0, .int a1, .int a2], [.ref a0, .int a1], h) (rfl) ?_
    obtain ⟨g2, e⟩ := gd_some e
    refine eb_g (p := hT h a0 = 5) (9, [.ref a0, .int a1, .int a2], [.int (hI h a0 2), .int a1], h) rfl g2 ?_
    refine eb_b (c := (hI h a0 2) ≤ a1) (18, [.ref a0, .int a1, .int a2], [], h) (12, [.ref a0, .int a1, .int a2], [], h) rfl (fun c3 => ?_) (fun c3 => ?_)
    · replace e := ite_t c3 e
      refine eb_n 1 (19, [.ref a0, .int a1, .int a2], [.int (nI 0)], h) (rfl) ?_
      rw [(sp_inj e).1, (sp_inj e).2]
      exact eb_rg (p := nrm 0 (nI 0)) rfl (nrm_0 _)
    · replace e := ite_f c3 e
      refine eb_n 2 (15, [.ref a0, .int a1, .int a2], [.int (nI 60), .int a1], h) (rfl) ?_
      refine eb_b (c := a1 < (nI 60)) (20, [.ref a0, .int a1, .int a2], [], h) (18, [.ref a0, .int a1, .int a2], [], h) rfl (fun c4 => ?_) (fun c4 => ?_)
      · replace e := ite_t c4 e
        refine eb_n 1 (21, [.ref a0, .int a1, .int a2], [.int a2], h) (rfl) ?_
        by_cases c5 : a2 = nI 0
        · replace e := ite_t c5 e
          refine eb_n 1 (52, [.ref a0, .int a1, .int a2], [], h) (by rw [c5]; rfl) ?_
          refine eb_n 1 (53, [.ref a0, .int a1, .int a2], [.ref a0], h) (rfl) ?_
          refine eb_g (p := hT h a0 = 5) (56, [.ref a0, .int a1, .int a2], [.ref (hR h a0 3)], h) rfl g2 ?_
          refine eb_n 1 (57, [.ref a0, .int a1, .int a2], [.int a1, .ref (hR h a0 3)], h) (rfl) ?_
          obtain ⟨g6, e⟩ := gd_some e
          refine eb_g (p := hT h (hR h a0 3) = 101 ∧ inb a1 (hL h (hR h a0 3))) (58, [.ref a0, .int a1, .int a2], [.int (hI h (hR h a0 3) (ix a1))], h) rfl g6 ?_
          rw [(sp_inj e).1, (sp_inj e).2]
          exact eb_rg (p := nrm 0 (hI h (hR h a0 3) (ix a1))) rfl (nrm_0 _)
        replace e := ite_f c5 e
        by_cases c7 : a2 = nI 1
        · replace e := ite_t c7 e
          refine eb_n 1 (59, [.ref a0, .int a1, .int a2], [], h) (by rw [c7]; rfl) ?_
          refine eb_n 1 (60, [.ref a0, .int a1, .int a2], [.ref a0], h) (rfl) ?_
          refine eb_g (p := hT h a0 = 5) (63, [.ref a0, .int a1, .int a2], [.ref (hR h a0 4)], h) rfl g2 ?_
          refine eb_n 1 (64, [.ref a0, .int a1, .int a2], [.int a1, .ref (hR h a0 4)], h) (rfl) ?_
          obtain ⟨g8, e⟩ := gd_some e
          refine eb_g (p := hT h (hR h a0 4) = 101 ∧ inb a1 (hL h (hR h a0 4))) (65, [.ref a0, .int a1, .int a2], [.int (hI h (hR h a0 4) (ix a1))], h) rfl g8 ?_
          rw [(sp_inj e).1, (sp_inj e).2]
          exact eb_rg (p := nrm 0 (hI h (hR h a0 4) (ix a1))) rfl (nrm_0 _)
        replace e := ite_f c7 e
        by_cases c9 : a2 = nI 2
        · replace e := ite_t c9 e
          refine eb_n 1 (66, [.ref a0, .int a1, .int a2], [], h) (by rw [c9]; rfl) ?_
          refine eb_n 1 (67, [.ref a0, .int a1, .int a2], [.ref a0], h) (rfl) ?_
          refine eb_g (p := hT h a0 = 5) (70, [.ref a0, .int a1, .int a2], [.ref (hR h a0 5)], h) rfl g2 ?_
          refine eb_n 1 (71, [.ref a0, .int a1, .int a2], [.int a1, .ref (hR h a0 5)], h) (rfl) ?_
          obtain ⟨g10, e⟩ := gd_some e
          refine eb_g (p := hT h (hR h a0 5) = 101 ∧ inb a1 (hL h (hR h a0 5))) (72, [.ref a0, .int a1, .int a2], [.int (hI h (hR h a0 5) (ix a1))], h) rfl g10 ?_
          rw [(sp_inj e).1, (sp_inj e).2]
          exact eb_rg (p := nrm 0 (hI h (hR h a0 5) (ix a1))) rfl (nrm_0 _)
        replace e := ite_f c9 e
        by_cases c11 : a2 = nI 3
        · replace e := ite_t c11 e
          refine eb_n 1 (73, [.ref a0, .int a1, .int a2], [], h) (by rw [c11]; rfl) ?_
          refine eb_n 1 (74, [.ref a0, .int a1, .int a2], [.ref a0], h) (rfl) ?_
          refine eb_g (p := hT h a0 = 5) (77, [.ref a0, .int a1, .int a2], [.ref (hR h a0 6)], h) rfl g2 ?_
          refine eb_n 1 (78, [.ref a0, .int a1, .int a2], [.int a1, .ref (hR h a0 6)], h) (rfl) ?_
          obtain ⟨g12, e⟩ := gd_some e
          refine eb_g (p := hT h (hR h a0 6) = 101 ∧ inb a1 (hL h (hR h a0 6))) (79, [.ref a0, .int a1, .int a2], [.int (hI h (hR h a0 6) (ix a1))], h) rfl g12 ?_
          rw [(sp_inj e).1, (sp_inj e).2]
          exact eb_rg (p := nrm 0 (hI h (hR h a0 6) (ix a1))) rfl (nrm_0 _)
        replace e := ite_f c11 e
        refine eb_1 (f' := (80, [.ref a0, .int a1, .int a2], [], h)) (tsw_d (tsw_out (x := a2) (lo := 0) (n := 4) (by decide) (by decide) (fun k hk => match k, hk with | 0, _ => c5 | 1, _ => c7 | 2, _ => c9 | 3, _ => c11 | k + 4, hk => absurd hk (by omega))) rfl rfl) ?_
        refine eb_n 1 (81, [.ref a0, .int a1, .int a2], [.ref a0], h) (rfl) ?_
        refine eb_g (p := hT h a0 = 5) (84, [.ref a0, .int a1, .int a2], [.ref (hR h a0 4)], h) rfl g2 ?_
        refine eb_n 1 (85, [.ref a0, .int a1, .int a2], [.int a1, .ref (hR h a0 4)], h) (rfl) ?_
        obtain ⟨g13, e⟩ := gd_some e
        refine eb_g (p := hT h (hR h a0 4) = 101 ∧ inb a1 (hL h (hR h a0 4))) (86, [.ref a0, .int a1, .int a2], [.int (hI h (hR h a0 4) (ix a1))], h) rfl g13 ?_
        refine eb_n 1 (87, [.ref a0, .int a1, .int a2], [.ref a0, .int (hI h (hR h a0 4) (ix a1))], h) (rfl) ?_
        refine eb_g (p := hT h a0 = 5) (90, [.ref a0, .int a1, .int a2], [.ref (hR h a0 6), .int (hI h (hR h a0 4) (ix a1))], h) rfl g2 ?_
        refine eb_n 1 (91, [.ref a0, .int a1, .int a2], [.int a1, .ref (hR h a0 6), .int (hI h (hR h a0 4) (ix a1))], h) (rfl) ?_
        obtain ⟨g14, e⟩ := gd_some e
        refine eb_g (p := hT h (hR h a0 6) = 101 ∧ inb a1 (hL h (hR h a0 6))) (92, [.ref a0, .int a1, .int a2], [.int (hI h (hR h a0 6) (ix a1)), .int (hI h (hR h a0 4) (ix a1))], h) rfl g14 ?_
        obtain ⟨h15, r16, eh15, e⟩ := bn_some e
        refine eb_c rfl (f_Rack_gradeOf_ev d (Nat.le_trans (by decide) hd) eh15) ?_
        show Eb _ 108 (95, [.ref a0, .int a1, .int a2], [.int r16], h15) _ _
        rw [(sp_inj e).1, (sp_inj e).2]
        exact eb_rg (p := nrm 0 r16) rfl (nrm_0 _)
      · replace e := ite_f c4 e
        refine eb_n 1 (19, [.ref a0, .int a1, .int a2], [.int (nI 0)], h) (rfl) ?_
        rw [(sp_inj e).1, (sp_inj e).2]
        exact eb_rg (p := nrm 0 (nI 0)) rfl (nrm_0 _)
set_option maxRecDepth 100000 in
set_option maxHeartbeats 4000000 in
theorem f_River_ofBundle_ev (d0 : Nat) (hd0 : 4 ≤ d0) {h' : AH} {r : Int32} {h : AH} {a0 : Nat} {a1 : Int32} {a2 : Int32} {a3 : Int32} (e : f_River_ofBundle h a0 a1 a2 a3 = some (h', r)) : Ev tb mL d0 56 [.ref a0, .int a1, .int a2, .int a3] h h' (some (.int r)) := by
  obtain ⟨d, rfl⟩ : ∃ d, d0 = d + 1 := ⟨d0 - 1, by omega⟩
  have hd : 3 ≤ d := by omega
  refine ⟨Nat.le_of_ble_eq_true rfl, ?_⟩
  show Eb (Ev tb mL d) 56 (0, [.ref a0, .int a1, .int a2, .int a3], [], h) h' (some (.int r))
  unfold f_River_ofBundle at e
  refine eb_n 2 (2, [.ref a0, .int a1, .int a2, .int a3], [.int a1, .ref a0], h) (rfl) ?_
  obtain ⟨g1, e⟩ := gd_some e
  obtain ⟨h2, r3, eh2, e⟩ := bn_some e
  refine eb_cg (p := hT h a0 = 3) rfl g1 (f_River_hasRack_ev d (Nat.le_trans (by decide) hd) eh2) ?_
  show Eb _ 56 (5, [.ref a0, .int a1, .int a2, .int a3], [.int r3], h2) _ _
  refine eb_b (c := r3 = 0) (22, [.ref a0, .int a1, .int a2, .int a3], [], h2) (8, [.ref a0, .int a1, .int a2, .int a3], [], h2) rfl (fun c4 => ?_) (fun c4 => ?_)
  · replace e := ite_t c4 e
    refine eb_n 1 (23, [.ref a0, .int a1, .int a2, .int a3], [.int (nI 0)], h2) (rfl) ?_
    rw [(sp_inj e).1, (sp_inj e).2]
    exact eb_rg (p := nrm 0 (nI 0)) rfl (nrm_0 _)
  · replace e := ite_f c4 e
    refine eb_n 1 (9, [.ref a0, .int a1, .int a2, .int a3], [.ref a0], h2) (rfl) ?_
    obtain ⟨g5, e⟩ := gd_some e
    refine eb_g (p := hT h2 a0 = 3) (12, [.ref a0, .int a1, .int a2, .int a3], [.ref (hR h2 a0 1)], h2) rfl g5 ?_
    refine eb_n 1 (13, [.ref a0, .int a1, .int a2, .int a3], [.int a1, .ref (hR h2 a0 1)], h2) (rfl) ?_
    obtain ⟨g6, e⟩ := gd_some e
    refine eb_g (p := hT h2 (hR h2 a0 1) = 105 ∧ inb a1 (hL h2 (hR h2 a0 1))) (14, [.ref a0, .int a1, .int a2, .int a3], [.ref (hR h2 (hR h2 a0 1) (ix a1))], h2) rfl g6 ?_
    refine eb_n 2 (16, [.ref a0, .int a1, .int a2, .int a3], [.int a3, .int a2, .ref (hR h2 (hR h2 a0 1) (ix a1))], h2) (rfl) ?_
    obtain ⟨g7, e⟩ := gd_some e
    obtain ⟨h8, r9, eh8, e⟩ := bn_some e
    refine eb_cg (p := hT h2 (hR h2 (hR h2 a0 1) (ix a1)) = 5) rfl g7 (f_Rack_tell_ev d (Nat.le_trans (by decide) hd) eh8) ?_
    show Eb _ 56 (19, [.ref a0, .int a1, .int a2, .int a3], [.int r9], h8) _ _
    refine eb_n 1 (23, [.ref a0, .int a1, .int a2, .int a3], [.int r9], h8) (rfl) ?_
    rw [(sp_inj e).1, (sp_inj e).2]
    exact eb_rg (p := nrm 0 r9) rfl (nrm_0 _)
set_option maxRecDepth 100000 in
set_option maxHeartbeats 4000000 in
theorem f_QuillBoats_bundle_b21_ev {h' : AH} {r : Int32} (d : Nat) (hd : 4 ≤ d)  (h : AH)   (d0 : Value) (d1 : Value) (d2 : Value) (d3 : Value) (e : f_QuillBoats_bundle_b21  h  = some (h', r)) : Eb (Ev tb mL d) 10 (21, [d0, d1, d2, d3], [], h) h' (some (.int r)) := by
  unfold f_QuillBoats_bundle_b21 at e
  exact nomatch e
set_option maxRecDepth 100000 in
set_option maxHeartbeats 4000000 in
theorem f_QuillBoats_bundle_ev (d0 : Nat) (hd0 : 5 ≤ d0) {h' : AH} {r : Int32} {h : AH} {a0 : Nat} {a1 : Int32} {a2 : Int32} {a3 : Int32} (e : f_QuillBoats_bundle h a0 a1 a2 a3 = some (h', r)) : Ev tb mL d0 10 [.ref a0, .int a1, .int a2, .int a3] h h' (some (.int r)) := by
  obtain ⟨d, rfl⟩ : ∃ d, d0 = d + 1 := ⟨d0 - 1, by omega⟩
  have hd : 4 ≤ d := by omega
  refine ⟨Nat.le_of_ble_eq_true rfl, ?_⟩
  show Eb (Ev tb mL d) 10 (0, [.ref a0, .int a1, .int a2, .int a3], [], h) h' (some (.int r))
  unfold f_QuillBoats_bundle at e
  refine eb_n 1 (1, [.ref a0, .int a1, .int a2, .int a3], [.ref a0], h) (rfl) ?_
  obtain ⟨g1, e⟩ := gd_some e
  refine eb_g (p := hT h a0 = 1) (4, [.ref a0, .int a1, .int a2, .int a3], [.ref (hR h a0 4)], h) rfl g1 ?_
  refine eb_n 2 (6, [.ref a0, .int a1, .int a2, .int a3], [.int a2, .int a1, .ref (hR h a0 4)], h) (rfl) ?_
  obtain ⟨g2, e⟩ := gd_some e
  obtain ⟨h3, r4, eh3, e⟩ := bn_some e
  refine eb_cg (p := hT h (hR h a0 4) = 3) rfl g2 (f_River_hasBundle_ev d (Nat.le_trans (by decide) hd) eh3) ?_
  show Eb _ 10 (9, [.ref a0, .int a1, .int a2, .int a3], [.int r4], h3) _ _
  refine eb_b (c := r4 = 0) (21, [.ref a0, .int a1, .int a2, .int a3], [], h3) (12, [.ref a0, .int a1, .int a2, .int a3], [], h3) rfl (fun c5 => ?_) (fun c5 => ?_)
  · replace e := ite_t c5 e
    exact f_QuillBoats_bundle_b21_ev d hd   _  _ _ _ _ e
  · replace e := ite_f c5 e
    refine eb_n 3 (15, [.ref a0, .int a1, .int a2, .int a3], [.int (nI 4), .int (nI 0), .int a3], h3) (rfl) ?_
    obtain ⟨h6, r7, eh6, e⟩ := bn_some e
    refine eb_c rfl (f_QuillBoats_isWithin_ev d (Nat.le_trans (by decide) hd) eh6) ?_
    show Eb _ 10 (18, [.ref a0, .int a1, .int a2, .int a3], [.int r7], h6) _ _
    refine eb_b (c := ¬ r7 = 0) (31, [.ref a0, .int a1, .int a2, .int a3], [], h6) (21, [.ref a0, .int a1, .int a2, .int a3], [], h6) rfl (fun c8 => ?_) (fun c8 => ?_)
    · replace e := ite_t c8 e
      refine eb_n 1 (32, [.ref a0, .int a1, .int a2, .int a3], [.ref a0], h6) (rfl) ?_
      obtain ⟨g9, e⟩ := gd_some e
      refine eb_g (p := hT h6 a0 = 1) (35, [.ref a0, .int a1, .int a2, .int a3], [.ref (hR h6 a0 4)], h6) rfl g9 ?_
      refine eb_n 3 (38, [.ref a0, .int a1, .int a2, .int a3], [.int a3, .int a2, .int a1, .ref (hR h6 a0 4)], h6) (rfl) ?_
      obtain ⟨g10, e⟩ := gd_some e
      obtain ⟨h11, r12, eh11, e⟩ := bn_some e
      refine eb_cg (p := hT h6 (hR h6 a0 4) = 3) rfl g10 (f_River_ofBundle_ev d (Nat.le_trans (by decide) hd) eh11) ?_
      show Eb _ 10 (41, [.ref a0, .int a1, .int a2, .int a3], [.int r12], h11) _ _
      rw [(sp_inj e).1, (sp_inj e).2]
      exact eb_rg (p := nrm 0 r12) rfl (nrm_0 _)
    · replace e := ite_f c8 e
      exact f_QuillBoats_bundle_b21_ev d hd   _  _ _ _ _ e
set_option maxRecDepth 100000 in
set_option maxHeartbeats 4000000 in
theorem f_River_drying_b71_ev {h' : AH} {r : Int32} (d : Nat) (hd : 4 ≤ d) (k30 : AH → Nat → Int32 → Int32 → Int32 → Int32 → Int32 → Option (AH × Int32)) (hk30 : ∀ (h : AH) (a0 : Nat) (a3 : Int32) (a4 : Int32) (a5 : Int32) (a6 : Int32) (a7 : Int32)  (d1 : Value) (d2 : Value) (d8 : Value), k30 h a0 a3 a4 a5 a6 a7 = some (h', r) → Eb (Ev tb mL d) 57 (30, [.ref a0, d1, d2, .int a3, .int a4, .int a5, .int a6, .int a7, d8], [], h) h' (some (.int r)))  (h : AH) (a0 : Nat) (a3 : Int32) (a4 : Int32) (a5 : Int32) (a7 : Int32) (a8 : Int32) (s0 : Int32) (s1 : Int32) (d1 : Value) (d2 : Value) (d6 : Value) (e : f_River_drying_b71 k30 h a0 a3 a4 a5 a7 a8 s0 s1 = some (h', r)) : Eb (Ev tb mL d) 57 (71, [.ref a0, d1, d2, .int a3, .int a4, .int a5, d6, .int a7, .int a8], [.int s1, .int s0], h) h' (some (.int r)) := by
  unfold f_River_drying_b71 at e
  obtain ⟨x1, hx1, e⟩ := lq_some e
  refine eb_n 2 (74, [.ref a0, d1, d2, .int a3, .int a4, .int a5, .int x1, .int a7, .int a8], [], h) (by subst hx1; rfl) ?_
  obtain ⟨x2, hx2, e⟩ := lq_some e
  refine eb_n 4 (81, [.ref a0, d1, d2, .int a3, .int a4, .int x2, .int x1, .int a7, .int a8], [], h) (by subst hx2; rfl) ?_
  refine eb_n 2 (85, [.ref a0, d1, d2, .int a3, .int a4, .int x2, .int x1, .int a7, .int a8], [.int x2, .int a4], h) (rfl) ?_
  obtain ⟨h3, r4, eh3, e⟩ := bn_some e
  refine eb_c rfl (f_Rack_isDry_ev d (Nat.le_trans (by decide) hd) eh3) ?_
  show Eb _ 57 (88, [.ref a0, d1, d2, .int a3, .int a4, .int x2, .int x1, .int a7, .int a8], [.int r4], h3) _ _
  refine eb_b (c := r4 = 0) (108, [.ref a0, d1, d2, .int a3, .int a4, .int x2, .int x1, .int a7, .int a8], [], h3) (91, [.ref a0, d1, d2, .int a3, .int a4, .int x2, .int x1, .int a7, .int a8], [], h3) rfl (fun c5 => ?_) (fun c5 => ?_)
  · replace e := ite_t c5 e
    obtain ⟨x6, hx6, e⟩ := lq_some e
    refine eb_n 1 (111, [.ref a0, d1, d2, .int a3, .int a4, .int x2, .int x1, .int x6, .int a8], [], h3) (by subst hx6; rfl) ?_
    refine eb_n 1 (30, [.ref a0, d1, d2, .int a3, .int a4, .int x2, .int x1, .int x6, .int a8], [], h3) (rfl) ?_
    exact hk30 _ _ _ _ _ _ _ _ _ _ e
  · replace e := ite_f c5 e
    refine eb_n 1 (92, [.ref a0, d1, d2, .int a3, .int a4, .int x2, .int x1, .int a7, .int a8], [.int a3], h3) (rfl) ?_
    refine eb_b (c := ¬ a3 = 0) (100, [.ref a0, d1, d2, .int a3, .int a4, .int x2, .int x1, .int a7, .int a8], [], h3) (95, [.ref a0, d1, d2, .int a3, .int a4, .int x2, .int x1, .int a7, .int a8], [], h3) rfl (fun c7 => ?_) (fun c7 => ?_)
    · replace e := ite_t c7 e
      refine eb_n 2 (104, [.ref a0, d1, d2, .int a3, .int a4, .int x2, .int x1, .int a7, .int a8], [.int x1, .int a4], h3) (rfl) ?_
      obtain ⟨h8, r9, eh8, e⟩ := bn_some e
      refine eb_c rfl (f_Rack_gradeOf_ev d (Nat.le_trans (by decide) hd) eh8) ?_
      show Eb _ 57 (107, [.ref a0, d1, d2, .int a3, .int a4, .int x2, .int x1, .int a7, .int a8], [.int r9], h8) _ _
      rw [(sp_inj e).1, (sp_inj e).2]
      exact eb_rg (p := nrm 0 r9) rfl (nrm_0 _)
    · replace e := ite_f c7 e
      refine eb_n 2 (107, [.ref a0, d1, d2, .int a3, .int a4, .int x2, .int x1, .int a7, .int a8], [.int a7], h3) (rfl) ?_
      rw [(sp_inj e).1, (sp_inj e).2]
      exact eb_rg (p := nrm 0 a7) rfl (nrm_0 _)
set_option maxRecDepth 100000 in
set_option maxHeartbeats 4000000 in
theorem f_River_drying_b30_ev {h' : AH} {r : Int32} (d : Nat) (hd : 4 ≤ d) (k30 : AH → Nat → Int32 → Int32 → Int32 → Int32 → Int32 → Option (AH × Int32)) (hk30 : ∀ (h : AH) (a0 : Nat) (a3 : Int32) (a4 : Int32) (a5 : Int32) (a6 : Int32) (a7 : Int32)  (d1 : Value) (d2 : Value) (d8 : Value), k30 h a0 a3 a4 a5 a6 a7 = some (h', r) → Eb (Ev tb mL d) 57 (30, [.ref a0, d1, d2, .int a3, .int a4, .int a5, .int a6, .int a7, d8], [], h) h' (some (.int r)))  (h : AH) (a0 : Nat) (a3 : Int32) (a4 : Int32) (a5 : Int32) (a6 : Int32) (a7 : Int32)  (d1 : Value) (d2 : Value) (d8 : Value) (e : f_River_drying_b30 k30 h a0 a3 a4 a5 a6 a7 = some (h', r)) : Eb (Ev tb mL d) 57 (30, [.ref a0, d1, d2, .int a3, .int a4, .int a5, .int a6, .int a7, d8], [], h) h' (some (.int r)) := by
  unfold f_River_drying_b30 at e
  refine eb_n 2 (35, [.ref a0, d1, d2, .int a3, .int a4, .int a5, .int a6, .int a7, d8], [.int (nI 300), .int a7], h) (rfl) ?_
  refine eb_b (c := (nI 300) < a7) (114, [.ref a0, d1, d2, .int a3, .int a4, .int a5, .int a6, .int a7, d8], [], h) (38, [.ref a0, d1, d2, .int a3, .int a4, .int a5, .int a6, .int a7, d8], [], h) rfl (fun c1 => ?_) (fun c1 => ?_)
  · replace e := ite_t c1 e
    refine eb_n 1 (115, [.ref a0, d1, d2, .int a3, .int a4, .int a5, .int a6, .int a7, d8], [.int (-nI 1)], h) (rfl) ?_
    rw [(sp_inj e).1, (sp_inj e).2]
    exact eb_rg (p := nrm 0 (-nI 1)) rfl (nrm_0 _)
  · replace e := ite_f c1 e
    refine eb_n 1 (39, [.ref a0, d1, d2, .int a3, .int a4, .int a5, .int a6, .int a7, d8], [.ref a0], h) (rfl) ?_
    obtain ⟨g2, e⟩ := gd_some e
    refine eb_g (p := hT h a0 = 3) (42, [.ref a0, d1, d2, .int a3, .int a4, .int a5, .int a6, .int a7, d8], [.ref (hR h a0 5)], h) rfl g2 ?_
    refine eb_n 1 (43, [.ref a0, d1, d2, .int a3, .int a4, .int a5, .int a6, .int a7, d8], [.ref a0, .ref (hR h a0 5)], h) (rfl) ?_
    refine eb_g (p := hT h a0 = 3) (46, [.ref a0, d1, d2, .int a3, .int a4, .int a5, .int a6, .int a7, d8], [.int (hI h a0 11), .ref (hR h a0 5)], h) rfl g2 ?_
    refine eb_n 5 (53, [.ref a0, d1, d2, .int a3, .int a4, .int a5, .int a6, .int a7, d8], [.int (nI 12), .int (((hI h a0 11) + a7) - (nI 1)), .ref (hR h a0 5)], h) (rfl) ?_
    obtain ⟨h3, r4, eh3, e⟩ := bn_some e
    refine eb_c rfl (f_Math_floorMod_ev d (Nat.le_trans (by decide) hd) eh3) ?_
    show Eb _ 57 (56, [.ref a0, d1, d2, .int a3, .int a4, .int a5, .int a6, .int a7, d8], [.int r4, .ref (hR h a0 5)], h3) _ _
    obtain ⟨g5, e⟩ := gd_some e
    refine eb_g (p := hT h3 (hR h a0 5) = 101 ∧ inb r4 (hL h3 (hR h a0 5))) (57, [.ref a0, d1, d2, .int a3, .int a4, .int a5, .int a6, .int a7, d8], [.int (hI h3 (hR h a0 5) (ix r4))], h3) rfl g5 ?_
    obtain ⟨x6, hx6, e⟩ := lq_some e
    refine eb_n 1 (59, [.ref a0, d1, d2, .int a3, .int a4, .int a5, .int a6, .int a7, .int x6], [], h3) (by subst hx6; rfl) ?_
    refine eb_n 2 (63, [.ref a0, d1, d2, .int a3, .int a4, .int a5, .int a6, .int a7, .int x6], [.int x6, .int a6], h3) (rfl) ?_
    refine eb_b (c := ¬ x6 = 0) (70, [.ref a0, d1, d2, .int a3, .int a4, .int a5, .int a6, .int a7, .int x6], [.int a6], h3) (66, [.ref a0, d1, d2, .int a3, .int a4, .int a5, .int a6, .int a7, .int x6], [.int a6], h3) rfl (fun c7 => ?_) (fun c7 => ?_)
    · replace e := ite_t c7 e
      refine eb_n 1 (71, [.ref a0, d1, d2, .int a3, .int a4, .int a5, .int a6, .int a7, .int x6], [.int (nI 0), .int a6], h3) (rfl) ?_
      exact f_River_drying_b71_ev d hd k30 hk30 _ _ _ _ _ _ _ _ _ _ _ _ e
    · replace e := ite_f c7 e
      refine eb_n 2 (71, [.ref a0, d1, d2, .int a3, .int a4, .int a5, .int a6, .int a7, .int x6], [.int (nI 1), .int a6], h3) (rfl) ?_
      exact f_River_drying_b71_ev d hd k30 hk30 _ _ _ _ _ _ _ _ _ _ _ _ e
set_option maxRecDepth 100000 in
set_option maxHeartbeats 4000000 in
theorem f_River_drying_l30_ev {h' : AH} {r : Int32} (d : Nat) (hd : 4 ≤ d)  : ∀ (n : Nat) (h : AH) (a0 : Nat) (a3 : Int32) (a4 : Int32) (a5 : Int32) (a6 : Int32) (a7 : Int32)  (d1 : Value) (d2 : Value) (d8 : Value) (_ : f_River_drying_l30  n h a0 a3 a4 a5 a6 a7 = some (h', r)), Eb (Ev tb mL d) 57 (30, [.ref a0, d1, d2, .int a3, .int a4, .int a5, .int a6, .int a7, d8], [], h) h' (some (.int r)) := by
  intro n
  induction n with
  | zero => intro h a0 a3 a4 a5 a6 a7 d1 d2 d8 e; exact nomatch e
  | succ n ih =>
    intro h a0 a3 a4 a5 a6 a7 d1 d2 d8 e
    exact f_River_drying_b30_ev d hd _ (fun h a0 a3 a4 a5 a6 a7 d1 d2 d8 e => ih h a0 a3 a4 a5 a6 a7 d1 d2 d8 e) h a0 a3 a4 a5 a6 a7 d1 d2 d8 e
set_option maxRecDepth 100000 in
set_option maxHeartbeats 4000000 in
theorem f_River_drying_ev (d0 : Nat) (hd0 : 5 ≤ d0) {h' : AH} {r : Int32} {h : AH} {a0 : Nat} {a1 : Int32} {a2 : Int32} {a3 : Int32} (e : f_River_drying h a0 a1 a2 a3 = some (h', r)) : Ev tb mL d0 57 [.ref a0, .int a1, .int a2, .int a3] h h' (some (.int r)) := by
  obtain ⟨d, rfl⟩ : ∃ d, d0 = d + 1 := ⟨d0 - 1, by omega⟩
  have hd : 4 ≤ d := by omega
  refine ⟨Nat.le_of_ble_eq_true rfl, ?_⟩
  show Eb (Ev tb mL d) 57 (0, [.ref a0, .int a1, .int a2, .int a3, .retAddr 0, .retAddr 0, .retAddr 0, .retAddr 0, .retAddr 0], [], h) h' (some (.int r))
  unfold f_River_drying at e
  refine eb_n 4 (4, [.ref a0, .int a1, .int a2, .int a3, .retAddr 0, .retAddr 0, .retAddr 0, .retAddr 0, .retAddr 0], [.int (nI 1), .int a2, .int a1, .ref a0], h) (rfl) ?_
  obtain ⟨g1, e⟩ := gd_some e
  obtain ⟨h2, r3, eh2, e⟩ := bn_some e
  refine eb_cg (p := hT h a0 = 3) rfl g1 (f_River_ofBundle_ev d (Nat.le_trans (by decide) hd) eh2) ?_
  show Eb _ 57 (7, [.ref a0, .int a1, .int a2, .int a3, .retAddr 0, .retAddr 0, .retAddr 0, .retAddr 0, .retAddr 0], [.int r3], h2) _ _
  refine eb_n 5 (13, [.ref a0, .int a1, .int a2, .int a3, .int r3, .retAddr 0, .retAddr 0, .retAddr 0, .retAddr 0], [.int (nI 2), .int a2, .int a1, .ref a0], h2) (rfl) ?_
  obtain ⟨g4, e⟩ := gd_some e
  obtain ⟨h5, r6, eh5, e⟩ := bn_some e
  refine eb_cg (p := hT h2 a0 = 3) rfl g4 (f_River_ofBundle_ev d (Nat.le_trans (by decide) hd) eh5) ?_
  show Eb _ 57 (16, [.ref a0, .int a1, .int a2, .int a3, .int r3, .retAddr 0, .retAddr 0, .retAddr 0, .retAddr 0], [.int r6], h5) _ _
  refine eb_n 5 (22, [.ref a0, .int a1, .int a2, .int a3, .int r3, .int r6, .retAddr 0, .retAddr 0, .retAddr 0], [.int (nI 3), .int a2, .int a1, .ref a0], h5) (rfl) ?_
  obtain ⟨g7, e⟩ := gd_some e
  obtain ⟨h8, r9, eh8, e⟩ := bn_some e
  refine eb_cg (p := hT h5 a0 = 3) rfl g7 (f_River_ofBundle_ev d (Nat.le_trans (by decide) hd) eh8) ?_
  show Eb _ 57 (25, [.ref a0, .int a1, .int a2, .int a3, .int r3, .int r6, .retAddr 0, .retAddr 0, .retAddr 0], [.int r9], h8) _ _
  refine eb_n 3 (30, [.ref a0, .int a1, .int a2, .int a3, .int r3, .int r6, .int r9, .int (nI 1), .retAddr 0], [], h8) (rfl) ?_
  exact f_River_drying_l30_ev d hd   FU _ _ _ _ _ _ _ _ _ _ e
set_option maxRecDepth 100000 in
set_option maxHeartbeats 4000000 in
theorem f_QuillBoats_dry_b21_ev {h' : AH} {r : Int32} (d : Nat) (hd : 5 ≤ d)  (h : AH)   (d0 : Value) (d1 : Value) (d2 : Value) (d3 : Value) (e : f_QuillBoats_dry_b21  h  = some (h', r)) : Eb (Ev tb mL d) 11 (21, [d0, d1, d2, d3], [], h) h' (some (.int r)) := by
  unfold f_QuillBoats_dry_b21 at e
  exact nomatch e
set_option maxRecDepth 100000 in
set_option maxHeartbeats 4000000 in
theorem f_QuillBoats_dry_ev (d0 : Nat) (hd0 : 6 ≤ d0) {h' : AH} {r : Int32} {h : AH} {a0 : Nat} {a1 : Int32} {a2 : Int32} {a3 : Int32} (e : f_QuillBoats_dry h a0 a1 a2 a3 = some (h', r)) : Ev tb mL d0 11 [.ref a0, .int a1, .int a2, .int a3] h h' (some (.int r)) := by
  obtain ⟨d, rfl⟩ : ∃ d, d0 = d + 1 := ⟨d0 - 1, by omega⟩
  have hd : 5 ≤ d := by omega
  refine ⟨Nat.le_of_ble_eq_true rfl, ?_⟩
  show Eb (Ev tb mL d) 11 (0, [.ref a0, .int a1, .int a2, .int a3], [], h) h' (some (.int r))
  unfold f_QuillBoats_dry at e
  refine eb_n 1 (1, [.ref a0, .int a1, .int a2, .int a3], [.ref a0], h) (rfl) ?_
  obtain ⟨g1, e⟩ := gd_some e
  refine eb_g (p := hT h a0 = 1) (4, [.ref a0, .int a1, .int a2, .int a3], [.ref (hR h a0 4)], h) rfl g1 ?_
  refine eb_n 2 (6, [.ref a0, .int a1, .int a2, .int a3], [.int a2, .int a1, .ref (hR h a0 4)], h) (rfl) ?_
  obtain ⟨g2, e⟩ := gd_some e
  obtain ⟨h3, r4, eh3, e⟩ := bn_some e
  refine eb_cg (p := hT h (hR h a0 4) = 3) rfl g2 (f_River_hasBundle_ev d (Nat.le_trans (by decide) hd) eh3) ?_
  show Eb _ 11 (9, [.ref a0, .int a1, .int a2, .int a3], [.int r4], h3) _ _
  refine eb_b (c := r4 = 0) (21, [.ref a0, .int a1, .int a2, .int a3], [], h3) (12, [.ref a0, .int a1, .int a2, .int a3], [], h3) rfl (fun c5 => ?_) (fun c5 => ?_)
  · replace e := ite_t c5 e
    exact f_QuillBoats_dry_b21_ev d hd   _  _ _ _ _ e
  · replace e := ite_f c5 e
    refine eb_n 3 (15, [.ref a0, .int a1, .int a2, .int a3], [.int (nI 1), .int (nI 0), .int a3], h3) (rfl) ?_
    obtain ⟨h6, r7, eh6, e⟩ := bn_some e
    refine eb_c rfl (f_QuillBoats_isWithin_ev d (Nat.le_trans (by decide) hd) eh6) ?_
    show Eb _ 11 (18, [.ref a0, .int a1, .int a2, .int a3], [.int r7], h6) _ _
    refine eb_b (c := ¬ r7 = 0) (31, [.ref a0, .int a1, .int a2, .int a3], [], h6) (21, [.ref a0, .int a1, .int a2, .int a3], [], h6) rfl (fun c8 => ?_) (fun c8 => ?_)
    · replace e := ite_t c8 e
      refine eb_n 1 (32, [.ref a0, .int a1, .int a2, .int a3], [.ref a0], h6) (rfl) ?_
      obtain ⟨g9, e⟩ := gd_some e
      refine eb_g (p := hT h6 a0 = 1) (35, [.ref a0, .int a1, .int a2, .int a3], [.ref (hR h6 a0 4)], h6) rfl g9 ?_
      refine eb_n 3 (38, [.ref a0, .int a1, .int a2, .int a3], [.int a3, .int a2, .int a1, .ref (hR h6 a0 4)], h6) (rfl) ?_
      obtain ⟨g10, e⟩ := gd_some e
      obtain ⟨h11, r12, eh11, e⟩ := bn_some e
      refine eb_cg (p := hT h6 (hR h6 a0 4) = 3) rfl g10 (f_River_drying_ev d (Nat.le_trans (by decide) hd) eh11) ?_
      show Eb _ 11 (41, [.ref a0, .int a1, .int a2, .int a3], [.int r12], h11) _ _
      rw [(sp_inj e).1, (sp_inj e).2]
      exact eb_rg (p := nrm 0 r12) rfl (nrm_0 _)
    · replace e := ite_f c8 e
      exact f_QuillBoats_dry_b21_ev d hd   _  _ _ _ _ e
set_option maxRecDepth 100000 in
set_option maxHeartbeats 4000000 in
theorem f_QuillBoats_peeler_b20_ev {h' : AH} {r : Int32} (d : Nat) (hd : 2 ≤ d)  (h : AH)   (d0 : Value) (d1 : Value) (d2 : Value) (e : f_QuillBoats_peeler_b20  h  = some (h', r)) : Eb (Ev tb mL d) 12 (20, [d0, d1, d2], [], h) h' (some (.int r)) := by
  unfold f_QuillBoats_peeler_b20 at e
  exact nomatch e
set_option maxRecDepth 100000 in
set_option maxHeartbeats 4000000 in
theorem f_QuillBoats_peeler_ev (d0 : Nat) (hd0 : 3 ≤ d0) {h' : AH} {r : Int32} {h : AH} {a0 : Nat} {a1 : Int32} {a2 : Int32} (e : f_QuillBoats_peeler h a0 a1 a2 = some (h', r)) : Ev tb mL d0 12 [.ref a0, .int a1, .int a2] h h' (some (.int r)) := by
  obtain ⟨d, rfl⟩ : ∃ d, d0 = d + 1 := ⟨d0 - 1, by omega⟩
  have hd : 2 ≤ d := by omega
  refine ⟨Nat.le_of_ble_eq_true rfl, ?_⟩
  show Eb (Ev tb mL d) 12 (0, [.ref a0, .int a1, .int a2], [], h) h' (some (.int r))
  unfold f_QuillBoats_peeler at e
  refine eb_n 1 (1, [.ref a0, .int a1, .int a2], [.ref a0], h) (rfl) ?_
  obtain ⟨g1, e⟩ := gd_some e
  refine eb_g (p := hT h a0 = 1) (4, [.ref a0, .int a1, .int a2], [.ref (hR h a0 4)], h) rfl g1 ?_
  refine eb_n 1 (5, [.ref a0, .int a1, .int a2], [.int a1, .ref (hR h a0 4)], h) (rfl) ?_
  obtain ⟨g2, e⟩ := gd_some e
  obtain ⟨h3, r4, eh3, e⟩ := bn_some e
  refine eb_cg (p := hT h (hR h a0 4) = 3) rfl g2 (f_River_hasPeeler_ev d (Nat.le_trans (by decide) hd) eh3) ?_
  show Eb _ 12 (8, [.ref a0, .int a1, .int a2], [.int r4], h3) _ _
  refine eb_b (c := r4 = 0) (20, [.ref a0, .int a1, .int a2], [], h3) (11, [.ref a0, .int a1, .int a2], [], h3) rfl (fun c5 => ?_) (fun c5 => ?_)
  · replace e := ite_t c5 e
    exact f_QuillBoats_peeler_b20_ev d hd   _  _ _ _ e
  · replace e := ite_f c5 e
    refine eb_n 3 (14, [.ref a0, .int a1, .int a2], [.int (nI 5), .int (nI 0), .int a2], h3) (rfl) ?_
    obtain ⟨h6, r7, eh6, e⟩ := bn_some e
    refine eb_c rfl (f_QuillBoats_isWithin_ev d (Nat.le_trans (by decide) hd) eh6) ?_
    show Eb _ 12 (17, [.ref a0, .int a1, .int a2], [.int r7], h6) _ _
    refine eb_b (c := ¬ r7 = 0) (30, [.ref a0, .int a1, .int a2], [], h6) (20, [.ref a0, .int a1, .int a2], [], h6) rfl (fun c8 => ?_) (fun c8 => ?_)
    · replace e := ite_t c8 e
      refine eb_n 1 (31, [.ref a0, .int a1, .int a2], [.ref a0], h6) (rfl) ?_
      obtain ⟨g9, e⟩ := gd_some e
      refine eb_g (p := hT h6 a0 = 1) (34, [.ref a0, .int a1, .int a2], [.ref (hR h6 a0 4)], h6) rfl g9 ?_
      refine eb_n 2 (36, [.ref a0, .int a1, .int a2], [.int a2, .int a1, .ref (hR h6 a0 4)], h6) (rfl) ?_
      obtain ⟨g10, e⟩ := gd_some e
      obtain ⟨h11, r12, eh11, e⟩ := bn_some e
      refine eb_cg (p := hT h6 (hR h6 a0 4) = 3) rfl g10 (f_River_ofPeeler_ev d (Nat.le_trans (by decide) hd) eh11) ?_
      show Eb _ 12 (39, [.ref a0, .int a1, .int a2], [.int r12], h11) _ _
      rw [(sp_inj e).1, (sp_inj e).2]
      exact eb_rg (p := nrm 0 r12) rfl (nrm_0 _)
    · replace e := ite_f c8 e
      exact f_QuillBoats_peeler_b20_ev d hd   _  _ _ _ e
set_option maxRecDepth 100000 in
set_option maxHeartbeats 4000000 in
theorem f_QuillBoats_boat_b21_ev {h' : AH} {r : Int32} (d : Nat) (hd : 2 ≤ d)  (h : AH)   (d0 : Value) (d1 : Value) (d2 : Value) (e : f_QuillBoats_boat_b21  h  = some (h', r)) : Eb (Ev tb mL d) 13 (21, [d0, d1, d2], [], h) h' (some (.int r)) := by
  unfold f_QuillBoats_boat_b21 at e
  exact nomatch e
set_option maxRecDepth 100000 in
set_option maxHeartbeats 4000000 in
theorem f_QuillBoats_boat_ev (d0 : Nat) (hd0 : 3 ≤ d0) {h' : AH} {r : Int32} {h : AH} {a0 : Nat} {a1 : Int32} {a2 : Int32} (e : f_QuillBoats_boat h a0 a1 a2 = some (h', r)) : Ev tb mL d0 13 [.ref a0, .int a1, .int a2] h h' (some (.int r)) := by
  obtain ⟨d, rfl⟩ : ∃ d, d0 = d + 1 := ⟨d0 - 1, by omega⟩
  have hd : 2 ≤ d := by omega
  refine ⟨Nat.le_of_ble_eq_true rfl, ?_⟩
  show Eb (Ev tb mL d) 13 (0, [.ref a0, .int a1, .int a2], [], h) h' (some (.int r))
  unfold f_QuillBoats_boat at e
  refine eb_n 1 (1, [.ref a0, .int a1, .int a2], [.ref a0], h) (rfl) ?_
  obtain ⟨g1, e⟩ := gd_some e
  refine eb_g (p := hT h a0 = 1) (4, [.ref a0, .int a1, .int a2], [.ref (hR h a0 4)], h) rfl g1 ?_
  refine eb_n 1 (5, [.ref a0, .int a1, .int a2], [.int a1, .ref (hR h a0 4)], h) (rfl) ?_
  obtain ⟨g2, e⟩ := gd_some e
  obtain ⟨h3, r4, eh3, e⟩ := bn_some e
  refine eb_cg (p := hT h (hR h a0 4) = 3) rfl g2 (f_River_hasBoat_ev d (Nat.le_trans (by decide) hd) eh3) ?_
  show Eb _ 13 (8, [.ref a0, .int a1, .int a2], [.int r4], h3) _ _
  refine eb_b (c := r4 = 0) (21, [.ref a0, .int a1, .int a2], [], h3) (11, [.ref a0, .int a1, .int a2], [], h3) rfl (fun c5 => ?_) (fun c5 => ?_)
  · replace e := ite_t c5 e
    exact f_QuillBoats_boat_b21_ev d hd   _  _ _ _ e
  · replace e := ite_f c5 e
    refine eb_n 3 (15, [.ref a0, .int a1, .int a2], [.int (nI 6), .int (nI 0), .int a2], h3) (rfl) ?_
    obtain ⟨h6, r7, eh6, e⟩ := bn_some e
    refine eb_c rfl (f_QuillBoats_isWithin_ev d (Nat.le_trans (by decide) hd) eh6) ?_
    show Eb _ 13 (18, [.ref a0, .int a1, .int a2], [.int r7], h6) _ _
    refine eb_b (c := ¬ r7 = 0) (31, [.ref a0, .int a1, .int a2], [], h6) (21, [.ref a0, .int a1, .int a2], [], h6) rfl (fun c8 => ?_) (fun c8 => ?_)
    · replace e := ite_t c8 e
      refine eb_n 1 (32, [.ref a0, .int a1, .int a2], [.ref a0], h6) (rfl) ?_
      obtain ⟨g9, e⟩ := gd_some e
      refine eb_g (p := hT h6 a0 = 1) (35, [.ref a0, .int a1, .int a2], [.ref (hR h6 a0 4)], h6) rfl g9 ?_
      refine eb_n 2 (37, [.ref a0, .int a1, .int a2], [.int a2, .int a1, .ref (hR h6 a0 4)], h6) (rfl) ?_
      obtain ⟨g10, e⟩ := gd_some e
      obtain ⟨h11, r12, eh11, e⟩ := bn_some e
      refine eb_cg (p := hT h6 (hR h6 a0 4) = 3) rfl g10 (f_River_ofBoat_ev d (Nat.le_trans (by decide) hd) eh11) ?_
      show Eb _ 13 (40, [.ref a0, .int a1, .int a2], [.int r12], h11) _ _
      rw [(sp_inj e).1, (sp_inj e).2]
      exact eb_rg (p := nrm 0 r12) rfl (nrm_0 _)
    · replace e := ite_f c8 e
      exact f_QuillBoats_boat_b21_ev d hd   _  _ _ _ e
set_option maxRecDepth 100000 in
set_option maxHeartbeats 4000000 in
theorem f_QuillBoats_until_b47_ev {h' : AH} {r : Int32} (d : Nat) (hd : 2 ≤ d) (k47 : AH → Nat → Nat → Int32 → Option (AH × Int32)) (hk47 : ∀ (h : AH) (a0 : Nat) (a2 : Nat) (a3 : Int32)  (d1 : Value), k47 h a0 a2 a3 = some (h', r) → Eb (Ev tb mL d) 14 (47, [.ref a0, d1, .ref a2, .int a3], [], h) h' (some (.int r)))  (h : AH) (a0 : Nat) (a2 : Nat) (a3 : Int32)  (d1 : Value) (e : f_QuillBoats_until_b47 k47 h a0 a2 a3 = some (h', r)) : Eb (Ev tb mL d) 14 (47, [.ref a0, d1, .ref a2, .int a3], [], h) h' (some (.int r)) := by
  unfold f_QuillBoats_until_b47 at e
  refine eb_n 2 (51, [.ref a0, d1, .ref a2, .int a3], [.int (nI 150), .int a3], h) (rfl) ?_
  refine eb_b (c := (nI 150) < a3) (88, [.ref a0, d1, .ref a2, .int a3], [], h) (54, [.ref a0, d1, .ref a2, .int a3], [], h) rfl (fun c1 => ?_) (fun c1 => ?_)
  · replace e := ite_t c1 e
    refine eb_n 1 (89, [.ref a0, d1, .ref a2, .int a3], [.int (-nI 1)], h) (rfl) ?_
    rw [(sp_inj e).1, (sp_inj e).2]
    exact eb_rg (p := nrm 0 (-nI 1)) rfl (nrm_0 _)
  · replace e := ite_f c1 e
    refine eb_n 1 (55, [.ref a0, d1, .ref a2, .int a3], [.ref a2], h) (rfl) ?_
    obtain ⟨g2, e⟩ := gd_some e
    refine eb_g (p := hT h a2 = 7) (58, [.ref a0, d1, .ref a2, .int a3], [.int (hI h a2 3)], h) rfl g2 ?_
    refine eb_b (c := ¬ (hI h a2 3) = 0) (63, [.ref a0, d1, .ref a2, .int a3], [], h) (61, [.ref a0, d1, .ref a2, .int a3], [], h) rfl (fun c3 => ?_) (fun c3 => ?_)
    · replace e := ite_t c3 e
      refine eb_n 2 (65, [.ref a0, d1, .ref a2, .int a3], [.ref a0, .ref a2], h) (rfl) ?_
      obtain ⟨g4, e⟩ := gd_some e
      refine eb_g (p := hT h a0 = 1) (68, [.ref a0, d1, .ref a2, .int a3], [.ref (hR h a0 4), .ref a2], h) rfl g4 ?_
      obtain ⟨g5, e⟩ := gd_some e
      refine eb_g (p := hT h (hR h a0 4) = 3) (71, [.ref a0, d1, .ref a2, .int a3], [.int (hI h (hR h a0 4) 13), .ref a2], h) rfl g5 ?_
      refine eb_n 1 (72, [.ref a0, d1, .ref a2, .int a3], [.ref a0, .int (hI h (hR h a0 4) 13), .ref a2], h) (rfl) ?_
      refine eb_g (p := hT h a0 = 1) (75, [.ref a0, d1, .ref a2, .int a3], [.ref (hR h a0 4), .int (hI h (hR h a0 4) 13), .ref a2], h) rfl g4 ?_
      refine eb_g (p := hT h (hR h a0 4) = 3) (78, [.ref a0, d1, .ref a2, .int a3], [.int (hI h (hR h a0 4) 14), .int (hI h (hR h a0 4) 13), .ref a2], h) rfl g5 ?_
      obtain ⟨h6, r7, eh6, e⟩ := bn_some e
      refine eb_cg (p := hT h a2 = 7) rfl g2 (f_Boat_comesToMarket_ev d (Nat.le_trans (by decide) hd) eh6) ?_
      show Eb _ 14 (81, [.ref a0, d1, .ref a2, .int a3], [.int r7], h6) _ _
      obtain ⟨x8, hx8, e⟩ := lq_some e
      refine eb_n 2 (85, [.ref a0, d1, .ref a2, .int x8], [], h6) (by subst hx8; rfl) ?_
      refine eb_n 1 (47, [.ref a0, d1, .ref a2, .int x8], [], h6) (rfl) ?_
      exact hk47 _ _ _ _ _ e
    · replace e := ite_f c3 e
      refine eb_n 1 (62, [.ref a0, d1, .ref a2, .int a3], [.int a3], h) (rfl) ?_
      rw [(sp_inj e).1, (sp_inj e).2]
      exact eb_rg (p := nrm 0 a3) rfl (nrm_0 _)
set_option maxRecDepth 100000 in
set_option maxHeartbeats 4000000 in
theorem f_QuillBoats_until_l47_ev {h' : AH} {r : Int32} (d : Nat) (hd : 2 ≤ d)  : ∀ (n : Nat) (h : AH) (a0 : Nat) (a2 : Nat) (a3 : Int32)  (d1 : Value) (_ : f_QuillBoats_until_l47  n h a0 a2 a3 = some (h', r)), Eb (Ev tb mL d) 14 (47, [.ref a0, d1, .ref a2, .int a3], [], h) h' (some (.int r)) := by
  intro n
  induction n with
  | zero => intro h a0 a2 a3 d1 e; exact nomatch e
  | succ n ih =>
    intro h a0 a2 a3 d1 e
    exact f_QuillBoats_until_b47_ev d hd _ (fun h a0 a2 a3 d1 e => ih h a0 a2 a3 d1 e) h a0 a2 a3 d1 e
set_option maxRecDepth 100000 in
set_option maxHeartbeats 4000000 in
theorem f_QuillBoats_until_ev (d0 : Nat) (hd0 : 3 ≤ d0) {h' : AH} {r : Int32} {h : AH} {a0 : Nat} {a1 : Int32} (e : f_QuillBoats_until h a0 a1 = some (h', r)) : Ev tb mL d0 14 [.ref a0, .int a1] h h' (some (.int r)) := by
  obtain ⟨d, rfl⟩ : ∃ d, d0 = d + 1 := ⟨d0 - 1, by omega⟩
  have hd : 2 ≤ d := by omega
  refine ⟨Nat.le_of_ble_eq_true rfl, ?_⟩
  show Eb (Ev tb mL d) 14 (0, [.ref a0, .int a1, .retAddr 0, .retAddr 0], [], h) h' (some (.int r))
  unfold f_QuillBoats_until at e
  refine eb_n 1 (1, [.ref a0, .int a1, .retAddr 0, .retAddr 0], [.ref a0], h) (rfl) ?_
  obtain ⟨g1, e⟩ := gd_some e
  refine eb_g (p := hT h a0 = 1) (4, [.ref a0, .int a1, .retAddr 0, .retAddr 0], [.ref (hR h a0 4)], h) rfl g1 ?_
  refine eb_n 1 (5, [.ref a0, .int a1, .retAddr 0, .retAddr 0], [.int a1, .ref (hR h a0 4)], h) (rfl) ?_
  obtain ⟨g2, e⟩ := gd_some e
  obtain ⟨h3, r4, eh3, e⟩ := bn_some e
  refine eb_cg (p := hT h (hR h a0 4) = 3) rfl g2 (f_River_hasBoat_ev d (Nat.le_trans (by decide) hd) eh3) ?_
  show Eb _ 14 (8, [.ref a0, .int a1, .retAddr 0, .retAddr 0], [.int r4], h3) _ _
  refine eb_b (c := ¬ r4 = 0) (22, [.ref a0, .int a1, .retAddr 0, .retAddr 0], [], h3) (11, [.ref a0, .int a1, .retAddr 0, .retAddr 0], [], h3) rfl (fun c5 => ?_) (fun c5 => ?_)
  · replace e := ite_t c5 e
    refine eb_n 1 (23, [.ref a0, .int a1, .retAddr 0, .retAddr 0], [.ref a0], h3) (rfl) ?_
    obtain ⟨g6, e⟩ := gd_some e
    refine eb_g (p := hT h3 a0 = 1) (26, [.ref a0, .int a1, .retAddr 0, .retAddr 0], [.ref (hR h3 a0 9)], h3) rfl g6 ?_
    obtain ⟨g7, e⟩ := gd_some e
    refine eb_g (p := hT h3 (hR h3 a0 9) = 3) (29, [.ref a0, .int a1, .retAddr 0, .retAddr 0], [.ref (hR h3 (hR h3 a0 9) 3)], h3) rfl g7 ?_
    refine eb_n 1 (30, [.ref a0, .int a1, .retAddr 0, .retAddr 0], [.int a1, .ref (hR h3 (hR h3 a0 9) 3)], h3) (rfl) ?_
    obtain ⟨g8, e⟩ := gd_some e
    refine eb_g (p := hT h3 (hR h3 (hR h3 a0 9) 3) = 107 ∧ inb a1 (hL h3 (hR h3 (hR h3 a0 9) 3))) (31, [.ref a0, .int a1, .retAddr 0, .retAddr 0], [.ref (hR h3 (hR h3 (hR h3 a0 9) 3) (ix a1))], h3) rfl g8 ?_
    obtain ⟨x9, hx9, e⟩ := lq_some e
    refine eb_n 1 (32, [.ref a0, .int a1, .ref x9, .retAddr 0], [], h3) (by subst hx9; rfl) ?_
    refine eb_n 2 (34, [.ref a0, .int a1, .ref x9, .retAddr 0], [.ref a0, .ref x9], h3) (rfl) ?_
    refine eb_g (p := hT h3 a0 = 1) (37, [.ref a0, .int a1, .ref x9, .retAddr 0], [.ref (hR h3 a0 4), .ref x9], h3) rfl g6 ?_
    obtain ⟨g10, e⟩ := gd_some e
    refine eb_g (p := hT h3 (hR h3 a0 4) = 3) (40, [.ref a0, .int a1, .ref x9, .retAddr 0], [.ref (hR h3 (hR h3 a0 4) 3), .ref x9], h3) rfl g10 ?_
    refine eb_n 1 (41, [.ref a0, .int a1, .ref x9, .retAddr 0], [.int a1, .ref (hR h3 (hR h3 a0 4) 3), .ref x9], h3) (rfl) ?_
    obtain ⟨g11, e⟩ := gd_some e
    refine eb_g (p := hT h3 (hR h3 (hR h3 a0 4) 3) = 107 ∧ inb a1 (hL h3 (hR h3 (hR h3 a0 4) 3))) (42, [.ref a0, .int a1, .ref x9, .retAddr 0], [.ref (hR h3 (hR h3 (hR h3 a0 4) 3) (ix a1)), .ref x9], h3) rfl g11 ?_
    obtain ⟨g12, e⟩ := gd_some e
    obtain ⟨h13, eh13, e⟩ := bv_some e
    refine eb_cg (p := hT h3 x9 = 7) rfl g12 (f_Boat_copyFrom_ev d (Nat.le_trans (by decide) hd) eh13) ?_
    show Eb _ 14 (45, [.ref a0, .int a1, .ref x9, .retAddr 0], [], h13) _ _
    refine eb_n 2 (47, [.ref a0, .int a1, .ref x9, .int (nI 0)], [], h13) (rfl) ?_
    exact f_QuillBoats_until_l47_ev d hd   FU _ _ _ _ _ e
  · replace e := ite_f c5 e
    exact nomatch e
set_option maxRecDepth 100000 in
set_option maxHeartbeats 4000000 in
theorem f_QuillBoats_grade_b20_ev {h' : AH} {r : Int32} (d : Nat) (hd : 2 ≤ d)  (h : AH)   (d0 : Value) (d1 : Value) (d2 : Value) (e : f_QuillBoats_grade_b20  h  = some (h', r)) : Eb (Ev tb mL d) 15 (20, [d0, d1, d2], [], h) h' (some (.int r)) := by
  unfold f_QuillBoats_grade_b20 at e
  exact nomatch e
set_option maxRecDepth 100000 in
set_option maxHeartbeats 4000000 in
theorem f_QuillBoats_grade_ev (d0 : Nat) (hd0 : 3 ≤ d0) {h' : AH} {r : Int32} {h : AH} {a0 : Nat} {a1 : Int32} {a2 : Int32} (e : f_QuillBoats_grade h a0 a1 a2 = some (h', r)) : Ev tb mL d0 15 [.ref a0, .int a1, .int a2] h h' (some (.int r)) := by
  obtain ⟨d, rfl⟩ : ∃ d, d0 = d + 1 := ⟨d0 - 1, by omega⟩
  have hd : 2 ≤ d := by omega
  refine ⟨Nat.le_of_ble_eq_true rfl, ?_⟩
  show Eb (Ev tb mL d) 15 (0, [.ref a0, .int a1, .int a2], [], h) h' (some (.int r))
  unfold f_QuillBoats_grade at e
  refine eb_n 1 (1, [.ref a0, .int a1, .int a2], [.ref a0], h) (rfl) ?_
  obtain ⟨g1, e⟩ := gd_some e
  refine eb_g (p := hT h a0 = 1) (4, [.ref a0, .int a1, .int a2], [.ref (hR h a0 4)], h) rfl g1 ?_
  refine eb_n 1 (5, [.ref a0, .int a1, .int a2], [.int a1, .ref (hR h a0 4)], h) (rfl) ?_
  obtain ⟨g2, e⟩ := gd_some e
  obtain ⟨h3, r4, eh3, e⟩ := bn_some e
  refine eb_cg (p := hT h (hR h a0 4) = 3) rfl g2 (f_River_hasGrade_ev d (Nat.le_trans (by decide) hd) eh3) ?_
  show Eb _ 15 (8, [.ref a0, .int a1, .int a2], [.int r4], h3) _ _
  refine eb_b (c := r4 = 0) (20, [.ref a0, .int a1, .int a2], [], h3) (11, [.ref a0, .int a1, .int a2], [], h3) rfl (fun c5 => ?_) (fun c5 => ?_)
  · replace e := ite_t c5 e
    exact f_QuillBoats_grade_b20_ev d hd   _  _ _ _ e
  · replace e := ite_f c5 e
    refine eb_n 3 (14, [.ref a0, .int a1, .int a2], [.int (nI 4), .int (nI 0), .int a2], h3) (rfl) ?_
    obtain ⟨h6, r7, eh6, e⟩ := bn_some e
    refine eb_c rfl (f_QuillBoats_isWithin_ev d (Nat.le_trans (by decide) hd) eh6) ?_
    show Eb _ 15 (17, [.ref a0, .int a1, .int a2], [.int r7], h6) _ _
    refine eb_b (c := ¬ r7 = 0) (30, [.ref a0, .int a1, .int a2], [], h6) (20, [.ref a0, .int a1, .int a2], [], h6) rfl (fun c8 => ?_) (fun c8 => ?_)
    · replace e := ite_t c8 e
      refine eb_n 1 (31, [.ref a0, .int a1, .int a2], [.ref a0], h6) (rfl) ?_
      obtain ⟨g9, e⟩ := gd_some e
      refine eb_g (p := hT h6 a0 = 1) (34, [.ref a0, .int a1, .int a2], [.ref (hR h6 a0 4)], h6) rfl g9 ?_
      refine eb_n 2 (36, [.ref a0, .int a1, .int a2], [.int a2, .int a1, .ref (hR h6 a0 4)], h6) (rfl) ?_
      obtain ⟨g10, e⟩ := gd_some e
      obtain ⟨h11, r12, eh11, e⟩ := bn_some e
      refine eb_cg (p := hT h6 (hR h6 a0 4) = 3) rfl g10 (f_River_ofGrade_ev d (Nat.le_trans (by decide) hd) eh11) ?_
      show Eb _ 15 (39, [.ref a0, .int a1, .int a2], [.int r12], h11) _ _
      rw [(sp_inj e).1, (sp_inj e).2]
      exact eb_rg (p := nrm 0 r12) rfl (nrm_0 _)
    · replace e := ite_f c8 e
      exact f_QuillBoats_grade_b20_ev d hd   _  _ _ _ e
set_option maxRecDepth 100000 in
set_option maxHeartbeats 4000000 in
theorem f_QuillBoats_worth_ev (d0 : Nat) (hd0 : 3 ≤ d0) {h' : AH} {r : Int32} {h : AH} {a0 : Nat} {a1 : Int32} {a2 : Int32} (e : f_QuillBoats_worth h a0 a1 a2 = some (h', r)) : Ev tb mL d0 17 [.ref a0, .int a1, .int a2] h h' (some (.int r)) := by
  obtain ⟨d, rfl⟩ : ∃ d, d0 = d + 1 := ⟨d0 - 1, by omega⟩
  have hd : 2 ≤ d := by omega
  refine ⟨Nat.le_of_ble_eq_true rfl, ?_⟩
  show Eb (Ev tb mL d) 17 (0, [.ref a0, .int a1, .int a2], [], h) h' (some (.int r))
  unfold f_QuillBoats_worth at e
  refine eb_n 1 (1, [.ref a0, .int a1, .int a2], [.ref a0], h) (rfl) ?_
  obtain ⟨g1, e⟩ := gd_some e
  refine eb_g (p := hT h a0 = 1) (4, [.ref a0, .int a1, .int a2], [.ref (hR h a0 4)], h) rfl g1 ?_
  refine eb_n 1 (5, [.ref a0, .int a1, .int a2], [.int a1, .ref (hR h a0 4)], h) (rfl) ?_
  obtain ⟨g2, e⟩ := gd_some e
  obtain ⟨h3, r4, eh3, e⟩ := bn_some e
  refine eb_cg (p := hT h (hR h a0 4) = 3) rfl g2 (f_River_hasGrade_ev d (Nat.le_trans (by decide) hd) eh3) ?_
  show Eb _ 17 (8, [.ref a0, .int a1, .int a2], [.int r4], h3) _ _
  refine eb_b (c := ¬ r4 = 0) (21, [.ref a0, .int a1, .int a2], [], h3) (11, [.ref a0, .int a1, .int a2], [], h3) rfl (fun c5 => ?_) (fun c5 => ?_)
  · replace e := ite_t c5 e
    refine eb_n 3 (25, [.ref a0, .int a1, .int a2], [.int (nI 40), .int (nI 1), .int a2], h3) (rfl) ?_
    obtain ⟨h6, r7, eh6, e⟩ := bn_some e
    refine eb_c rfl (f_QuillBoats_isWithin_ev d (Nat.le_trans (by decide) hd) eh6) ?_
    show Eb _ 17 (28, [.ref a0, .int a1, .int a2], [.int r7], h6) _ _
    refine eb_b (c := ¬ r7 = 0) (41, [.ref a0, .int a1, .int a2], [], h6) (31, [.ref a0, .int a1, .int a2], [], h6) rfl (fun c8 => ?_) (fun c8 => ?_)
    · replace e := ite_t c8 e
      refine eb_n 1 (42, [.ref a0, .int a1, .int a2], [.ref a0], h6) (rfl) ?_
      obtain ⟨g9, e⟩ := gd_some e
      refine eb_g (p := hT h6 a0 = 1) (45, [.ref a0, .int a1, .int a2], [.ref (hR h6 a0 4)], h6) rfl g9 ?_
      obtain ⟨g10, e⟩ := gd_some e
      refine eb_g (p := hT h6 (hR h6 a0 4) = 3) (48, [.ref a0, .int a1, .int a2], [.ref (hR h6 (hR h6 a0 4) 4)], h6) rfl g10 ?_
      refine eb_n 1 (49, [.ref a0, .int a1, .int a2], [.int a1, .ref (hR h6 (hR h6 a0 4) 4)], h6) (rfl) ?_
      obtain ⟨g11, e⟩ := gd_some e
      refine eb_g (p := hT h6 (hR h6 (hR h6 a0 4) 4) = 108 ∧ inb a1 (hL h6 (hR h6 (hR h6 a0 4) 4))) (50, [.ref a0, .int a1, .int a2], [.ref (hR h6 (hR h6 (hR h6 a0 4) 4) (ix a1))], h6) rfl g11 ?_
      refine eb_n 1 (51, [.ref a0, .int a1, .int a2], [.int a2, .ref (hR h6 (hR h6 (hR h6 a0 4) 4) (ix a1))], h6) (rfl) ?_
      obtain ⟨g12, e⟩ := gd_some e
      obtain ⟨h13, r14, eh13, e⟩ := bn_some e
      refine eb_cg (p := hT h6 (hR h6 (hR h6 (hR h6 a0 4) 4) (ix a1)) = 8) rfl g12 (f_Grade_worthOf_ev d (Nat.le_trans (by decide) hd) eh13) ?_
      show Eb _ 17 (54, [.ref a0, .int a1, .int a2], [.int r14], h13) _ _
      rw [(sp_inj e).1, (sp_inj e).2]
      exact eb_rg (p := nrm 0 r14) rfl (nrm_0 _)
    · replace e := ite_f c8 e
      exact nomatch e
  · replace e := ite_f c5 e
    exact nomatch e
set_option maxRecDepth 100000 in
set_option maxHeartbeats 4000000 in
theorem f_QuillBoats_foresee_b48_ev {h' : AH} {r : Int32} (d : Nat) (hd : 7 ≤ d)  (h : AH) (a0 : Nat) (a1 : Int32) (a2 : Int32)   (e : f_QuillBoats_foresee_b48  h a0 a1 a2 = some (h', r)) : Eb (Ev tb mL d) 18 (48, [.ref a0, .int a1, .int a2], [], h) h' (some (.int r)) := by
  unfold f_QuillBoats_foresee_b48 at e
  refine eb_n 1 (49, [.ref a0, .int a1, .int a2], [.ref a0], h) (rfl) ?_
  obtain ⟨g1, e⟩ := gd_some e
  refine eb_g (p := hT h a0 = 1) (52, [.ref a0, .int a1, .int a2], [.ref (hR h a0 9)], h) rfl g1 ?_
  refine eb_n 1 (53, [.ref a0, .int a1, .int a2], [.ref a0, .ref (hR h a0 9)], h) (rfl) ?_
  refine eb_g (p := hT h a0 = 1) (56, [.ref a0, .int a1, .int a2], [.ref (hR h a0 4), .ref (hR h a0 9)], h) rfl g1 ?_
  obtain ⟨g2, e⟩ := gd_some e
  obtain ⟨h3, eh3, e⟩ := bv_some e
  refine eb_cg (p := hT h (hR h a0 9) = 3) rfl g2 (f_River_copyFrom_ev d (Nat.le_trans (by decide) hd) eh3) ?_
  show Eb _ 18 (59, [.ref a0, .int a1, .int a2], [], h3) _ _
  refine eb_n 2 (61, [.ref a0, .int a1, .int a2], [.ref a0, .ref a0], h3) (rfl) ?_
  obtain ⟨g4, e⟩ := gd_some e
  refine eb_g (p := hT h3 a0 = 1) (64, [.ref a0, .int a1, .int a2], [.ref (hR h3 a0 9), .ref a0], h3) rfl g4 ?_
  refine eb_n 1 (65, [.ref a0, .int a1, .int a2], [.int a1, .ref (hR h3 a0 9), .ref a0], h3) (rfl) ?_
  obtain ⟨h5, eh5, e⟩ := bv_some e
  refine eb_cg (p := hT h3 a0 = 1) rfl g4 (f_QuillBoats_letHoursGo_ev d (Nat.le_trans (by decide) hd) eh5) ?_
  show Eb _ 18 (68, [.ref a0, .int a1, .int a2], [], h5) _ _
  refine eb_n 1 (69, [.ref a0, .int a1, .int a2], [.ref a0], h5) (rfl) ?_
  obtain ⟨g6, e⟩ := gd_some e
  refine eb_g (p := hT h5 a0 = 1) (72, [.ref a0, .int a1, .int a2], [.ref (hR h5 a0 9)], h5) rfl g6 ?_
  refine eb_n 1 (73, [.ref a0, .int a1, .int a2], [.int a2, .ref (hR h5 a0 9)], h5) (rfl) ?_
  obtain ⟨g7, e⟩ := gd_some e
  obtain ⟨h8, r9, eh8, e⟩ := bn_some e
  refine eb_cg (p := hT h5 (hR h5 a0 9) = 3) rfl g7 (f_River_total_ev d (Nat.le_trans (by decide) hd) eh8) ?_
  show Eb _ 18 (76, [.ref a0, .int a1, .int a2], [.int r9], h8) _ _
  rw [(sp_inj e).1, (sp_inj e).2]
  exact eb_rg (p := nrm 0 r9) rfl (nrm_0 _)
set_option maxRecDepth 100000 in
set_option maxHeartbeats 4000000 in
theorem f_QuillBoats_foresee_ev (d0 : Nat) (hd0 : 8 ≤ d0) {h' : AH} {r : Int32} {h : AH} {a0 : Nat} {a1 : Int32} {a2 : Int32} (e : f_QuillBoats_foresee h a0 a1 a2 = some (h', r)) : Ev tb mL d0 18 [.ref a0, .int a1, .int a2] h h' (some (.int r)) := by
  obtain ⟨d, rfl⟩ : ∃ d, d0 = d + 1 := ⟨d0 - 1, by omega⟩
  have hd : 7 ≤ d := by omega
  refine ⟨Nat.le_of_ble_eq_true rfl, ?_⟩
  show Eb (Ev tb mL d) 18 (0, [.ref a0, .int a1, .int a2], [], h) h' (some (.int r))
  unfold f_QuillBoats_foresee at e
  refine eb_n 3 (4, [.ref a0, .int a1, .int a2], [.int (nI 120), .int (nI 1), .int a1], h) (rfl) ?_
  obtain ⟨h1, r2, eh1, e⟩ := bn_some e
  refine eb_c rfl (f_QuillBoats_isWithin_ev d (Nat.le_trans (by decide) hd) eh1) ?_
  show Eb _ 18 (7, [.ref a0, .int a1, .int a2], [.int r2], h1) _ _
  refine eb_b (c := ¬ r2 = 0) (21, [.ref a0, .int a1, .int a2], [], h1) (10, [.ref a0, .int a1, .int a2], [], h1) rfl (fun c3 => ?_) (fun c3 => ?_)
  · replace e := ite_t c3 e
    refine eb_n 2 (23, [.ref a0, .int a1, .int a2], [.int (nI 1), .int a2], h1) (rfl) ?_
    refine eb_b (c := a2 = (nI 1)) (48, [.ref a0, .int a1, .int a2], [], h1) (26, [.ref a0, .int a1, .int a2], [], h1) rfl (fun c4 => ?_) (fun c4 => ?_)
    · replace e := ite_t c4 e
      exact f_QuillBoats_foresee_b48_ev d hd   _ _ _ _  e
    · replace e := ite_f c4 e
      refine eb_n 3 (31, [.ref a0, .int a1, .int a2], [.int (nI 12), .int (nI 7), .int a2], h1) (rfl) ?_
      obtain ⟨h5, r6, eh5, e⟩ := bn_some e
      refine eb_c rfl (f_QuillBoats_isWithin_ev d (Nat.le_trans (by decide) hd) eh5) ?_
      show Eb _ 18 (34, [.ref a0, .int a1, .int a2], [.int r6], h5) _ _
      refine eb_b (c := ¬ r6 = 0) (48, [.ref a0, .int a1, .int a2], [], h5) (37, [.ref a0, .int a1, .int a2], [], h5) rfl (fun c7 => ?_) (fun c7 => ?_)
      · replace e := ite_t c7 e
        exact f_QuillBoats_foresee_b48_ev d hd   _ _ _ _  e
      · replace e := ite_f c7 e
        exact nomatch e
  · replace e := ite_f c3 e
    exact nomatch e
set_option maxRecDepth 100000 in
set_option maxHeartbeats 4000000 in
theorem f_Sim_counted_b133_ev {h' : AH} {r : Int32} (d : Nat) (hd : 0 ≤ d) (k133 : AH → Nat → Int32 → Int32 → Int32 → Int32 → Nat → Int32 → Int32 → Option (AH × Int32)) (hk133 : ∀ (h : AH) (a0 : Nat) (a1 : Int32) (a2 : Int32) (a3 : Int32) (a4 : Int32) (a5 : Nat) (a6 : Int32) (a7 : Int32)  (d8 : Value) (d9 : Value) (d10 : Value) (d11 : Value) (d12 : Value), k133 h a0 a1 a2 a3 a4 a5 a6 a7 = some (h', r) → Eb (Ev tb mL d) 75 (133, [.ref a0, .int a1, .int a2, .int a3, .int a4, .ref a5, .int a6, .int a7, d8, d9, d10, d11, d12], [], h) h' (some (.int r)))  (h : AH) (a0 : Nat) (a1 : Int32) (a2 : Int32) (a3 : Int32) (a4 : Int32) (a5 : Nat) (a6 : Int32) (a7 : Int32)  (d8 : Value) (d9 : Value) (d10 : Value) (d11 : Value) (d12 : Value) (e : f_Sim_counted_b133 k133 h a0 a1 a2 a3 a4 a5 a6 a7 = some (h', r)) : Eb (Ev tb mL d) 75 (133, [.ref a0, .int a1, .int a2, .int a3, .int a4, .ref a5, .int a6, .int a7, d8, d9, d10, d11, d12], [], h) h' (some (.int r)) := by
  unfold f_Sim_counted_b133 at e
  refine eb_n 2 (137, [.ref a0, .int a1, .int a2, .int a3, .int a4, .ref a5, .int a6, .int a7, d8, d9, d10, d11, d12], [.int a6, .int a7], h) (rfl) ?_
  refine eb_b (c := a6 ≤ a7) (162, [.ref a0, .int a1, .int a2, .int a3, .int a4, .ref a5, .int a6, .int a7, d8, d9, d10, d11, d12], [], h) (140, [.ref a0, .int a1, .int a2, .int a3, .int a4, .ref a5, .int a6, .int a7, d8, d9, d10, d11, d12], [], h) rfl (fun c1 => ?_) (fun c1 => ?_)
  · replace e := ite_t c1 e
    refine eb_n 1 (164, [.ref a0, .int a1, .int a2, .int a3, .int a4, .ref a5, .int a6, .int a7, d8, d9, d10, d11, d12], [.int (nI 16)], h) (rfl) ?_
    obtain ⟨h2, eh2, e⟩ := lq_some e
    refine eb_g (p := ¬ (nI 16) < 0 ∧ ix (nI 16) ≤ 65536) (166, [.ref a0, .int a1, .int a2, .int a3, .int a4, .ref a5, .int a6, .int a7, d8, d9, d10, d11, d12], [.ref (hN h)], h2) (by rw [eh2]; rfl) (by decide) ?_
    refine eb_n 3 (169, [.ref a0, .int a1, .int a2, .int a3, .int a4, .ref a5, .int a6, .int a7, d8, d9, d10, d11, d12], [.ref a0, .int (nI 0), .ref (hN h), .ref (hN h)], h2) (rfl) ?_
    obtain ⟨g3, e⟩ := gd_some e
    refine eb_g (p := hT h2 a0 = 13) (172, [.ref a0, .int a1, .int a2, .int a3, .int a4, .ref a5, .int a6, .int a7, d8, d9, d10, d11, d12], [.int (hI h2 a0 0), .int (nI 0), .ref (hN h), .ref (hN h)], h2) rfl g3 ?_
    obtain ⟨g4, e⟩ := gd_some e
    obtain ⟨h5, eh5, e⟩ := lq_some e
    refine eb_g (p := hT h2 (hN h) = 101 ∧ inb (nI 0) (hL h2 (hN h))) (173, [.ref a0, .int a1, .int a2, .int a3, .int a4, .ref a5, .int a6, .int a7, d8, d9, d10, d11, d12], [.ref (hN h)], h5) (by rw [eh5]; rfl) g4 ?_
    refine eb_n 3 (176, [.ref a0, .int a1, .int a2, .int a3, .int a4, .ref a5, .int a6, .int a7, d8, d9, d10, d11, d12], [.ref a0, .int (nI 1), .ref (hN h), .ref (hN h)], h5) (rfl) ?_
    obtain ⟨g6, e⟩ := gd_some e
    refine eb_g (p := hT h5 a0 = 13) (179, [.ref a0, .int a1, .int a2, .int a3, .int a4, .ref a5, .int a6, .int a7, d8, d9, d10, d11, d12], [.int (hI h5 a0 1), .int (nI 1), .ref (hN h), .ref (hN h)], h5) rfl g6 ?_
    obtain ⟨g7, e⟩ := gd_some e
    obtain ⟨h8, eh8, e⟩ := lq_some e
    refine eb_g (p := hT h5 (hN h) = 101 ∧ inb (nI 1) (hL h5 (hN h))) (180, [.ref a0, .int a1, .int a2, .int a3, .int a4, .ref a5, .int a6, .int a7, d8, d9, d10, d11, d12], [.ref (hN h)], h8) (by rw [eh8]; rfl) g7 ?_
    refine eb_n 3 (183, [.ref a0, .int a1, .int a2, .int a3, .int a4, .ref a5, .int a6, .int a7, d8, d9, d10, d11, d12], [.ref a0, .int (nI 2), .ref (hN h), .ref (hN h)], h8) (rfl) ?_
    obtain ⟨g9, e⟩ := gd_some e
    refine eb_g (p := hT h8 a0 = 13) (186, [.ref a0, .int a1, .int a2, .int a3, .int a4, .ref a5, .int a6, .int a7, d8, d9, d10, d11, d12], [.ref (hR h8 a0 12), .int (nI 2), .ref (hN h), .ref (hN h)], h8) rfl g9 ?_
    obtain ⟨g10, e⟩ := gd_some e
    refine eb_g (p := hT h8 (hR h8 a0 12) = 109) (187, [.ref a0, .int a1, .int a2, .int a3, .int a4, .ref a5, .int a6, .int a7, d8, d9, d10, d11, d12], [.int (nI (hL h8 (hR h8 a0 12))), .int (nI 2), .ref (hN h), .ref (hN h)], h8) rfl g10 ?_
    obtain ⟨g11, e⟩ := gd_some e
    obtain ⟨h12, eh12, e⟩ := lq_some e
    refine eb_g (p := hT h8 (hN h) = 101 ∧ inb (nI 2) (hL h8 (hN h))) (188, [.ref a0, .int a1, .int a2, .int a3, .int a4, .ref a5, .int a6, .int a7, d8, d9, d10, d11, d12], [.ref (hN h)], h12) (by rw [eh12]; rfl) g11 ?_
    refine eb_n 3 (191, [.ref a0, .int a1, .int a2, .int a3, .int a4, .ref a5, .int a6, .int a7, d8, d9, d10, d11, d12], [.ref a0, .int (nI 3), .ref (hN h), .ref (hN h)], h12) (rfl) ?_
    obtain ⟨g13, e⟩ := gd_some e
    refine eb_g (p := hT h12 a0 = 13) (194, [.ref a0, .int a1, .int a2, .int a3, .int a4, .ref a5, .int a6, .int a7, d8, d9, d10, d11, d12], [.ref (hR h12 a0 14), .int (nI 3), .ref (hN h), .ref (hN h)], h12) rfl g13 ?_
    obtain ⟨g14, e⟩ := gd_some e
    refine eb_g (p := hT h12 (hR h12 a0 14) = 110) (195, [.ref a0, .int a1, .int a2, .int a3, .int a4, .ref a5, .int a6, .int a7, d8, d9, d10, d11, d12], [.int (nI (hL h12 (hR h12 a0 14))), .int (nI 3), .ref (hN h), .ref (hN h)], h12) rfl g14 ?_
    obtain ⟨g15, e⟩ := gd_some e
    obtain ⟨h16, eh16, e⟩ := lq_some e
    refine eb_g (p := hT h12 (hN h) = 101 ∧ inb (nI 3) (hL h12 (hN h))) (196, [.ref a0, .int a1, .int a2, .int a3, .int a4, .ref a5, .int a6, .int a7, d8, d9, d10, d11, d12], [.ref (hN h)], h16) (by rw [eh16]; rfl) g15 ?_
    refine eb_n 3 (199, [.ref a0, .int a1, .int a2, .int a3, .int a4, .ref a5, .int a6, .int a7, d8, d9, d10, d11, d12], [.ref a0, .int (nI 4), .ref (hN h), .ref (hN h)], h16) (rfl) ?_
    obtain ⟨g17, e⟩ := gd_some e
    refine eb_g (p := hT h16 a0 = 13) (202, [.ref a0, .int a1, .int a2, .int a3, .int a4, .ref a5, .int a6, .int a7, d8, d9, d10, d11, d12], [.ref (hR h16 a0 15), .int (nI 4), .ref (hN h), .ref (hN h)], h16) rfl g17 ?_
    obtain ⟨g18, e⟩ := gd_some e
    refine eb_g (p := hT h16 (hR h16 a0 15) = 109) (203, [.ref a0, .int a1, .int a2, .int a3, .int a4, .ref a5, .int a6, .int a7, d8, d9, d10, d11, d12], [.int (nI (hL h16 (hR h16 a0 15))), .int (nI 4), .ref (hN h), .ref (hN h)], h16) rfl g18 ?_
    obtain ⟨g19, e⟩ := gd_some e
    obtain ⟨h20, eh20, e⟩ := lq_some e
    refine eb_g (p := hT h16 (hN h) = 101 ∧ inb (nI 4) (hL h16 (hN h))) (204, [.ref a0, .int a1, .int a2, .int a3, .int a4, .ref a5, .int a6, .int a7, d8, d9, d10, d11, d12], [.ref (hN h)], h20) (by rw [eh20]; rfl) g19 ?_
    refine eb_n 3 (207, [.ref a0, .int a1, .int a2, .int a3, .int a4, .ref a5, .int a6, .int a7, d8, d9, d10, d11, d12], [.ref a0, .int (nI 5), .ref (hN h), .ref (hN h)], h20) (rfl) ?_
    obtain ⟨g21, e⟩ := gd_some e
    refine eb_g (p := hT h20 a0 = 13) (210, [.ref a0, .int a1, .int a2, .int a3, .int a4, .ref a5, .int a6, .int a7, d8, d9, d10, d11, d12], [.ref (hR h20 a0 16), .int (nI 5), .ref (hN h), .ref (hN h)], h20) rfl g21 ?_
    obtain ⟨g22, e⟩ := gd_some e
    refine eb_g (p := hT h20 (hR h20 a0 16) = 109) (211, [.ref a0, .int a1, .int a2, .int a3, .int a4, .ref a5, .int a6, .int a7, d8, d9, d10, d11, d12], [.int (nI (hL h20 (hR h20 a0 16))), .int (nI 5), .ref (hN h), .ref (hN h)], h20) rfl g22 ?_
    obtain ⟨g23, e⟩ := gd_some e
    obtain ⟨h24, eh24, e⟩ := lq_some e
    refine eb_g (p := hT h20 (hN h) = 101 ∧ inb (nI 5) (hL h20 (hN h))) (212, [.ref a0, .int a1, .int a2, .int a3, .int a4, .ref a5, .int a6, .int a7, d8, d9, d10, d11, d12], [.ref (hN h)], h24) (by rw [eh24]; rfl) g23 ?_
    refine eb_n 3 (216, [.ref a0, .int a1, .int a2, .int a3, .int a4, .ref a5, .int a6, .int a7, d8, d9, d10, d11, d12], [.ref a0, .int (nI 6), .ref (hN h), .ref (hN h)], h24) (rfl) ?_
    obtain ⟨g25, e⟩ := gd_some e
    refine eb_g (p := hT h24 a0 = 13) (219, [.ref a0, .int a1, .int a2, .int a3, .int a4, .ref a5, .int a6, .int a7, d8, d9, d10, d11, d12], [.ref (hR h24 a0 17), .int (nI 6), .ref (hN h), .ref (hN h)], h24) rfl g25 ?_
    obtain ⟨g26, e⟩ := gd_some e
    refine eb_g (p := hT h24 (hR h24 a0 17) = 109) (220, [.ref a0, .int a1, .int a2, .int a3, .int a4, .ref a5, .int a6, .int a7, d8, d9, d10, d11, d12], [.int (nI (hL h24 (hR h24 a0 17))), .int (nI 6), .ref (hN h), .ref (hN h)], h24) rfl g26 ?_
    obtain ⟨g27, e⟩ := gd_some e
    obtain ⟨h28, eh28, e⟩ := lq_some e
    refine eb_g (p := hT h24 (hN h) = 101 ∧ inb (nI 6) (hL h24 (hN h))) (221, [.ref a0, .int a1, .int a2, .int a3, .int a4, .ref a5, .int a6, .int a7, d8, d9, d10, d11, d12], [.ref (hN h)], h28) (by rw [eh28]; rfl) g27 ?_
    refine eb_n 3 (225, [.ref a0, .int a1, .int a2, .int a3, .int a4, .ref a5, .int a6, .int a7, d8, d9, d10, d11, d12], [.int a2, .int (nI 7), .ref (hN h), .ref (hN h)], h28) (rfl) ?_
    obtain ⟨g29, e⟩ := gd_some e
    obtain ⟨h30, eh30, e⟩ := lq_some e
    refine eb_g (p := hT h28 (hN h) = 101 ∧ inb (nI 7) (hL h28 (hN h))) (226, [.ref a0, .int a1, .int a2, .int a3, .int a4, .ref a5, .int a6, .int a7, d8, d9, d10, d11, d12], [.ref (hN h)], h30) (by rw [eh30]; rfl) g29 ?_
    refine eb_n 3 (230, [.ref a0, .int a1, .int a2, .int a3, .int a4, .ref a5, .int a6, .int a7, d8, d9, d10, d11, d12], [.int a3, .int (nI 8), .ref (hN h), .ref (hN h)], h30) (rfl) ?_
    obtain ⟨g31, e⟩ := gd_some e
    obtain ⟨h32, eh32, e⟩ := lq_some e
    refine eb_g (p := hT h30 (hN h) = 101 ∧ inb (nI 8) (hL h30 (hN h))) (231, [.ref a0, .int a1, .int a2, .int a3, .int a4, .ref a5, .int a6, .int a7, d8, d9, d10, d11, d12], [.ref (hN h)], h32) (by rw [eh32]; rfl) g31 ?_
    refine eb_n 3 (236, [.ref a0, .int a1, .int a2, .int a3, .int a4, .ref a5, .int a6, .int a7, d8, d9, d10, d11, d12], [.int a4, .int (nI 9), .ref (hN h), .ref (hN h)], h32) (rfl) ?_
    obtain ⟨g33, e⟩ := gd_some e
    obtain ⟨h34, eh34, e⟩ := lq_some e
    refine eb_g (p := hT h32 (hN h) = 101 ∧ inb (nI 9) (hL h32 (hN h))) (237, [.ref a0, .int a1, .int a2, .int a3, .int a4, .ref a5, .int a6, .int a7, d8, d9, d10, d11, d12], [.ref (hN h)], h34) (by rw [eh34]; rfl) g33 ?_
    refine eb_n 3 (241, [.ref a0, .int a1, .int a2, .int a3, .int a4, .ref a5, .int a6, .int a7, d8, d9, d10, d11, d12], [.ref a0, .int (nI 10), .ref (hN h), .ref (hN h)], h34) (rfl) ?_
    obtain ⟨g35, e⟩ := gd_some e
    refine eb_g (p := hT h34 a0 = 13) (244, [.ref a0, .int a1, .int a2, .int a3, .int a4, .ref a5, .int a6, .int a7, d8, d9, d10, d11, d12], [.int (hI h34 a0 2), .int (nI 10), .ref (hN h), .ref (hN h)], h34) rfl g35 ?_
    obtain ⟨g36, e⟩ := gd_some e
    obtain ⟨h37, eh37, e⟩ := lq_some e
    refine eb_g (p := hT h34 (hN h) = 101 ∧ inb (nI 10) (hL h34 (hN h))) (245, [.ref a0, .int a1, .int a2, .int a3, .int a4, .ref a5, .int a6, .int a7, d8, d9, d10, d11, d12], [.ref (hN h)], h37) (by rw [eh37]; rfl) g36 ?_
    refine eb_n 3 (249, [.ref a0, .int a1, .int a2, .int a3, .int a4, .ref a5, .int a6, .int a7, d8, d9, d10, d11, d12], [.ref a0, .int (nI 11), .ref (hN h), .ref (hN h)], h37) (rfl) ?_
    obtain ⟨g38, e⟩ := gd_some e
    refine eb_g (p := hT h37 a0 = 13) (252, [.ref a0, .int a1, .int a2, .int a3, .int a4, .ref a5, .int a6, .int a7, d8, d9, d10, d11, d12], [.int (hI h37 a0 3), .int (nI 11), .ref (hN h), .ref (hN h)], h37) rfl g38 ?_
    obtain ⟨g39, e⟩ := gd_some e
    obtain ⟨h40, eh40, e⟩ := lq_some e
    refine eb_g (p := hT h37 (hN h) = 101 ∧ inb (nI 11) (hL h37 (hN h))) (253, [.ref a0, .int a1, .int a2, .int a3, .int a4, .ref a5, .int a6, .int a7, d8, d9, d10, d11, d12], [.ref (hN h)], h40) (by rw [eh40]; rfl) g39 ?_
    refine eb_n 3 (257, [.ref a0, .int a1, .int a2, .int a3, .int a4, .ref a5, .int a6, .int a7, d8, d9, d10, d11, d12], [.ref a0, .int (nI 12), .ref (hN h), .ref (hN h)], h40) (rfl) ?_
    obtain ⟨g41, e⟩ := gd_some e
    refine eb_g (p := hT h40 a0 = 13) (260, [.ref a0, .int a1, .int a2, .int a3, .int a4, .ref a5, .int a6, .int a7, d8, d9, d10, d11, d12], [.int (hI h40 a0 4), .int (nI 12), .ref (hN h), .ref (hN h)], h40) rfl g41 ?_
    obtain ⟨g42, e⟩ := gd_some e
    obtain ⟨h43, eh43, e⟩ := lq_some e
    refine eb_g (p := hT h40 (hN h) = 101 ∧ inb (nI 12) (hL h40 (hN h))) (261, [.ref a0, .int a1, .int a2, .int a3, .int a4, .ref a5, .int a6, .int a7, d8, d9, d10, d11, d12], [.ref (hN h)], h43) (by rw [eh43]; rfl) g42 ?_
    refine eb_n 3 (265, [.ref a0, .int a1, .int a2, .int a3, .int a4, .ref a5, .int a6, .int a7, d8, d9, d10, d11, d12], [.ref a0, .int (nI 13), .ref (hN h), .ref (hN h)], h43) (rfl) ?_
    obtain ⟨g44, e⟩ := gd_some e
    refine eb_g (p := hT h43 a0 = 13) (268, [.ref a0, .int a1, .int a2, .int a3, .int a4, .ref a5, .int a6, .int a7, d8, d9, d10, d11, d12], [.int (hI h43 a0 5), .int (nI 13), .ref (hN h), .ref (hN h)], h43) rfl g44 ?_
    obtain ⟨g45, e⟩ := gd_some e
    obtain ⟨h46, eh46, e⟩ := lq_some e
    refine eb_g (p := hT h43 (hN h) = 101 ∧ inb (nI 13) (hL h43 (hN h))) (269, [.ref a0, .int a1, .int a2, .int a3, .int a4, .ref a5, .int a6, .int a7, d8, d9, d10, d11, d12], [.ref (hN h)], h46) (by rw [eh46]; rfl) g45 ?_
    refine eb_n 3 (273, [.ref a0, .int a1, .int a2, .int a3, .int a4, .ref a5, .int a6, .int a7, d8, d9, d10, d11, d12], [.ref a0, .int (nI 14), .ref (hN h), .ref (hN h)], h46) (rfl) ?_
    obtain ⟨g47, e⟩ := gd_some e
    refine eb_g (p := hT h46 a0 = 13) (276, [.ref a0, .int a1, .int a2, .int a3, .int a4, .ref a5, .int a6, .int a7, d8, d9, d10, d11, d12], [.int (hI h46 a0 6), .int (nI 14), .ref (hN h), .ref (hN h)], h46) rfl g47 ?_
    obtain ⟨g48, e⟩ := gd_some e
    obtain ⟨h49, eh49, e⟩ := lq_some e
    refine eb_g (p := hT h46 (hN h) = 101 ∧ inb (nI 14) (hL h46 (hN h))) (277, [.ref a0, .int a1, .int a2, .int a3, .int a4, .ref a5, .int a6, .int a7, d8, d9, d10, d11, d12], [.ref (hN h)], h49) (by rw [eh49]; rfl) g48 ?_
    refine eb_n 3 (281, [.ref a0, .int a1, .int a2, .int a3, .int a4, .ref a5, .int a6, .int a7, d8, d9, d10, d11, d12], [.int (nI 0), .int (nI 15), .ref (hN h), .ref (hN h)], h49) (rfl) ?_
    obtain ⟨g50, e⟩ := gd_some e
    obtain ⟨h51, eh51, e⟩ := lq_some e
    refine eb_g (p := hT h49 (hN h) = 101 ∧ inb (nI 15) (hL h49 (hN h))) (282, [.ref a0, .int a1, .int a2, .int a3, .int a4, .ref a5, .int a6, .int a7, d8, d9, d10, d11, d12], [.ref (hN h)], h51) (by rw [eh51]; rfl) g50 ?_
    obtain ⟨x52, hx52, e⟩ := lq_some e
    refine eb_n 1 (284, [.ref a0, .int a1, .int a2, .int a3, .int a4, .ref x52, .int a6, .int a7, d8, d9, d10, d11, d12], [], h51) (by subst hx52; rfl) ?_
    refine eb_n 2 (287, [.ref a0, .int a1, .int a2, .int a3, .int a4, .ref x52, .int a6, .int a7, d8, d9, d10, d11, d12], [.int a1, .ref x52], h51) (rfl) ?_
    obtain ⟨g53, e⟩ := gd_some e
    refine eb_g (p := hT h51 x52 = 101 ∧ inb a1 (hL h51 x52)) (288, [.ref a0, .int a1, .int a2, .int a3, .int a4, .ref x52, .int a6, .int a7, d8, d9, d10, d11, d12], [.int (hI h51 x52 (ix a1))], h51) rfl g53 ?_
    rw [(sp_inj e).1, (sp_inj e).2]
    exact eb_rg (p := nrm 0 (hI h51 x52 (ix a1))) rfl (nrm_0 _)
  · replace e := ite_f c1 e
    refine eb_n 2 (144, [.ref a0, .int a1, .int a2, .int a3, .int a4, .ref a5, .int a6, .int a7, d8, d9, d10, d11, d12], [.int a7, .ref a5], h) (rfl) ?_
    obtain ⟨g54, e⟩ := gd_some e
    refine eb_g (p := hT h a5 = 109 ∧ inb a7 (hL h a5)) (145, [.ref a0, .int a1, .int a2, .int a3, .int a4, .ref a5, .int a6, .int a7, d8, d9, d10, d11, d12], [.ref (hR h a5 (ix a7))], h) rfl g54 ?_
    obtain ⟨x55, hx55, e⟩ := lq_some e
    refine eb_n 1 (147, [.ref a0, .int a1, .int a2, .int a3, .int a4, .ref a5, .int a6, .int a7, .ref x55, d9, d10, d11, d12], [], h) (by subst hx55; rfl) ?_
    refine eb_n 3 (152, [.ref a0, .int a1, .int a2, .int a3, .int a4, .ref a5, .int a6, .int a7, .ref x55, d9, d10, d11, d12], [.int (nI 4), .ref x55, .int a4], h) (rfl) ?_
    obtain ⟨g56, e⟩ := gd_some e
    refine eb_g (p := hT h x55 = 101 ∧ inb (nI 4) (hL h x55)) (153, [.ref a0, .int a1, .int a2, .int a3, .int a4, .ref a5, .int a6, .int a7, .ref x55, d9, d10, d11, d12], [.int (hI h x55 (ix (nI 4))), .int a4], h) rfl g56 ?_
    obtain ⟨x57, hx57, e⟩ := lq_some e
    refine eb_n 2 (156, [.ref a0, .int a1, .int a2, .int a3, .int x57, .ref a5, .int a6, .int a7, .ref x55, d9, d10, d11, d12], [], h) (by subst hx57; rfl) ?_
    obtain ⟨x58, hx58, e⟩ := lq_some e
    refine eb_n 1 (159, [.ref a0, .int a1, .int a2, .int a3, .int x57, .ref a5, .int a6, .int x58, .ref x55, d9, d10, d11, d12], [], h) (by subst hx58; rfl) ?_
    refine eb_n 1 (133, [.ref a0, .int a1, .int a2, .int a3, .int x57, .ref a5, .int a6, .int x58, .ref x55, d9, d10, d11, d12], [], h) (rfl) ?_
    exact hk133 _ _ _ _ _ _ _ _ _ _ _ _ _ _ e
set_option maxRecDepth 100000 in
set_option maxHeartbeats 4000000 in
theorem f_Sim_counted_l133_ev {h' : AH} {r : Int32} (d : Nat) (hd : 0 ≤ d)  : ∀ (n : Nat) (h : AH) (a0 : Nat) (a1 : Int32) (a2 : Int32) (a3 : Int32) (a4 : Int32) (a5 : Nat) (a6 : Int32) (a7 : Int32)  (d8 : Value) (d9 : Value) (d10 : Value) (d11 : Value) (d12 : Value) (_ : f_Sim_counted_l133  n h a0 a1 a2 a3 a4 a5 a6 a7 = some (h', r)), Eb (Ev tb mL d) 75 (133, [.ref a0, .int a1, .int a2, .int a3, .int a4, .ref a5, .int a6, .int a7, d8, d9, d10, d11, d12], [], h) h' (some (.int r)) := by
  intro n
  induction n with
  | zero => intro h a0 a1 a2 a3 a4 a5 a6 a7 d8 d9 d10 d11 d12 e; exact nomatch e
  | succ n ih =>
    intro h a0 a1 a2 a3 a4 a5 a6 a7 d8 d9 d10 d11 d12 e
    exact f_Sim_counted_b133_ev d hd _ (fun h a0 a1 a2 a3 a4 a5 a6 a7 d8 d9 d10 d11 d12 e => ih h a0 a1 a2 a3 a4 a5 a6 a7 d8 d9 d10 d11 d12 e) h a0 a1 a2 a3 a4 a5 a6 a7 d8 d9 d10 d11 d12 e
set_option maxRecDepth 100000 in
set_option maxHeartbeats 4000000 in
theorem f_Sim_counted_b86_ev {h' : AH} {r : Int32} (d : Nat) (hd : 0 ≤ d) (k60 : AH → Nat → Int32 → Int32 → Int32 → Int32 → Nat → Int32 → Int32 → Option (AH × Int32)) (k86 : AH → Nat → Int32 → Int32 → Int32 → Int32 → Nat → Int32 → Int32 → Nat → Int32 → Int32 → Option (AH × Int32)) (hk60 : ∀ (h : AH) (a0 : Nat) (a1 : Int32) (a2 : Int32) (a3 : Int32) (a4 : Int32) (a5 : Nat) (a6 : Int32) (a7 : Int32)  (d8 : Value) (d9 : Value) (d10 : Value) (d11 : Value) (d12 : Value), k60 h a0 a1 a2 a3 a4 a5 a6 a7 = some (h', r) → Eb (Ev tb mL d) 75 (60, [.ref a0, .int a1, .int a2, .int a3, .int a4, .ref a5, .int a6, .int a7, d8, d9, d10, d11, d12], [], h) h' (some (.int r))) (hk86 : ∀ (h : AH) (a0 : Nat) (a1 : Int32) (a2 : Int32) (a3 : Int32) (a4 : Int32) (a5 : Nat) (a6 : Int32) (a7 : Int32) (a9 : Nat) (a10 : Int32) (a11 : Int32)  (d8 : Value) (d12 : Value), k86 h a0 a1 a2 a3 a4 a5 a6 a7 a9 a10 a11 = some (h', r) → Eb (Ev tb mL d) 75 (86, [.ref a0, .int a1, .int a2, .int a3, .int a4, .ref a5, .int a6, .int a7, d8, .ref a9, .int a10, .int a11, d12], [], h) h' (some (.int r)))  (h : AH) (a0 : Nat) (a1 : Int32) (a2 : Int32) (a3 : Int32) (a4 : Int32) (a5 : Nat) (a6 : Int32) (a7 : Int32) (a9 : Nat) (a10 : Int32) (a11 : Int32)  (d8 : Value) (d12 : Value) (e : f_Sim_counted_b86 k60 k86 h a0 a1 a2 a3 a4 a5 a6 a7 a9 a10 a11 = some (h', r)) : Eb (Ev tb mL d) 75 (86, [.ref a0, .int a1, .int a2, .int a3, .int a4, .ref a5, .int a6, .int a7, d8, .ref a9, .int a10, .int a11, d12], [], h) h' (some (.int r)) := by
  unfold f_Sim_counted_b86 at e
  refine eb_n 2 (90, [.ref a0, .int a1, .int a2, .int a3, .int a4, .ref a5, .int a6, .int a7, d8, .ref a9, .int a10, .int a11, d12], [.int a10, .int a11], h) (rfl) ?_
  refine eb_b (c := a10 ≤ a11) (113, [.ref a0, .int a1, .int a2, .int a3, .int a4, .ref a5, .int a6, .int a7, d8, .ref a9, .int a10, .int a11, d12], [], h) (93, [.ref a0, .int a1, .int a2, .int a3, .int a4, .ref a5, .int a6, .int a7, d8, .ref a9, .int a10, .int a11, d12], [], h) rfl (fun c1 => ?_) (fun c1 => ?_)
  · replace e := ite_t c1 e
    obtain ⟨x2, hx2, e⟩ := lq_some e
    refine eb_n 1 (116, [.ref a0, .int a1, .int a2, .int a3, .int a4, .ref a5, .int a6, .int x2, d8, .ref a9, .int a10, .int a11, d12], [], h) (by subst hx2; rfl) ?_
    refine eb_n 1 (60, [.ref a0, .int a1, .int a2, .int a3, .int a4, .ref a5, .int a6, .int x2, d8, .ref a9, .int a10, .int a11, d12], [], h) (rfl) ?_
    exact hk60 _ _ _ _ _ _ _ _ _ _ _ _ _ _ e
  · replace e := ite_f c1 e
    refine eb_n 2 (97, [.ref a0, .int a1, .int a2, .int a3, .int a4, .ref a5, .int a6, .int a7, d8, .ref a9, .int a10, .int a11, d12], [.int a11, .ref a9], h) (rfl) ?_
    obtain ⟨g3, e⟩ := gd_some e
    refine eb_g (p := hT h a9 = 109 ∧ inb a11 (hL h a9)) (98, [.ref a0, .int a1, .int a2, .int a3, .int a4, .ref a5, .int a6, .int a7, d8, .ref a9, .int a10, .int a11, d12], [.ref (hR h a9 (ix a11))], h) rfl g3 ?_
    obtain ⟨x4, hx4, e⟩ := lq_some e
    refine eb_n 1 (100, [.ref a0, .int a1, .int a2, .int a3, .int a4, .ref a5, .int a6, .int a7, d8, .ref a9, .int a10, .int a11, .ref x4], [], h) (by subst hx4; rfl) ?_
    refine eb_n 3 (104, [.ref a0, .int a1, .int a2, .int a3, .int a4, .ref a5, .int a6, .int a7, d8, .ref a9, .int a10, .int a11, .ref x4], [.int (nI 0), .ref x4, .int a3], h) (rfl) ?_
    obtain ⟨g5, e⟩ := gd_some e
    refine eb_g (p := hT h x4 = 101 ∧ inb (nI 0) (hL h x4)) (105, [.ref a0, .int a1, .int a2, .int a3, .int a4, .ref a5, .int a6, .int a7, d8, .ref a9, .int a10, .int a11, .ref x4], [.int (hI h x4 (ix (nI 0))), .int a3], h) rfl g5 ?_
    obtain ⟨x6, hx6, e⟩ := lq_some e
    refine eb_n 2 (107, [.ref a0, .int a1, .int a2, .int x6, .int a4, .ref a5, .int a6, .int a7, d8, .ref a9, .int a10, .int a11, .ref x4], [], h) (by subst hx6; rfl) ?_
    obtain ⟨x7, hx7, e⟩ := lq_some e
    refine eb_n 1 (110, [.ref a0, .int a1, .int a2, .int x6, .int a4, .ref a5, .int a6, .int a7, d8, .ref a9, .int a10, .int x7, .ref x4], [], h) (by subst hx7; rfl) ?_
    refine eb_n 1 (86, [.ref a0, .int a1, .int a2, .int x6, .int a4, .ref a5, .int a6, .int a7, d8, .ref a9, .int a10, .int x7, .ref x4], [], h) (rfl) ?_
    exact hk86 _ _ _ _ _ _ _ _ _ _ _ _ _ _ e
set_option maxRecDepth 100000 in
set_option maxHeartbeats 4000000 in
theorem f_Sim_counted_l86_ev {h' : AH} {r : Int32} (d : Nat) (hd : 0 ≤ d) (k60 : AH → Nat → Int32 → Int32 → Int32 → Int32 → Nat → Int32 → Int32 → Option (AH × Int32)) (hk60 : ∀ (h : AH) (a0 : Nat) (a1 : Int32) (a2 : Int32) (a3 : Int32) (a4 : Int32) (a5 : Nat) (a6 : Int32) (a7 : Int32)  (d8 : Value) (d9 : Value) (d10 : Value) (d11 : Value) (d12 : Value), k60 h a0 a1 a2 a3 a4 a5 a6 a7 = some (h', r) → Eb (Ev tb mL d) 75 (60, [.ref a0, .int a1, .int a2, .int a3, .int a4, .ref a5, .int a6, .int a7, d8, d9, d10, d11, d12], [], h) h' (some (.int r)))  : ∀ (n : Nat) (h : AH) (a0 : Nat) (a1 : Int32) (a2 : Int32) (a3 : Int32) (a4 : Int32) (a5 : Nat) (a6 : Int32) (a7 : Int32) (a9 : Nat) (a10 : Int32) (a11 : Int32)  (d8 : Value) (d12 : Value) (_ : f_Sim_counted_l86 k60 n h a0 a1 a2 a3 a4 a5 a6 a7 a9 a10 a11 = some (h', r)), Eb (Ev tb mL d) 75 (86, [.ref a0, .int a1, .int a2, .int a3, .int a4, .ref a5, .int a6, .int a7, d8, .ref a9, .int a10, .int a11, d12], [], h) h' (some (.int r)) := by
  intro n
  induction n with
  | zero => intro h a0 a1 a2 a3 a4 a5 a6 a7 a9 a10 a11 d8 d12 e; exact nomatch e
  | succ n ih =>
    intro h a0 a1 a2 a3 a4 a5 a6 a7 a9 a10 a11 d8 d12 e
    exact f_Sim_counted_b86_ev d hd k60 _ hk60 (fun h a0 a1 a2 a3 a4 a5 a6 a7 a9 a10 a11 d8 d12 e => ih h a0 a1 a2 a3 a4 a5 a6 a7 a9 a10 a11 d8 d12 e) h a0 a1 a2 a3 a4 a5 a6 a7 a9 a10 a11 d8 d12 e
set_option maxRecDepth 100000 in
set_option maxHeartbeats 4000000 in
theorem f_Sim_counted_b60_ev {h' : AH} {r : Int32} (d : Nat) (hd : 0 ≤ d) (k60 : AH → Nat → Int32 → Int32 → Int32 → Int32 → Nat → Int32 → Int32 → Option (AH × Int32)) (hk60 : ∀ (h : AH) (a0 : Nat) (a1 : Int32) (a2 : Int32) (a3 : Int32) (a4 : Int32) (a5 : Nat) (a6 : Int32) (a7 : Int32)  (d8 : Value) (d9 : Value) (d10 : Value) (d11 : Value) (d12 : Value), k60 h a0 a1 a2 a3 a4 a5 a6 a7 = some (h', r) → Eb (Ev tb mL d) 75 (60, [.ref a0, .int a1, .int a2, .int a3, .int a4, .ref a5, .int a6, .int a7, d8, d9, d10, d11, d12], [], h) h' (some (.int r)))  (h : AH) (a0 : Nat) (a1 : Int32) (a2 : Int32) (a3 : Int32) (a4 : Int32) (a5 : Nat) (a6 : Int32) (a7 : Int32)  (d8 : Value) (d9 : Value) (d10 : Value) (d11 : Value) (d12 : Value) (e : f_Sim_counted_b60 k60 h a0 a1 a2 a3 a4 a5 a6 a7 = some (h', r)) : Eb (Ev tb mL d) 75 (60, [.ref a0, .int a1, .int a2, .int a3, .int a4, .ref a5, .int a6, .int a7, d8, d9, d10, d11, d12], [], h) h' (some (.int r)) := by
  unfold f_Sim_counted_b60 at e
  refine eb_n 2 (64, [.ref a0, .int a1, .int a2, .int a3, .int a4, .ref a5, .int a6, .int a7, d8, d9, d10, d11, d12], [.int a6, .int a7], h) (rfl) ?_
  refine eb_b (c := a6 ≤ a7) (119, [.ref a0, .int a1, .int a2, .int a3, .int a4, .ref a5, .int a6, .int a7, d8, d9, d10, d11, d12], [], h) (67, [.ref a0, .int a1, .int a2, .int a3, .int a4, .ref a5, .int a6, .int a7, d8, d9, d10, d11, d12], [], h) rfl (fun c1 => ?_) (fun c1 => ?_)
  · replace e := ite_t c1 e
    refine eb_n 1 (120, [.ref a0, .int a1, .int a2, .int a3, .int a4, .ref a5, .int a6, .int a7, d8, d9, d10, d11, d12], [.ref a0], h) (rfl) ?_
    obtain ⟨g2, e⟩ := gd_some e
    refine eb_g (p := hT h a0 = 13) (123, [.ref a0, .int a1, .int a2, .int a3, .int a4, .ref a5, .int a6, .int a7, d8, d9, d10, d11, d12], [.ref (hR h a0 16)], h) rfl g2 ?_
    obtain ⟨x3, hx3, e⟩ := lq_some e
    refine eb_n 1 (125, [.ref a0, .int a1, .int a2, .int a3, .int a4, .ref x3, .int a6, .int a7, d8, d9, d10, d11, d12], [], h) (by subst hx3; rfl) ?_
    refine eb_n 1 (127, [.ref a0, .int a1, .int a2, .int a3, .int a4, .ref x3, .int a6, .int a7, d8, d9, d10, d11, d12], [.ref x3], h) (rfl) ?_
    obtain ⟨g4, e⟩ := gd_some e
    refine eb_g (p := hT h x3 = 109) (128, [.ref a0, .int a1, .int a2, .int a3, .int a4, .ref x3, .int a6, .int a7, d8, d9, d10, d11, d12], [.int (nI (hL h x3))], h) rfl g4 ?_
    obtain ⟨x5, hx5, e⟩ := lq_some e
    refine eb_n 1 (130, [.ref a0, .int a1, .int a2, .int a3, .int a4, .ref x3, .int x5, .int a7, d8, d9, d10, d11, d12], [], h) (by subst hx5; rfl) ?_
    refine eb_n 2 (133, [.ref a0, .int a1, .int a2, .int a3, .int a4, .ref x3, .int x5, .int (nI 0), d8, d9, d10, d11, d12], [], h) (rfl) ?_
    exact f_Sim_counted_l133_ev d hd   FU _ _ _ _ _ _ _ _ _ _ _ _ _ _ e
  · replace e := ite_f c1 e
    refine eb_n 2 (71, [.ref a0, .int a1, .int a2, .int a3, .int a4, .ref a5, .int a6, .int a7, d8, d9, d10, d11, d12], [.int a7, .ref a5], h) (rfl) ?_
    obtain ⟨g6, e⟩ := gd_some e
    refine eb_g (p := hT h a5 = 110 ∧ inb a7 (hL h a5)) (72, [.ref a0, .int a1, .int a2, .int a3, .int a4, .ref a5, .int a6, .int a7, d8, d9, d10, d11, d12], [.ref (hR h a5 (ix a7))], h) rfl g6 ?_
    obtain ⟨x7, hx7, e⟩ := lq_some e
    refine eb_n 1 (74, [.ref a0, .int a1, .int a2, .int a3, .int a4, .ref a5, .int a6, .int a7, .ref x7, d9, d10, d11, d12], [], h) (by subst hx7; rfl) ?_
    refine eb_n 3 (80, [.ref a0, .int a1, .int a2, .int a3, .int a4, .ref a5, .int a6, .int a7, .ref x7, .ref x7, d10, d11, d12], [.ref x7], h) (rfl) ?_
    obtain ⟨g8, e⟩ := gd_some e
    refine eb_g (p := hT h x7 = 109) (81, [.ref a0, .int a1, .int a2, .int a3, .int a4, .ref a5, .int a6, .int a7, .ref x7, .ref x7, d10, d11, d12], [.int (nI (hL h x7))], h) rfl g8 ?_
    obtain ⟨x9, hx9, e⟩ := lq_some e
    refine eb_n 1 (83, [.ref a0, .int a1, .int a2, .int a3, .int a4, .ref a5, .int a6, .int a7, .ref x7, .ref x7, .int x9, d11, d12], [], h) (by subst hx9; rfl) ?_
    refine eb_n 2 (86, [.ref a0, .int a1, .int a2, .int a3, .int a4, .ref a5, .int a6, .int a7, .ref x7, .ref x7, .int x9, .int (nI 0), d12], [], h) (rfl) ?_
    exact f_Sim_counted_l86_ev d hd k60 hk60 FU _ _ _ _ _ _ _ _ _ _ _ _ _ _ e
set_option maxRecDepth 100000 in
set_option maxHeartbeats 4000000 in
theorem f_Sim_counted_l60_ev {h' : AH} {r : Int32} (d : Nat) (hd : 0 ≤ d)  : ∀ (n : Nat) (h : AH) (a0 : Nat) (a1 : Int32) (a2 : Int32) (a3 : Int32) (a4 : Int32) (a5 : Nat) (a6 : Int32) (a7 : Int32)  (d8 : Value) (d9 : Value) (d10 : Value) (d11 : Value) (d12 : Value) (_ : f_Sim_counted_l60  n h a0 a1 a2 a3 a4 a5 a6 a7 = some (h', r)), Eb (Ev tb mL d) 75 (60, [.ref a0, .int a1, .int a2, .int a3, .int a4, .ref a5, .int a6, .int a7, d8, d9, d10, d11, d12], [], h) h' (some (.int r)) := by
  intro n
  induction n with
  | zero => intro h a0 a1 a2 a3 a4 a5 a6 a7 d8 d9 d10 d11 d12 e; exact nomatch e
  | succ n ih =>
    intro h a0 a1 a2 a3 a4 a5 a6 a7 d8 d9 d10 d11 d12 e
    exact f_Sim_counted_b60_ev d hd _ (fun h a0 a1 a2 a3 a4 a5 a6 a7 d8 d9 d10 d11 d12 e => ih h a0 a1 a2 a3 a4 a5 a6 a7 d8 d9 d10 d11 d12 e) h a0 a1 a2 a3 a4 a5 a6 a7 d8 d9 d10 d11 d12 e
set_option maxRecDepth 100000 in
set_option maxHeartbeats 4000000 in
theorem f_Sim_counted_b21_ev {h' : AH} {r : Int32} (d : Nat) (hd : 0 ≤ d) (k21 : AH → Nat → Int32 → Int32 → Int32 → Int32 → Nat → Int32 → Int32 → Option (AH × Int32)) (hk21 : ∀ (h : AH) (a0 : Nat) (a1 : Int32) (a2 : Int32) (a3 : Int32) (a4 : Int32) (a5 : Nat) (a6 : Int32) (a7 : Int32)  (d8 : Value) (d9 : Value) (d10 : Value) (d11 : Value) (d12 : Value), k21 h a0 a1 a2 a3 a4 a5 a6 a7 = some (h', r) → Eb (Ev tb mL d) 75 (21, [.ref a0, .int a1, .int a2, .int a3, .int a4, .ref a5, .int a6, .int a7, d8, d9, d10, d11, d12], [], h) h' (some (.int r)))  (h : AH) (a0 : Nat) (a1 : Int32) (a2 : Int32) (a3 : Int32) (a4 : Int32) (a5 : Nat) (a6 : Int32) (a7 : Int32)  (d8 : Value) (d9 : Value) (d10 : Value) (d11 : Value) (d12 : Value) (e : f_Sim_counted_b21 k21 h a0 a1 a2 a3 a4 a5 a6 a7 = some (h', r)) : Eb (Ev tb mL d) 75 (21, [.ref a0, .int a1, .int a2, .int a3, .int a4, .ref a5, .int a6, .int a7, d8, d9, d10, d11, d12], [], h) h' (some (.int r)) := by
  unfold f_Sim_counted_b21 at e
  refine eb_n 2 (25, [.ref a0, .int a1, .int a2, .int a3, .int a4, .ref a5, .int a6, .int a7, d8, d9, d10, d11, d12], [.int a6, .int a7], h) (rfl) ?_
  refine eb_b (c := a6 ≤ a7) (46, [.ref a0, .int a1, .int a2, .int a3, .int a4, .ref a5, .int a6, .int a7, d8, d9, d10, d11, d12], [], h) (28, [.ref a0, .int a1, .int a2, .int a3, .int a4, .ref a5, .int a6, .int a7, d8, d9, d10, d11, d12], [], h) rfl (fun c1 => ?_) (fun c1 => ?_)
  · replace e := ite_t c1 e
    refine eb_n 1 (47, [.ref a0, .int a1, .int a2, .int a3, .int a4, .ref a5, .int a6, .int a7, d8, d9, d10, d11, d12], [.ref a0], h) (rfl) ?_
    obtain ⟨g2, e⟩ := gd_some e
    refine eb_g (p := hT h a0 = 13) (50, [.ref a0, .int a1, .int a2, .int a3, .int a4, .ref a5, .int a6, .int a7, d8, d9, d10, d11, d12], [.ref (hR h a0 14)], h) rfl g2 ?_
    obtain ⟨x3, hx3, e⟩ := lq_some e
    refine eb_n 1 (52, [.ref a0, .int a1, .int a2, .int a3, .int a4, .ref x3, .int a6, .int a7, d8, d9, d10, d11, d12], [], h) (by subst hx3; rfl) ?_
    refine eb_n 1 (54, [.ref a0, .int a1, .int a2, .int a3, .int a4, .ref x3, .int a6, .int a7, d8, d9, d10, d11, d12], [.ref x3], h) (rfl) ?_
    obtain ⟨g4, e⟩ := gd_some e
    refine eb_g (p := hT h x3 = 110) (55, [.ref a0, .int a1, .int a2, .int a3, .int a4, .ref x3, .int a6, .int a7, d8, d9, d10, d11, d12], [.int (nI (hL h x3))], h) rfl g4 ?_
    obtain ⟨x5, hx5, e⟩ := lq_some e
    refine eb_n 1 (57, [.ref a0, .int a1, .int a2, .int a3, .int a4, .ref x3, .int x5, .int a7, d8, d9, d10, d11, d12], [], h) (by subst hx5; rfl) ?_
    refine eb_n 2 (60, [.ref a0, .int a1, .int a2, .int a3, .int a4, .ref x3, .int x5, .int (nI 0), d8, d9, d10, d11, d12], [], h) (rfl) ?_
    exact f_Sim_counted_l60_ev d hd   FU _ _ _ _ _ _ _ _ _ _ _ _ _ _ e
  · replace e := ite_f c1 e
    refine eb_n 2 (32, [.ref a0, .int a1, .int a2, .int a3, .int a4, .ref a5, .int a6, .int a7, d8, d9, d10, d11, d12], [.int a7, .ref a5], h) (rfl) ?_
    obtain ⟨g6, e⟩ := gd_some e
    refine eb_g (p := hT h a5 = 101 ∧ inb a7 (hL h a5)) (33, [.ref a0, .int a1, .int a2, .int a3, .int a4, .ref a5, .int a6, .int a7, d8, d9, d10, d11, d12], [.int (hI h a5 (ix a7))], h) rfl g6 ?_
    obtain ⟨x7, hx7, e⟩ := lq_some e
    refine eb_n 1 (35, [.ref a0, .int a1, .int a2, .int a3, .int a4, .ref a5, .int a6, .int a7, .int x7, d9, d10, d11, d12], [], h) (by subst hx7; rfl) ?_
    obtain ⟨x8, hx8, e⟩ := lq_some e
    refine eb_n 4 (40, [.ref a0, .int a1, .int x8, .int a3, .int a4, .ref a5, .int a6, .int a7, .int x7, d9, d10, d11, d12], [], h) (by subst hx8; rfl) ?_
    obtain ⟨x9, hx9, e⟩ := lq_some e
    refine eb_n 1 (43, [.ref a0, .int a1, .int x8, .int a3, .int a4, .ref a5, .int a6, .int x9, .int x7, d9, d10, d11, d12], [], h) (by subst hx9; rfl) ?_
    refine eb_n 1 (21, [.ref a0, .int a1, .int x8, .int a3, .int a4, .ref a5, .int a6, .int x9, .int x7, d9, d10, d11, d12], [], h) (rfl) ?_
    exact hk21 _ _ _ _ _ _ _ _ _ _ _ _ _ _ e
set_option maxRecDepth 100000 in
set_option maxHeartbeats 4000000 in
theorem f_Sim_counted_l21_ev {h' : AH} {r : Int32} (d : Nat) (hd : 0 ≤ d)  : ∀ (n : Nat) (h : AH) (a0 : Nat) (a1 : Int32) (a2 : Int32) (a3 : Int32) (a4 : Int32) (a5 : Nat) (a6 : Int32) (a7 : Int32)  (d8 : Value) (d9 : Value) (d10 : Value) (d11 : Value) (d12 : Value) (_ : f_Sim_counted_l21  n h a0 a1 a2 a3 a4 a5 a6 a7 = some (h', r)), Eb (Ev tb mL d) 75 (21, [.ref a0, .int a1, .int a2, .int a3, .int a4, .ref a5, .int a6, .int a7, d8, d9, d10, d11, d12], [], h) h' (some (.int r)) := by
  intro n
  induction n with
  | zero => intro h a0 a1 a2 a3 a4 a5 a6 a7 d8 d9 d10 d11 d12 e; exact nomatch e
  | succ n ih =>
    intro h a0 a1 a2 a3 a4 a5 a6 a7 d8 d9 d10 d11 d12 e
    exact f_Sim_counted_b21_ev d hd _ (fun h a0 a1 a2 a3 a4 a5 a6 a7 d8 d9 d10 d11 d12 e => ih h a0 a1 a2 a3 a4 a5 a6 a7 d8 d9 d10 d11 d12 e) h a0 a1 a2 a3 a4 a5 a6 a7 d8 d9 d10 d11 d12 e
set_option maxRecDepth 100000 in
set_option maxHeartbeats 4000000 in
theorem f_Sim_counted_ev (d0 : Nat) (hd0 : 1 ≤ d0) {h' : AH} {r : Int32} {h : AH} {a0 : Nat} {a1 : Int32} (e : f_Sim_counted h a0 a1 = some (h', r)) : Ev tb mL d0 75 [.ref a0, .int a1] h h' (some (.int r)) := by
  obtain ⟨d, rfl⟩ : ∃ d, d0 = d + 1 := ⟨d0 - 1, by omega⟩
  have hd : 0 ≤ d := by omega
  refine ⟨Nat.le_of_ble_eq_true rfl, ?_⟩
  show Eb (Ev tb mL d) 75 (0, [.ref a0, .int a1, .retAddr 0, .retAddr 0, .retAddr 0, .retAddr 0, .retAddr 0, .retAddr 0, .retAddr 0, .retAddr 0, .retAddr 0, .retAddr 0, .retAddr 0], [], h) h' (some (.int r))
  unfold f_Sim_counted at e
  refine eb_n 7 (8, [.ref a0, .int a1, .int (nI 0), .int (nI 0), .int (nI 0), .retAddr 0, .retAddr 0, .retAddr 0, .retAddr 0, .retAddr 0, .retAddr 0, .retAddr 0, .retAddr 0], [.ref a0], h) (rfl) ?_
  obtain ⟨g1, e⟩ := gd_some e
  refine eb_g (p := hT h a0 = 13) (11, [.ref a0, .int a1, .int (nI 0), .int (nI 0), .int (nI 0), .retAddr 0, .retAddr 0, .retAddr 0, .retAddr 0, .retAddr 0, .retAddr 0, .retAddr 0, .retAddr 0], [.ref (hR h a0 9)], h) rfl g1 ?_
  obtain ⟨x2, hx2, e⟩ := lq_some e
  refine eb_n 1 (13, [.ref a0, .int a1, .int (nI 0), .int (nI 0), .int (nI 0), .ref x2, .retAddr 0, .retAddr 0, .retAddr 0, .retAddr 0, .retAddr 0, .retAddr 0, .retAddr 0], [], h) (by subst hx2; rfl) ?_
  refine eb_n 1 (15, [.ref a0, .int a1, .int (nI 0), .int (nI 0), .int (nI 0), .ref x2, .retAddr 0, .retAddr 0, .retAddr 0, .retAddr 0, .retAddr 0, .retAddr 0, .retAddr 0], [.ref x2], h) (rfl) ?_
  obtain ⟨g3, e⟩ := gd_some e
  refine eb_g (p := hT h x2 = 101) (16, [.ref a0, .int a1, .int (nI 0), .int (nI 0), .int (nI 0), .ref x2, .retAddr 0, .retAddr 0, .retAddr 0, .retAddr 0, .retAddr 0, .retAddr 0, .retAddr 0], [.int (nI (hL h x2))], h) rfl g3 ?_
  obtain ⟨x4, hx4, e⟩ := lq_some e
  refine eb_n 1 (18, [.ref a0, .int a1, .int (nI 0), .int (nI 0), .int (nI 0), .ref x2, .int x4, .retAddr 0, .retAddr 0, .retAddr 0, .retAddr 0, .retAddr 0, .retAddr 0], [], h) (by subst hx4; rfl) ?_
  refine eb_n 2 (21, [.ref a0, .int a1, .int (nI 0), .int (nI 0), .int (nI 0), .ref x2, .int x4, .int (nI 0), .retAddr 0, .retAddr 0, .retAddr 0, .retAddr 0, .retAddr 0], [], h) (rfl) ?_
  exact f_Sim_counted_l21_ev d hd   FU _ _ _ _ _ _ _ _ _ _ _ _ _ _ e
set_option maxRecDepth 100000 in
set_option maxHeartbeats 4000000 in
theorem f_QuillBoats_shade_ev (d0 : Nat) (hd0 : 2 ≤ d0) {h' : AH} {r : Int32} {h : AH} {a0 : Nat} {a1 : Int32} (e : f_QuillBoats_shade h a0 a1 = some (h', r)) : Ev tb mL d0 76 [.ref a0, .int a1] h h' (some (.int r)) := by
  obtain ⟨d, rfl⟩ : ∃ d, d0 = d + 1 := ⟨d0 - 1, by omega⟩
  have hd : 1 ≤ d := by omega
  refine ⟨Nat.le_of_ble_eq_true rfl, ?_⟩
  show Eb (Ev tb mL d) 76 (0, [.ref a0, .int a1], [], h) h' (some (.int r))
  unfold f_QuillBoats_shade at e
  refine eb_n 3 (4, [.ref a0, .int a1], [.int (nI 11), .int (nI 0), .int a1], h) (rfl) ?_
  obtain ⟨h1, r2, eh1, e⟩ := bn_some e
  refine eb_c rfl (f_QuillBoats_isWithin_ev d (Nat.le_trans (by decide) hd) eh1) ?_
  show Eb _ 76 (7, [.ref a0, .int a1], [.int r2], h1) _ _
  refine eb_b (c := ¬ r2 = 0) (20, [.ref a0, .int a1], [], h1) (10, [.ref a0, .int a1], [], h1) rfl (fun c3 => ?_) (fun c3 => ?_)
  · replace e := ite_t c3 e
    refine eb_n 1 (21, [.ref a0, .int a1], [.ref a0], h1) (rfl) ?_
    obtain ⟨g4, e⟩ := gd_some e
    refine eb_g (p := hT h1 a0 = 1) (24, [.ref a0, .int a1], [.ref (hR h1 a0 4)], h1) rfl g4 ?_
    obtain ⟨g5, e⟩ := gd_some e
    refine eb_g (p := hT h1 (hR h1 a0 4) = 3) (27, [.ref a0, .int a1], [.ref (hR h1 (hR h1 a0 4) 5)], h1) rfl g5 ?_
    refine eb_n 1 (28, [.ref a0, .int a1], [.int a1, .ref (hR h1 (hR h1 a0 4) 5)], h1) (rfl) ?_
    obtain ⟨g6, e⟩ := gd_some e
    refine eb_g (p := hT h1 (hR h1 (hR h1 a0 4) 5) = 101 ∧ inb a1 (hL h1 (hR h1 (hR h1 a0 4) 5))) (29, [.ref a0, .int a1], [.int (hI h1 (hR h1 (hR h1 a0 4) 5) (ix a1))], h1) rfl g6 ?_
    rw [(sp_inj e).1, (sp_inj e).2]
    exact eb_rg (p := nrm 0 (hI h1 (hR h1 (hR h1 a0 4) 5) (ix a1))) rfl (nrm_0 _)
  · replace e := ite_f c3 e
    exact nomatch e
set_option maxRecDepth 100000 in
set_option maxHeartbeats 4000000 in
theorem f_QuillBoats_mean_b67_ev {h' : AH} {r : UInt64} (d : Nat) (hd : 0 ≤ d)  (h : AH)  (s0 : UInt64) (d0 : Value) (d1 : Value) (d2 : Value) (e : f_QuillBoats_mean_b67  h s0 = some (h', r)) : Eb (Ev tb mL d) 77 (67, [d0, d1, d2], [.double s0], h) h' (some (.double r)) := by
  unfold f_QuillBoats_mean_b67 at e
  rw [(sp_inj e).1, (sp_inj e).2]
  exact eb_r rfl
set_option maxRecDepth 100000 in
set_option maxHeartbeats 4000000 in
theorem f_QuillBoats_mean_b42_ev {h' : AH} {r : UInt64} (d : Nat) (hd : 0 ≤ d)  (h : AH) (a0 : Nat) (a1 : Int32)  (d2 : Value) (e : f_QuillBoats_mean_b42  h a0 a1 = some (h', r)) : Eb (Ev tb mL d) 77 (42, [.ref a0, .int a1, d2], [], h) h' (some (.double r)) := by
  unfold f_QuillBoats_mean_b42 at e
  refine eb_n 1 (43, [.ref a0, .int a1, d2], [.ref a0], h) (rfl) ?_
  obtain ⟨g1, e⟩ := gd_some e
  refine eb_g (p := hT h a0 = 1) (46, [.ref a0, .int a1, d2], [.ref (hR h a0 4)], h) rfl g1 ?_
  obtain ⟨g2, e⟩ := gd_some e
  refine eb_g (p := hT h (hR h a0 4) = 3) (49, [.ref a0, .int a1, d2], [.int (hI h (hR h a0 4) 8)], h) rfl g2 ?_
  refine eb_b (c := (hI h (hR h a0 4) 8) ≤ 0) (66, [.ref a0, .int a1, d2], [], h) (52, [.ref a0, .int a1, d2], [], h) rfl (fun c3 => ?_) (fun c3 => ?_)
  · replace e := ite_t c3 e
    refine eb_n 1 (67, [.ref a0, .int a1, d2], [.double FP.dconst0], h) (rfl) ?_
    exact f_QuillBoats_mean_b67_ev d hd   _ _ _ _ _ e
  · replace e := ite_f c3 e
    refine eb_n 3 (55, [.ref a0, .int a1, d2], [.ref a0, .double (FP.i2d a1)], h) (rfl) ?_
    refine eb_g (p := hT h a0 = 1) (58, [.ref a0, .int a1, d2], [.ref (hR h a0 4), .double (FP.i2d a1)], h) rfl g1 ?_
    refine eb_g (p := hT h (hR h a0 4) = 3) (61, [.ref a0, .int a1, d2], [.int (hI h (hR h a0 4) 8), .double (FP.i2d a1)], h) rfl g2 ?_
    refine eb_n 1 (62, [.ref a0, .int a1, d2], [.double (FP.i2d (hI h (hR h a0 4) 8)), .double (FP.i2d a1)], h) (rfl) ?_
    obtain ⟨g4, e⟩ := gd_some e
    refine eb_g (p := FP.ddiv (FP.i2d a1) (FP.i2d (hI h (hR h a0 4) 8)) &&& 0x7fffffffffffffff ≤ 0x7ff0000000000000) (63, [.ref a0, .int a1, d2], [.double (FP.ddiv (FP.i2d a1) (FP.i2d (hI h (hR h a0 4) 8)))], h) rfl g4 ?_
    refine eb_n 1 (67, [.ref a0, .int a1, d2], [.double (FP.ddiv (FP.i2d a1) (FP.i2d (hI h (hR h a0 4) 8)))], h) (rfl) ?_
    exact f_QuillBoats_mean_b67_ev d hd   _ _ _ _ _ e
set_option maxRecDepth 100000 in
set_option maxHeartbeats 4000000 in
theorem f_QuillBoats_mean_b4_ev {h' : AH} {r : UInt64} (d : Nat) (hd : 0 ≤ d) (k4 : AH → Nat → Int32 → Int32 → Option (AH × UInt64)) (hk4 : ∀ (h : AH) (a0 : Nat) (a1 : Int32) (a2 : Int32)  , k4 h a0 a1 a2 = some (h', r) → Eb (Ev tb mL d) 77 (4, [.ref a0, .int a1, .int a2], [], h) h' (some (.double r)))  (h : AH) (a0 : Nat) (a1 : Int32) (a2 : Int32)   (e : f_QuillBoats_mean_b4 k4 h a0 a1 a2 = some (h', r)) : Eb (Ev tb mL d) 77 (4, [.ref a0, .int a1, .int a2], [], h) h' (some (.double r)) := by
  unfold f_QuillBoats_mean_b4 at e
  refine eb_n 2 (6, [.ref a0, .int a1, .int a2], [.ref a0, .int a2], h) (rfl) ?_
  obtain ⟨g1, e⟩ := gd_some e
  refine eb_g (p := hT h a0 = 1) (9, [.ref a0, .int a1, .int a2], [.ref (hR h a0 4), .int a2], h) rfl g1 ?_
  obtain ⟨g2, e⟩ := gd_some e
  refine eb_g (p := hT h (hR h a0 4) = 3) (12, [.ref a0, .int a1, .int a2], [.int (hI h (hR h a0 4) 8), .int a2], h) rfl g2 ?_
  refine eb_b (c := (hI h (hR h a0 4) 8) ≤ a2) (42, [.ref a0, .int a1, .int a2], [], h) (15, [.ref a0, .int a1, .int a2], [], h) rfl (fun c3 => ?_) (fun c3 => ?_)
  · replace e := ite_t c3 e
    exact f_QuillBoats_mean_b42_ev d hd   _ _ _ _ e
  · replace e := ite_f c3 e
    refine eb_n 2 (18, [.ref a0, .int a1, .int a2], [.int (nI 8), .int a2], h) (rfl) ?_
    refine eb_b (c := (nI 8) ≤ a2) (42, [.ref a0, .int a1, .int a2], [], h) (21, [.ref a0, .int a1, .int a2], [], h) rfl (fun c4 => ?_) (fun c4 => ?_)
    · replace e := ite_t c4 e
      exact f_QuillBoats_mean_b42_ev d hd   _ _ _ _ e
    · replace e := ite_f c4 e
      refine eb_n 2 (23, [.ref a0, .int a1, .int a2], [.ref a0, .int a1], h) (rfl) ?_
      refine eb_g (p := hT h a0 = 1) (26, [.ref a0, .int a1, .int a2], [.ref (hR h a0 4), .int a1], h) rfl g1 ?_
      refine eb_g (p := hT h (hR h a0 4) = 3) (29, [.ref a0, .int a1, .int a2], [.ref (hR h (hR h a0 4) 2), .int a1], h) rfl g2 ?_
      refine eb_n 1 (30, [.ref a0, .int a1, .int a2], [.int a2, .ref (hR h (hR h a0 4) 2), .int a1], h) (rfl) ?_
      obtain ⟨g5, e⟩ := gd_some e
      refine eb_g (p := hT h (hR h (hR h a0 4) 2) = 106 ∧ inb a2 (hL h (hR h (hR h a0 4) 2))) (31, [.ref a0, .int a1, .int a2], [.ref (hR h (hR h (hR h a0 4) 2) (ix a2)), .int a1], h) rfl g5 ?_
      obtain ⟨g6, e⟩ := gd_some e
      refine eb_g (p := hT h (hR h (hR h (hR h a0 4) 2) (ix a2)) = 6) (34, [.ref a0, .int a1, .int a2], [.int (hI h (hR h (hR h (hR h a0 4) 2) (ix a2)) 3), .int a1], h) rfl g6 ?_
      obtain ⟨x7, hx7, e⟩ := lq_some e
      refine eb_n 2 (36, [.ref a0, .int x7, .int a2], [], h) (by subst hx7; rfl) ?_
      obtain ⟨x8, hx8, e⟩ := lq_some e
      refine eb_n 1 (39, [.ref a0, .int x7, .int x8], [], h) (by subst hx8; rfl) ?_
      refine eb_n 1 (4, [.ref a0, .int x7, .int x8], [], h) (rfl) ?_
      exact hk4 _ _ _ _  e
set_option maxRecDepth 100000 in
set_option maxHeartbeats 4000000 in
theorem f_QuillBoats_mean_l4_ev {h' : AH} {r : UInt64} (d : Nat) (hd : 0 ≤ d)  : ∀ (n : Nat) (h : AH) (a0 : Nat) (a1 : Int32) (a2 : Int32)   (_ : f_QuillBoats_mean_l4  n h a0 a1 a2 = some (h', r)), Eb (Ev tb mL d) 77 (4, [.ref a0, .int a1, .int a2], [], h) h' (some (.double r)) := by
  intro n
  induction n with
  | zero => intro h a0 a1 a2  e; exact nomatch e
  | succ n ih =>
    intro h a0 a1 a2  e
    exact f_QuillBoats_mean_b4_ev d hd _ (fun h a0 a1 a2  e => ih h a0 a1 a2  e) h a0 a1 a2  e
set_option maxRecDepth 100000 in
set_option maxHeartbeats 4000000 in
theorem f_QuillBoats_mean_ev (d0 : Nat) (hd0 : 1 ≤ d0) {h' : AH} {r : UInt64} {h : AH} {a0 : Nat} (e : f_QuillBoats_mean h a0 = some (h', r)) : Ev tb mL d0 77 [.ref a0] h h' (some (.double r)) := by
  obtain ⟨d, rfl⟩ : ∃ d, d0 = d + 1 := ⟨d0 - 1, by omega⟩
  have hd : 0 ≤ d := by omega
  refine ⟨Nat.le_of_ble_eq_true rfl, ?_⟩
  show Eb (Ev tb mL d) 77 (0, [.ref a0, .retAddr 0, .retAddr 0], [], h) h' (some (.double r))
  unfold f_QuillBoats_mean at e
  refine eb_n 4 (4, [.ref a0, .int (nI 0), .int (nI 0)], [], h) (rfl) ?_
  exact f_QuillBoats_mean_l4_ev d hd   FU _ _ _ _  e
set_option maxRecDepth 100000 in
set_option maxHeartbeats 4000000 in
theorem f_Sim_isSame_b717_ev {h' : AH} {r : Int32} (d : Nat) (hd : 5 ≤ d)  (h : AH)  (s0 : UInt64) (s1 : UInt64) (d0 : Value) (d1 : Value) (d2 : Value) (d3 : Value) (d4 : Value) (d5 : Value) (d6 : Value) (d7 : Value) (d8 : Value) (e : f_Sim_isSame_b717  h s0 s1 = some (h', r)) : Eb (Ev tb mL d) 21 (717, [d0, d1, d2, d3, d4, d5, d6, d7, d8], [.double s1, .double s0], h) h' (some (.int r)) := by
  unfold f_Sim_isSame_b717 at e
  refine eb_n 1 (718, [d0, d1, d2, d3, d4, d5, d6, d7, d8], [.int (Op.cmpValue (FP.dcmp s0 s1) .l)], h) (rfl) ?_
  refine eb_b (c := ¬ (Op.cmpValue (FP.dcmp s0 s1) .l) = 0) (725, [d0, d1, d2, d3, d4, d5, d6, d7, d8], [], h) (721, [d0, d1, d2, d3, d4, d5, d6, d7, d8], [], h) rfl (fun c1 => ?_) (fun c1 => ?_)
  · replace e := ite_t c1 e
    refine eb_n 1 (726, [d0, d1, d2, d3, d4, d5, d6, d7, d8], [.int (nI 0)], h) (rfl) ?_
    rw [(sp_inj e).1, (sp_inj e).2]
    exact eb_rg (p := nrm 3 (nI 0)) rfl nrm_30
  · replace e := ite_f c1 e
    refine eb_n 2 (726, [d0, d1, d2, d3, d4, d5, d6, d7, d8], [.int (nI 1)], h) (rfl) ?_
    rw [(sp_inj e).1, (sp_inj e).2]
    exact eb_rg (p := nrm 3 (nI 1)) rfl nrm_31
set_option maxRecDepth 100000 in
set_option maxHeartbeats 4000000 in
theorem f_Sim_isSame_b657_ev {h' : AH} {r : Int32} (d : Nat) (hd : 5 ≤ d) (k600 : AH → Nat → Nat → Int32 → Int32 → Option (AH × Int32)) (k657 : AH → Nat → Nat → Int32 → Int32 → Nat → Int32 → Option (AH × Int32)) (hk600 : ∀ (h : AH) (a0 : Nat) (a1 : Nat) (a2 : Int32) (a3 : Int32)  (d4 : Value) (d5 : Value) (d6 : Value) (d7 : Value) (d8 : Value), k600 h a0 a1 a2 a3 = some (h', r) → Eb (Ev tb mL d) 21 (600, [.ref a0, .ref a1, .int a2, .int a3, d4, d5, d6, d7, d8], [], h) h' (some (.int r))) (hk657 : ∀ (h : AH) (a0 : Nat) (a1 : Nat) (a2 : Int32) (a3 : Int32) (a4 : Nat) (a5 : Int32)  (d6 : Value) (d7 : Value) (d8 : Value), k657 h a0 a1 a2 a3 a4 a5 = some (h', r) → Eb (Ev tb mL d) 21 (657, [.ref a0, .ref a1, .int a2, .int a3, .ref a4, .int a5, d6, d7, d8], [], h) h' (some (.int r)))  (h : AH) (a0 : Nat) (a1 : Nat) (a2 : Int32) (a3 : Int32) (a4 : Nat) (a5 : Int32)  (d6 : Value) (d7 : Value) (d8 : Value) (e : f_Sim_isSame_b657 k600 k657 h a0 a1 a2 a3 a4 a5 = some (h', r)) : Eb (Ev tb mL d) 21 (657, [.ref a0, .ref a1, .int a2, .int a3, .ref a4, .int a5, d6, d7, d8], [], h) h' (some (.int r)) := by
  unfold f_Sim_isSame_b657 at e
  refine eb_n 2 (660, [.ref a0, .ref a1, .int a2, .int a3, .ref a4, .int a5, d6, d7, d8], [.int (nI 5), .int a5], h) (rfl) ?_
  refine eb_b (c := (nI 5) ≤ a5) (686, [.ref a0, .ref a1, .int a2, .int a3, .ref a4, .int a5, d6, d7, d8], [], h) (663, [.ref a0, .ref a1, .int a2, .int a3, .ref a4, .int a5, d6, d7, d8], [], h) rfl (fun c1 => ?_) (fun c1 => ?_)
  · replace e := ite_t c1 e
    obtain ⟨x2, hx2, e⟩ := lq_some e
    refine eb_n 1 (689, [.ref a0, .ref a1, .int a2, .int x2, .ref a4, .int a5, d6, d7, d8], [], h) (by subst hx2; rfl) ?_
    refine eb_n 1 (600, [.ref a0, .ref a1, .int a2, .int x2, .ref a4, .int a5, d6, d7, d8], [], h) (rfl) ?_
    exact hk600 _ _ _ _ _ _ _ _ _ _ e
  · replace e := ite_f c1 e
    refine eb_n 3 (667, [.ref a0, .ref a1, .int a2, .int a3, .ref a4, .int a5, d6, d7, d8], [.int a5, .int a3, .ref a1], h) (rfl) ?_
    obtain ⟨g3, e⟩ := gd_some e
    obtain ⟨h4, r5, eh4, e⟩ := bn_some e
    refine eb_cg (p := hT h a1 = 1) rfl g3 (f_QuillBoats_grade_ev d (Nat.le_trans (by decide) hd) eh4) ?_
    show Eb _ 21 (670, [.ref a0, .ref a1, .int a2, .int a3, .ref a4, .int a5, d6, d7, d8], [.int r5], h4) _ _
    refine eb_n 2 (674, [.ref a0, .ref a1, .int a2, .int a3, .ref a4, .int a5, d6, d7, d8], [.int a5, .ref a4, .int r5], h4) (rfl) ?_
    obtain ⟨g6, e⟩ := gd_some e
    refine eb_g (p := hT h4 a4 = 101 ∧ inb a5 (hL h4 a4)) (675, [.ref a0, .ref a1, .int a2, .int a3, .ref a4, .int a5, d6, d7, d8], [.int (hI h4 a4 (ix a5)), .int r5], h4) rfl g6 ?_
    refine eb_b (c := r5 = (hI h4 a4 (ix a5))) (680, [.ref a0, .ref a1, .int a2, .int a3, .ref a4, .int a5, d6, d7, d8], [], h4) (678, [.ref a0, .ref a1, .int a2, .int a3, .ref a4, .int a5, d6, d7, d8], [], h4) rfl (fun c7 => ?_) (fun c7 => ?_)
    · replace e := ite_t c7 e
      obtain ⟨x8, hx8, e⟩ := lq_some e
      refine eb_n 1 (683, [.ref a0, .ref a1, .int a2, .int a3, .ref a4, .int x8, d6, d7, d8], [], h4) (by subst hx8; rfl) ?_
      refine eb_n 1 (657, [.ref a0, .ref a1, .int a2, .int a3, .ref a4, .int x8, d6, d7, d8], [], h4) (rfl) ?_
      exact hk657 _ _ _ _ _ _ _ _ _ _ e
    · replace e := ite_f c7 e
      refine eb_n 1 (679, [.ref a0, .ref a1, .int a2, .int a3, .ref a4, .int a5, d6, d7, d8], [.int (nI 0)], h4) (rfl) ?_
      rw [(sp_inj e).1, (sp_inj e).2]
      exact eb_rg (p := nrm 3 (nI 0)) rfl nrm_30
set_option maxRecDepth 100000 in
set_option maxHeartbeats 4000000 in
theorem f_Sim_isSame_l657_ev {h' : AH} {r : Int32} (d : Nat) (hd : 5 ≤ d) (k600 : AH → Nat → Nat → Int32 → Int32 → Option (AH × Int32)) (hk600 : ∀ (h : AH) (a0 : Nat) (a1 : Nat) (a2 : Int32) (a3 : Int32)  (d4 : Value) (d5 : Value) (d6 : Value) (d7 : Value) (d8 : Value), k600 h a0 a1 a2 a3 = some (h', r) → Eb (Ev tb mL d) 21 (600, [.ref a0, .ref a1, .int a2, .int a3, d4, d5, d6, d7, d8], [], h) h' (some (.int r)))  : ∀ (n : Nat) (h : AH) (a0 : Nat) (a1 : Nat) (a2 : Int32) (a3 : Int32) (a4 : Nat) (a5 : Int32)  (d6 : Value) (d7 : Value) (d8 : Value) (_ : f_Sim_isSame_l657 k600 n h a0 a1 a2 a3 a4 a5 = some (h', r)), Eb (Ev tb mL d) 21 (657, [.ref a0, .ref a1, .int a2, .int a3, .ref a4, .int a5, d6, d7, d8], [], h) h' (some (.int r)) := by
  intro n
  induction n with
  | zero => intro h a0 a1 a2 a3 a4 a5 d6 d7 d8 e; exact nomatch e
  | succ n ih =>
    intro h a0 a1 a2 a3 a4 a5 d6 d7 d8 e
    exact f_Sim_isSame_b657_ev d hd k600 _ hk600 (fun h a0 a1 a2 a3 a4 a5 d6 d7 d8 e => ih h a0 a1 a2 a3 a4 a5 d6 d7 d8 e) h a0 a1 a2 a3 a4 a5 d6 d7 d8 e
set_option maxRecDepth 100000 in
set_option maxHeartbeats 4000000 in
theorem f_Sim_isSame_b600_ev {h' : AH} {r : Int32} (d : Nat) (hd : 5 ≤ d) (k600 : AH → Nat → Nat → Int32 → Int32 → Option (AH × Int32)) (hk600 : ∀ (h : AH) (a0 : Nat) (a1 : Nat) (a2 : Int32) (a3 : Int32)  (d4 : Value) (d5 : Value) (d6 : Value) (d7 : Value) (d8 : Value), k600 h a0 a1 a2 a3 = some (h', r) → Eb (Ev tb mL d) 21 (600, [.ref a0, .ref a1, .int a2, .int a3, d4, d5, d6, d7, d8], [], h) h' (some (.int r)))  (h : AH) (a0 : Nat) (a1 : Nat) (a2 : Int32) (a3 : Int32)  (d4 : Value) (d5 : Value) (d6 : Value) (d7 : Value) (d8 : Value) (e : f_Sim_isSame_b600 k600 h a0 a1 a2 a3 = some (h', r)) : Eb (Ev tb mL d) 21 (600, [.ref a0, .ref a1, .int a2, .int a3, d4, d5, d6, d7, d8], [], h) h' (some (.int r)) := by
  unfold f_Sim_isSame_b600 at e
  refine eb_n 2 (602, [.ref a0, .ref a1, .int a2, .int a3, d4, d5, d6, d7, d8], [.int (nI 4), .int a3], h) (rfl) ?_
  refine eb_b (c := (nI 4) ≤ a3) (692, [.ref a0, .ref a1, .int a2, .int a3, d4, d5, d6, d7, d8], [], h) (605, [.ref a0, .ref a1, .int a2, .int a3, d4, d5, d6, d7, d8], [], h) rfl (fun c1 => ?_) (fun c1 => ?_)
  · replace e := ite_t c1 e
    refine eb_n 1 (693, [.ref a0, .ref a1, .int a2, .int a3, d4, d5, d6, d7, d8], [.ref a1], h) (rfl) ?_
    obtain ⟨g2, e⟩ := gd_some e
    obtain ⟨h3, r4, eh3, e⟩ := bn_some e
    refine eb_cg (p := hT h a1 = 1) rfl g2 (f_QuillBoats_mean_ev d (Nat.le_trans (by decide) hd) eh3) ?_
    show Eb _ 21 (696, [.ref a0, .ref a1, .int a2, .int a3, d4, d5, d6, d7, d8], [.double r4], h3) _ _
    refine eb_n 1 (697, [.ref a0, .ref a1, .int a2, .int a3, d4, d5, d6, d7, d8], [.ref a0, .double r4], h3) (rfl) ?_
    obtain ⟨g5, e⟩ := gd_some e
    refine eb_g (p := hT h3 a0 = 13) (700, [.ref a0, .ref a1, .int a2, .int a3, d4, d5, d6, d7, d8], [.ref (hR h3 a0 15), .double r4], h3) rfl g5 ?_
    obtain ⟨g6, e⟩ := gd_some e
    refine eb_g (p := hT h3 (hR h3 a0 15) = 109) (701, [.ref a0, .ref a1, .int a2, .int a3, d4, d5, d6, d7, d8], [.int (nI (hL h3 (hR h3 a0 15))), .double r4], h3) rfl g6 ?_
    refine eb_b (c := ¬ (nI (hL h3 (hR h3 a0 15))) = 0) (708, [.ref a0, .ref a1, .int a2, .int a3, d4, d5, d6, d7, d8], [.double r4], h3) (704, [.ref a0, .ref a1, .int a2, .int a3, d4, d5, d6, d7, d8], [.double r4], h3) rfl (fun c7 => ?_) (fun c7 => ?_)
    · replace e := ite_t c7 e
      refine eb_n 3 (711, [.ref a0, .ref a1, .int a2, .int a3, d4, d5, d6, d7, d8], [.ref a0, .double (FP.i2d a2), .double r4], h3) (rfl) ?_
      refine eb_g (p := hT h3 a0 = 13) (714, [.ref a0, .ref a1, .int a2, .int a3, d4, d5, d6, d7, d8], [.ref (hR h3 a0 15), .double (FP.i2d a2), .double r4], h3) rfl g5 ?_
      refine eb_g (p := hT h3 (hR h3 a0 15) = 109) (715, [.ref a0, .ref a1, .int a2, .int a3, d4, d5, d6, d7, d8], [.int (nI (hL h3 (hR h3 a0 15))), .double (FP.i2d a2), .double r4], h3) rfl g6 ?_
      refine eb_n 1 (716, [.ref a0, .ref a1, .int a2, .int a3, d4, d5, d6, d7, d8], [.double (FP.i2d (nI (hL h3 (hR h3 a0 15)))), .double (FP.i2d a2), .double r4], h3) (rfl) ?_
      obtain ⟨g8, e⟩ := gd_some e
      refine eb_g (p := FP.ddiv (FP.i2d a2) (FP.i2d (nI (hL h3 (hR h3 a0 15)))) &&& 0x7fffffffffffffff ≤ 0x7ff0000000000000) (717, [.ref a0, .ref a1, .int a2, .int a3, d4, d5, d6, d7, d8], [.double (FP.ddiv (FP.i2d a2) (FP.i2d (nI (hL h3 (hR h3 a0 15))))), .double r4], h3) rfl g8 ?_
      exact f_Sim_isSame_b717_ev d hd   _ _ _ _ _ _ _ _ _ _ _ _ e
    · replace e := ite_f c7 e
      refine eb_n 2 (717, [.ref a0, .ref a1, .int a2, .int a3, d4, d5, d6, d7, d8], [.double FP.dconst0, .double r4], h3) (rfl) ?_
      exact f_Sim_isSame_b717_ev d hd   _ _ _ _ _ _ _ _ _ _ _ _ e
  · replace e := ite_f c1 e
    refine eb_n 1 (606, [.ref a0, .ref a1, .int a2, .int a3, d4, d5, d6, d7, d8], [.int (nI 5)], h) (rfl) ?_
    obtain ⟨h9, eh9, e⟩ := lq_some e
    refine eb_g (p := ¬ (nI 5) < 0 ∧ ix (nI 5) ≤ 65536) (608, [.ref a0, .ref a1, .int a2, .int a3, d4, d5, d6, d7, d8], [.ref (hN h)], h9) (by rw [eh9]; rfl) (by decide) ?_
    refine eb_n 3 (611, [.ref a0, .ref a1, .int a2, .int a3, d4, d5, d6, d7, d8], [.ref a0, .int (nI 0), .ref (hN h), .ref (hN h)], h9) (rfl) ?_
    obtain ⟨g10, e⟩ := gd_some e
    refine eb_g (p := hT h9 a0 = 13) (614, [.ref a0, .ref a1, .int a2, .int a3, d4, d5, d6, d7, d8], [.ref (hR h9 a0 9), .int (nI 0), .ref (hN h), .ref (hN h)], h9) rfl g10 ?_
    refine eb_n 1 (615, [.ref a0, .ref a1, .int a2, .int a3, d4, d5, d6, d7, d8], [.int a3, .ref (hR h9 a0 9), .int (nI 0), .ref (hN h), .ref (hN h)], h9) (rfl) ?_
    obtain ⟨g11, e⟩ := gd_some e
    refine eb_g (p := hT h9 (hR h9 a0 9) = 101 ∧ inb a3 (hL h9 (hR h9 a0 9))) (616, [.ref a0, .ref a1, .int a2, .int a3, d4, d5, d6, d7, d8], [.int (hI h9 (hR h9 a0 9) (ix a3)), .int (nI 0), .ref (hN h), .ref (hN h)], h9) rfl g11 ?_
    obtain ⟨g12, e⟩ := gd_some e
    obtain ⟨h13, eh13, e⟩ := lq_some e
    refine eb_g (p := hT h9 (hN h) = 101 ∧ inb (nI 0) (hL h9 (hN h))) (617, [.ref a0, .ref a1, .int a2, .int a3, d4, d5, d6, d7, d8], [.ref (hN h)], h13) (by rw [eh13]; rfl) g12 ?_
    refine eb_n 3 (620, [.ref a0, .ref a1, .int a2, .int a3, d4, d5, d6, d7, d8], [.ref a0, .int (nI 1), .ref (hN h), .ref (hN h)], h13) (rfl) ?_
    obtain ⟨g14, e⟩ := gd_some e
    refine eb_g (p := hT h13 a0 = 13) (623, [.ref a0, .ref a1, .int a2, .int a3, d4, d5, d6, d7, d8], [.ref (hR h13 a0 8), .int (nI 1), .ref (hN h), .ref (hN h)], h13) rfl g14 ?_
    refine eb_n 1 (624, [.ref a0, .ref a1, .int a2, .int a3, d4, d5, d6, d7, d8], [.int a3, .ref (hR h13 a0 8), .int (nI 1), .ref (hN h), .ref (hN h)], h13) (rfl) ?_
    obtain ⟨g15, e⟩ := gd_some e
    refine eb_g (p := hT h13 (hR h13 a0 8) = 101 ∧ inb a3 (hL h13 (hR h13 a0 8))) (625, [.ref a0, .ref a1, .int a2, .int a3, d4, d5, d6, d7, d8], [.int (hI h13 (hR h13 a0 8) (ix a3)), .int (nI 1), .ref (hN h), .ref (hN h)], h13) rfl g15 ?_
    obtain ⟨g16, e⟩ := gd_some e
    obtain ⟨h17, eh17, e⟩ := lq_some e
    refine eb_g (p := hT h13 (hN h) = 101 ∧ inb (nI 1) (hL h13 (hN h))) (626, [.ref a0, .ref a1, .int a2, .int a3, d4, d5, d6, d7, d8], [.ref (hN h)], h17) (by rw [eh17]; rfl) g16 ?_
    refine eb_n 3 (629, [.ref a0, .ref a1, .int a2, .int a3, d4, d5, d6, d7, d8], [.ref a0, .int (nI 2), .ref (hN h), .ref (hN h)], h17) (rfl) ?_
    obtain ⟨g18, e⟩ := gd_some e
    refine eb_g (p := hT h17 a0 = 13) (632, [.ref a0, .ref a1, .int a2, .int a3, d4, d5, d6, d7, d8], [.ref (hR h17 a0 10), .int (nI 2), .ref (hN h), .ref (hN h)], h17) rfl g18 ?_
    refine eb_n 1 (633, [.ref a0, .ref a1, .int a2, .int a3, d4, d5, d6, d7, d8], [.int a3, .ref (hR h17 a0 10), .int (nI 2), .ref (hN h), .ref (hN h)], h17) (rfl) ?_
    obtain ⟨g19, e⟩ := gd_some e
    refine eb_g (p := hT h17 (hR h17 a0 10) = 101 ∧ inb a3 (hL h17 (hR h17 a0 10))) (634, [.ref a0, .ref a1, .int a2, .int a3, d4, d5, d6, d7, d8], [.int (hI h17 (hR h17 a0 10) (ix a3)), .int (nI 2), .ref (hN h), .ref (hN h)], h17) rfl g19 ?_
    obtain ⟨g20, e⟩ := gd_some e
    obtain ⟨h21, eh21, e⟩ := lq_some e
    refine eb_g (p := hT h17 (hN h) = 101 ∧ inb (nI 2) (hL h17 (hN h))) (635, [.ref a0, .ref a1, .int a2, .int a3, d4, d5, d6, d7, d8], [.ref (hN h)], h21) (by rw [eh21]; rfl) g20 ?_
    refine eb_n 4 (639, [.ref a0, .ref a1, .int a2, .int a3, d4, d5, d6, d7, d8], [.int a3, .ref a0, .int (nI 3), .ref (hN h), .ref (hN h)], h21) (rfl) ?_
    obtain ⟨g22, e⟩ := gd_some e
    obtain ⟨h23, r24, eh23, e⟩ := bn_some e
    refine eb_cg (p := hT h21 a0 = 13) rfl g22 (f_Sim_priceOf_ev d (Nat.le_trans (by decide) hd) eh23) ?_
    show Eb _ 21 (642, [.ref a0, .ref a1, .int a2, .int a3, d4, d5, d6, d7, d8], [.int r24, .int (nI 3), .ref (hN h), .ref (hN h)], h23) _ _
    obtain ⟨g25, e⟩ := gd_some e
    obtain ⟨h26, eh26, e⟩ := lq_some e
    refine eb_g (p := hT h23 (hN h) = 101 ∧ inb (nI 3) (hL h23 (hN h))) (643, [.ref a0, .ref a1, .int a2, .int a3, d4, d5, d6, d7, d8], [.ref (hN h)], h26) (by rw [eh26]; rfl) g25 ?_
    refine eb_n 3 (646, [.ref a0, .ref a1, .int a2, .int a3, d4, d5, d6, d7, d8], [.ref a0, .int (nI 4), .ref (hN h), .ref (hN h)], h26) (rfl) ?_
    obtain ⟨g27, e⟩ := gd_some e
    refine eb_g (p := hT h26 a0 = 13) (649, [.ref a0, .ref a1, .int a2, .int a3, d4, d5, d6, d7, d8], [.ref (hR h26 a0 11), .int (nI 4), .ref (hN h), .ref (hN h)], h26) rfl g27 ?_
    refine eb_n 1 (650, [.ref a0, .ref a1, .int a2, .int a3, d4, d5, d6, d7, d8], [.int a3, .ref (hR h26 a0 11), .int (nI 4), .ref (hN h), .ref (hN h)], h26) (rfl) ?_
    obtain ⟨g28, e⟩ := gd_some e
    refine eb_g (p := hT h26 (hR h26 a0 11) = 101 ∧ inb a3 (hL h26 (hR h26 a0 11))) (651, [.ref a0, .ref a1, .int a2, .int a3, d4, d5, d6, d7, d8], [.int (hI h26 (hR h26 a0 11) (ix a3)), .int (nI 4), .ref (hN h), .ref (hN h)], h26) rfl g28 ?_
    obtain ⟨g29, e⟩ := gd_some e
    obtain ⟨h30, eh30, e⟩ := lq_some e
    refine eb_g (p := hT h26 (hN h) = 101 ∧ inb (nI 4) (hL h26 (hN h))) (652, [.ref a0, .ref a1, .int a2, .int a3, d4, d5, d6, d7, d8], [.ref (hN h)], h30) (by rw [eh30]; rfl) g29 ?_
    obtain ⟨x31, hx31, e⟩ := lq_some e
    refine eb_n 1 (654, [.ref a0, .ref a1, .int a2, .int a3, .ref x31, d5, d6, d7, d8], [], h30) (by subst hx31; rfl) ?_
    refine eb_n 2 (657, [.ref a0, .ref a1, .int a2, .int a3, .ref x31, .int (nI 0), d6, d7, d8], [], h30) (rfl) ?_
    exact f_Sim_isSame_l657_ev d hd k600 hk600 FU _ _ _ _ _ _ _ _ _ _ e
set_option maxRecDepth 100000 in
set_option maxHeartbeats 4000000 in
theorem f_Sim_isSame_l600_ev {h' : AH} {r : Int32} (d : Nat) (hd : 5 ≤ d)  : ∀ (n : Nat) (h : AH) (a0 : Nat) (a1 : Nat) (a2 : Int32) (a3 : Int32)  (d4 : Value) (d5 : Value) (d6 : Value) (d7 : Value) (d8 : Value) (_ : f_Sim_isSame_l600  n h a0 a1 a2 a3 = some (h', r)), Eb (Ev tb mL d) 21 (600, [.ref a0, .ref a1, .int a2, .int a3, d4, d5, d6, d7, d8], [], h) h' (some (.int r)) := by
  intro n
  induction n with
  | zero => intro h a0 a1 a2 a3 d4 d5 d6 d7 d8 e; exact nomatch e
  | succ n ih =>
    intro h a0 a1 a2 a3 d4 d5 d6 d7 d8 e
    exact f_Sim_isSame_b600_ev d hd _ (fun h a0 a1 a2 a3 d4 d5 d6 d7 d8 e => ih h a0 a1 a2 a3 d4 d5 d6 d7 d8 e) h a0 a1 a2 a3 d4 d5 d6 d7 d8 e
set_option maxRecDepth 100000 in
set_option maxHeartbeats 4000000 in
theorem f_Sim_isSame_b562_ev {h' : AH} {r : Int32} (d : Nat) (hd : 5 ≤ d) (k474 : AH → Nat → Nat → Int32 → Int32 → Option (AH × Int32)) (k562 : AH → Nat → Nat → Int32 → Int32 → Nat → Int32 → Option (AH × Int32)) (hk474 : ∀ (h : AH) (a0 : Nat) (a1 : Nat) (a2 : Int32) (a3 : Int32)  (d4 : Value) (d5 : Value) (d6 : Value) (d7 : Value) (d8 : Value), k474 h a0 a1 a2 a3 = some (h', r) → Eb (Ev tb mL d) 21 (474, [.ref a0, .ref a1, .int a2, .int a3, d4, d5, d6, d7, d8], [], h) h' (some (.int r))) (hk562 : ∀ (h : AH) (a0 : Nat) (a1 : Nat) (a2 : Int32) (a3 : Int32) (a5 : Nat) (a6 : Int32)  (d4 : Value) (d7 : Value) (d8 : Value), k562 h a0 a1 a2 a3 a5 a6 = some (h', r) → Eb (Ev tb mL d) 21 (562, [.ref a0, .ref a1, .int a2, .int a3, d4, .ref a5, .int a6, d7, d8], [], h) h' (some (.int r)))  (h : AH) (a0 : Nat) (a1 : Nat) (a2 : Int32) (a3 : Int32) (a5 : Nat) (a6 : Int32)  (d4 : Value) (d7 : Value) (d8 : Value) (e : f_Sim_isSame_b562 k474 k562 h a0 a1 a2 a3 a5 a6 = some (h', r)) : Eb (Ev tb mL d) 21 (562, [.ref a0, .ref a1, .int a2, .int a3, d4, .ref a5, .int a6, d7, d8], [], h) h' (some (.int r)) := by
  unfold f_Sim_isSame_b562 at e
  refine eb_n 2 (566, [.ref a0, .ref a1, .int a2, .int a3, d4, .ref a5, .int a6, d7, d8], [.int (nI 7), .int a6], h) (rfl) ?_
  refine eb_b (c := (nI 7) ≤ a6) (592, [.ref a0, .ref a1, .int a2, .int a3, d4, .ref a5, .int a6, d7, d8], [], h) (569, [.ref a0, .ref a1, .int a2, .int a3, d4, .ref a5, .int a6, d7, d8], [], h) rfl (fun c1 => ?_) (fun c1 => ?_)
  · replace e := ite_t c1 e
    obtain ⟨x2, hx2, e⟩ := lq_some e
    refine eb_n 1 (595, [.ref a0, .ref a1, .int a2, .int x2, d4, .ref a5, .int a6, d7, d8], [], h) (by subst hx2; rfl) ?_
    refine eb_n 1 (474, [.ref a0, .ref a1, .int a2, .int x2, d4, .ref a5, .int a6, d7, d8], [], h) (rfl) ?_
    exact hk474 _ _ _ _ _ _ _ _ _ _ e
  · replace e := ite_f c1 e
    refine eb_n 3 (573, [.ref a0, .ref a1, .int a2, .int a3, d4, .ref a5, .int a6, d7, d8], [.int a6, .int a3, .ref a1], h) (rfl) ?_
    obtain ⟨g3, e⟩ := gd_some e
    obtain ⟨h4, r5, eh4, e⟩ := bn_some e
    refine eb_cg (p := hT h a1 = 1) rfl g3 (f_QuillBoats_boat_ev d (Nat.le_trans (by decide) hd) eh4) ?_
    show Eb _ 21 (576, [.ref a0, .ref a1, .int a2, .int a3, d4, .ref a5, .int a6, d7, d8], [.int r5], h4) _ _
    refine eb_n 2 (580, [.ref a0, .ref a1, .int a2, .int a3, d4, .ref a5, .int a6, d7, d8], [.int a6, .ref a5, .int r5], h4) (rfl) ?_
    obtain ⟨g6, e⟩ := gd_some e
    refine eb_g (p := hT h4 a5 = 101 ∧ inb a6 (hL h4 a5)) (581, [.ref a0, .ref a1, .int a2, .int a3, d4, .ref a5, .int a6, d7, d8], [.int (hI h4 a5 (ix a6)), .int r5], h4) rfl g6 ?_
    refine eb_b (c := r5 = (hI h4 a5 (ix a6))) (586, [.ref a0, .ref a1, .int a2, .int a3, d4, .ref a5, .int a6, d7, d8], [], h4) (584, [.ref a0, .ref a1, .int a2, .int a3, d4, .ref a5, .int a6, d7, d8], [], h4) rfl (fun c7 => ?_) (fun c7 => ?_)
    · replace e := ite_t c7 e
      obtain ⟨x8, hx8, e⟩ := lq_some e
      refine eb_n 1 (589, [.ref a0, .ref a1, .int a2, .int a3, d4, .ref a5, .int x8, d7, d8], [], h4) (by subst hx8; rfl) ?_
      refine eb_n 1 (562, [.ref a0, .ref a1, .int a2, .int a3, d4, .ref a5, .int x8, d7, d8], [], h4) (rfl) ?_
      exact hk562 _ _ _ _ _ _ _ _ _ _ e
    · replace e := ite_f c7 e
      refine eb_n 1 (585, [.ref a0, .ref a1, .int a2, .int a3, d4, .ref a5, .int a6, d7, d8], [.int (nI 0)], h4) (rfl) ?_
      rw [(sp_inj e).1, (sp_inj e).2]
      exact eb_rg (p := nrm 3 (nI 0)) rfl nrm_30
set_option maxRecDepth 100000 in
set_option maxHeartbeats 4000000 in
theorem f_Sim_isSame_l562_ev {h' : AH} {r : Int32} (d : Nat) (hd : 5 ≤ d) (k474 : AH → Nat → Nat → Int32 → Int32 → Option (AH × Int32)) (hk474 : ∀ (h : AH) (a0 : Nat) (a1 : Nat) (a2 : Int32) (a3 : Int32)  (d4 : Value) (d5 : Value) (d6 : Value) (d7 : Value) (d8 : Value), k474 h a0 a1 a2 a3 = some (h', r) → Eb (Ev tb mL d) 21 (474, [.ref a0, .ref a1, .int a2, .int a3, d4, d5, d6, d7, d8], [], h) h' (some (.int r)))  : ∀ (n : Nat) (h : AH) (a0 : Nat) (a1 : Nat) (a2 : Int32) (a3 : Int32) (a5 : Nat) (a6 : Int32)  (d4 : Value) (d7 : Value) (d8 : Value) (_ : f_Sim_isSame_l562 k474 n h a0 a1 a2 a3 a5 a6 = some (h', r)), Eb (Ev tb mL d) 21 (562, [.ref a0, .ref a1, .int a2, .int a3, d4, .ref a5, .int a6, d7, d8], [], h) h' (some (.int r)) := by
  intro n
  induction n with
  | zero => intro h a0 a1 a2 a3 a5 a6 d4 d7 d8 e; exact nomatch e
  | succ n ih =>
    intro h a0 a1 a2 a3 a5 a6 d4 d7 d8 e
    exact f_Sim_isSame_b562_ev d hd k474 _ hk474 (fun h a0 a1 a2 a3 a5 a6 d4 d7 d8 e => ih h a0 a1 a2 a3 a5 a6 d4 d7 d8 e) h a0 a1 a2 a3 a5 a6 d4 d7 d8 e
set_option maxRecDepth 100000 in
set_option maxHeartbeats 4000000 in
theorem f_Sim_isSame_b547_ev {h' : AH} {r : Int32} (d : Nat) (hd : 5 ≤ d) (k474 : AH → Nat → Nat → Int32 → Int32 → Option (AH × Int32)) (hk474 : ∀ (h : AH) (a0 : Nat) (a1 : Nat) (a2 : Int32) (a3 : Int32)  (d4 : Value) (d5 : Value) (d6 : Value) (d7 : Value) (d8 : Value), k474 h a0 a1 a2 a3 = some (h', r) → Eb (Ev tb mL d) 21 (474, [.ref a0, .ref a1, .int a2, .int a3, d4, d5, d6, d7, d8], [], h) h' (some (.int r)))  (h : AH) (a0 : Nat) (a1 : Nat) (a2 : Int32) (a3 : Int32) (a4 : Nat) (s0 : Nat) (s1 : Nat) (s2 : Int32) (s3 : Int32) (d5 : Value) (d6 : Value) (d7 : Value) (d8 : Value) (e : f_Sim_isSame_b547 k474 h a0 a1 a2 a3 a4 s0 s1 s2 s3 = some (h', r)) : Eb (Ev tb mL d) 21 (547, [.ref a0, .ref a1, .int a2, .int a3, .ref a4, d5, d6, d7, d8], [.int s3, .int s2, .ref s1, .ref s0], h) h' (some (.int r)) := by
  unfold f_Sim_isSame_b547 at e
  obtain ⟨g1, e⟩ := gd_some e
  obtain ⟨h2, eh2, e⟩ := lq_some e
  refine eb_g (p := hT h s1 = 101 ∧ inb s2 (hL h s1)) (548, [.ref a0, .ref a1, .int a2, .int a3, .ref a4, d5, d6, d7, d8], [.ref s0], h2) (by rw [eh2]; rfl) g1 ?_
  refine eb_n 4 (555, [.ref a0, .ref a1, .int a2, .int a3, .ref a4, d5, d6, d7, d8], [.int (nI 6), .ref a4, .int (nI 6), .ref s0, .ref s0], h2) (rfl) ?_
  obtain ⟨g3, e⟩ := gd_some e
  refine eb_g (p := hT h2 a4 = 101 ∧ inb (nI 6) (hL h2 a4)) (556, [.ref a0, .ref a1, .int a2, .int a3, .ref a4, d5, d6, d7, d8], [.int (hI h2 a4 (ix (nI 6))), .int (nI 6), .ref s0, .ref s0], h2) rfl g3 ?_
  obtain ⟨g4, e⟩ := gd_some e
  obtain ⟨h5, eh5, e⟩ := lq_some e
  refine eb_g (p := hT h2 s0 = 101 ∧ inb (nI 6) (hL h2 s0)) (557, [.ref a0, .ref a1, .int a2, .int a3, .ref a4, d5, d6, d7, d8], [.ref s0], h5) (by rw [eh5]; rfl) g4 ?_
  refine eb_n 3 (562, [.ref a0, .ref a1, .int a2, .int a3, .ref a4, .ref s0, .int (nI 0), d7, d8], [], h5) (rfl) ?_
  exact f_Sim_isSame_l562_ev d hd k474 hk474 FU _ _ _ _ _ _ _ _ _ _ e
set_option maxRecDepth 100000 in
set_option maxHeartbeats 4000000 in
theorem f_Sim_isSame_b474_ev {h' : AH} {r : Int32} (d : Nat) (hd : 5 ≤ d) (k474 : AH → Nat → Nat → Int32 → Int32 → Option (AH × Int32)) (hk474 : ∀ (h : AH) (a0 : Nat) (a1 : Nat) (a2 : Int32) (a3 : Int32)  (d4 : Value) (d5 : Value) (d6 : Value) (d7 : Value) (d8 : Value), k474 h a0 a1 a2 a3 = some (h', r) → Eb (Ev tb mL d) 21 (474, [.ref a0, .ref a1, .int a2, .int a3, d4, d5, d6, d7, d8], [], h) h' (some (.int r)))  (h : AH) (a0 : Nat) (a1 : Nat) (a2 : Int32) (a3 : Int32)  (d4 : Value) (d5 : Value) (d6 : Value) (d7 : Value) (d8 : Value) (e : f_Sim_isSame_b474 k474 h a0 a1 a2 a3 = some (h', r)) : Eb (Ev tb mL d) 21 (474, [.ref a0, .ref a1, .int a2, .int a3, d4, d5, d6, d7, d8], [], h) h' (some (.int r)) := by
  unfold f_Sim_isSame_b474 at e
  refine eb_n 2 (476, [.ref a0, .ref a1, .int a2, .int a3, d4, d5, d6, d7, d8], [.ref a0, .int a3], h) (rfl) ?_
  obtain ⟨g1, e⟩ := gd_some e
  refine eb_g (p := hT h a0 = 13) (479, [.ref a0, .ref a1, .int a2, .int a3, d4, d5, d6, d7, d8], [.ref (hR h a0 16), .int a3], h) rfl g1 ?_
  obtain ⟨g2, e⟩ := gd_some e
  refine eb_g (p := hT h (hR h a0 16) = 109) (480, [.ref a0, .ref a1, .int a2, .int a3, d4, d5, d6, d7, d8], [.int (nI (hL h (hR h a0 16))), .int a3], h) rfl g2 ?_
  refine eb_b (c := (nI (hL h (hR h a0 16))) ≤ a3) (598, [.ref a0, .ref a1, .int a2, .int a3, d4, d5, d6, d7, d8], [], h) (483, [.ref a0, .ref a1, .int a2, .int a3, d4, d5, d6, d7, d8], [], h) rfl (fun c3 => ?_) (fun c3 => ?_)
  · replace e := ite_t c3 e
    refine eb_n 2 (600, [.ref a0, .ref a1, .int a2, .int (nI 0), d4, d5, d6, d7, d8], [], h) (rfl) ?_
    exact f_Sim_isSame_l600_ev d hd   FU _ _ _ _ _ _ _ _ _ _ e
  · replace e := ite_f c3 e
    refine eb_n 1 (484, [.ref a0, .ref a1, .int a2, .int a3, d4, d5, d6, d7, d8], [.ref a0], h) (rfl) ?_
    refine eb_g (p := hT h a0 = 13) (487, [.ref a0, .ref a1, .int a2, .int a3, d4, d5, d6, d7, d8], [.ref (hR h a0 16)], h) rfl g1 ?_
    refine eb_n 1 (488, [.ref a0, .ref a1, .int a2, .int a3, d4, d5, d6, d7, d8], [.int a3, .ref (hR h a0 16)], h) (rfl) ?_
    obtain ⟨g4, e⟩ := gd_some e
    refine eb_g (p := hT h (hR h a0 16) = 109 ∧ inb a3 (hL h (hR h a0 16))) (489, [.ref a0, .ref a1, .int a2, .int a3, d4, d5, d6, d7, d8], [.ref (hR h (hR h a0 16) (ix a3))], h) rfl g4 ?_
    obtain ⟨x5, hx5, e⟩ := lq_some e
    refine eb_n 1 (491, [.ref a0, .ref a1, .int a2, .int a3, .ref x5, d5, d6, d7, d8], [], h) (by subst hx5; rfl) ?_
    refine eb_n 1 (493, [.ref a0, .ref a1, .int a2, .int a3, .ref x5, d5, d6, d7, d8], [.int (nI 7)], h) (rfl) ?_
    obtain ⟨h6, eh6, e⟩ := lq_some e
    refine eb_g (p := ¬ (nI 7) < 0 ∧ ix (nI 7) ≤ 65536) (495, [.ref a0, .ref a1, .int a2, .int a3, .ref x5, d5, d6, d7, d8], [.ref (hN h)], h6) (by rw [eh6]; rfl) (by decide) ?_
    refine eb_n 4 (500, [.ref a0, .ref a1, .int a2, .int a3, .ref x5, d5, d6, d7, d8], [.int (nI 0), .ref x5, .int (nI 0), .ref (hN h), .ref (hN h)], h6) (rfl) ?_
    obtain ⟨g7, e⟩ := gd_some e
    refine eb_g (p := hT h6 x5 = 101 ∧ inb (nI 0) (hL h6 x5)) (501, [.ref a0, .ref a1, .int a2, .int a3, .ref x5, d5, d6, d7, d8], [.int (hI h6 x5 (ix (nI 0))), .int (nI 0), .ref (hN h), .ref (hN h)], h6) rfl g7 ?_
    obtain ⟨g8, e⟩ := gd_some e
    obtain ⟨h9, eh9, e⟩ := lq_some e
    refine eb_g (p := hT h6 (hN h) = 101 ∧ inb (nI 0) (hL h6 (hN h))) (502, [.ref a0, .ref a1, .int a2, .int a3, .ref x5, d5, d6, d7, d8], [.ref (hN h)], h9) (by rw [eh9]; rfl) g8 ?_
    refine eb_n 4 (507, [.ref a0, .ref a1, .int a2, .int a3, .ref x5, d5, d6, d7, d8], [.int (nI 1), .ref x5, .int (nI 1), .ref (hN h), .ref (hN h)], h9) (rfl) ?_
    obtain ⟨g10, e⟩ := gd_some e
    refine eb_g (p := hT h9 x5 = 101 ∧ inb (nI 1) (hL h9 x5)) (508, [.ref a0, .ref a1, .int a2, .int a3, .ref x5, d5, d6, d7, d8], [.int (hI h9 x5 (ix (nI 1))), .int (nI 1), .ref (hN h), .ref (hN h)], h9) rfl g10 ?_
    obtain ⟨g11, e⟩ := gd_some e
    obtain ⟨h12, eh12, e⟩ := lq_some e
    refine eb_g (p := hT h9 (hN h) = 101 ∧ inb (nI 1) (hL h9 (hN h))) (509, [.ref a0, .ref a1, .int a2, .int a3, .ref x5, d5, d6, d7, d8], [.ref (hN h)], h12) (by rw [eh12]; rfl) g11 ?_
    refine eb_n 4 (514, [.ref a0, .ref a1, .int a2, .int a3, .ref x5, d5, d6, d7, d8], [.int (nI 2), .ref x5, .int (nI 2), .ref (hN h), .ref (hN h)], h12) (rfl) ?_
    obtain ⟨g13, e⟩ := gd_some e
    refine eb_g (p := hT h12 x5 = 101 ∧ inb (nI 2) (hL h12 x5)) (515, [.ref a0, .ref a1, .int a2, .int a3, .ref x5, d5, d6, d7, d8], [.int (hI h12 x5 (ix (nI 2))), .int (nI 2), .ref (hN h), .ref (hN h)], h12) rfl g13 ?_
    obtain ⟨g14, e⟩ := gd_some e
    obtain ⟨h15, eh15, e⟩ := lq_some e
    refine eb_g (p := hT h12 (hN h) = 101 ∧ inb (nI 2) (hL h12 (hN h))) (516, [.ref a0, .ref a1, .int a2, .int a3, .ref x5, d5, d6, d7, d8], [.ref (hN h)], h15) (by rw [eh15]; rfl) g14 ?_
    refine eb_n 4 (521, [.ref a0, .ref a1, .int a2, .int a3, .ref x5, d5, d6, d7, d8], [.int (nI 3), .ref x5, .int (nI 3), .ref (hN h), .ref (hN h)], h15) (rfl) ?_
    obtain ⟨g16, e⟩ := gd_some e
    refine eb_g (p := hT h15 x5 = 101 ∧ inb (nI 3) (hL h15 x5)) (522, [.ref a0, .ref a1, .int a2, .int a3, .ref x5, d5, d6, d7, d8], [.int (hI h15 x5 (ix (nI 3))), .int (nI 3), .ref (hN h), .ref (hN h)], h15) rfl g16 ?_
    obtain ⟨g17, e⟩ := gd_some e
    obtain ⟨h18, eh18, e⟩ := lq_some e
    refine eb_g (p := hT h15 (hN h) = 101 ∧ inb (nI 3) (hL h15 (hN h))) (523, [.ref a0, .ref a1, .int a2, .int a3, .ref x5, d5, d6, d7, d8], [.ref (hN h)], h18) (by rw [eh18]; rfl) g17 ?_
    refine eb_n 4 (528, [.ref a0, .ref a1, .int a2, .int a3, .ref x5, d5, d6, d7, d8], [.int (nI 4), .ref x5, .int (nI 4), .ref (hN h), .ref (hN h)], h18) (rfl) ?_
    obtain ⟨g19, e⟩ := gd_some e
    refine eb_g (p := hT h18 x5 = 101 ∧ inb (nI 4) (hL h18 x5)) (529, [.ref a0, .ref a1, .int a2, .int a3, .ref x5, d5, d6, d7, d8], [.int (hI h18 x5 (ix (nI 4))), .int (nI 4), .ref (hN h), .ref (hN h)], h18) rfl g19 ?_
    obtain ⟨g20, e⟩ := gd_some e
    obtain ⟨h21, eh21, e⟩ := lq_some e
    refine eb_g (p := hT h18 (hN h) = 101 ∧ inb (nI 4) (hL h18 (hN h))) (530, [.ref a0, .ref a1, .int a2, .int a3, .ref x5, d5, d6, d7, d8], [.ref (hN h)], h21) (by rw [eh21]; rfl) g20 ?_
    refine eb_n 4 (535, [.ref a0, .ref a1, .int a2, .int a3, .ref x5, d5, d6, d7, d8], [.int (nI 4), .ref x5, .int (nI 5), .ref (hN h), .ref (hN h)], h21) (rfl) ?_
    obtain ⟨g22, e⟩ := gd_some e
    refine eb_g (p := hT h21 x5 = 101 ∧ inb (nI 4) (hL h21 x5)) (536, [.ref a0, .ref a1, .int a2, .int a3, .ref x5, d5, d6, d7, d8], [.int (hI h21 x5 (ix (nI 4))), .int (nI 5), .ref (hN h), .ref (hN h)], h21) rfl g22 ?_
    refine eb_b (c := ¬ (hI h21 x5 (ix (nI 4))) = 0) (543, [.ref a0, .ref a1, .int a2, .int a3, .ref x5, d5, d6, d7, d8], [.int (nI 5), .ref (hN h), .ref (hN h)], h21) (539, [.ref a0, .ref a1, .int a2, .int a3, .ref x5, d5, d6, d7, d8], [.int (nI 5), .ref (hN h), .ref (hN h)], h21) rfl (fun c23 => ?_) (fun c23 => ?_)
    · replace e := ite_t c23 e
      refine eb_n 2 (546, [.ref a0, .ref a1, .int a2, .int a3, .ref x5, d5, d6, d7, d8], [.int (nI 5), .ref x5, .int (nI 5), .ref (hN h), .ref (hN h)], h21) (rfl) ?_
      obtain ⟨g24, e⟩ := gd_some e
      refine eb_g (p := hT h21 x5 = 101 ∧ inb (nI 5) (hL h21 x5)) (547, [.ref a0, .ref a1, .int a2, .int a3, .ref x5, d5, d6, d7, d8], [.int (hI h21 x5 (ix (nI 5))), .int (nI 5), .ref (hN h), .ref (hN h)], h21) rfl g24 ?_
      exact f_Sim_isSame_b547_ev d hd k474 hk474 _ _ _ _ _ _ _ _ _ _ _ _ _ _ e
    · replace e := ite_f c23 e
      refine eb_n 2 (547, [.ref a0, .ref a1, .int a2, .int a3, .ref x5, d5, d6, d7, d8], [.int (-nI 1), .int (nI 5), .ref (hN h), .ref (hN h)], h21) (rfl) ?_
      exact f_Sim_isSame_b547_ev d hd k474 hk474 _ _ _ _ _ _ _ _ _ _ _ _ _ _ e
set_option maxRecDepth 100000 in
set_option maxHeartbeats 4000000 in
theorem f_Sim_isSame_l474_ev {h' : AH} {r : Int32} (d : Nat) (hd : 5 ≤ d)  : ∀ (n : Nat) (h : AH) (a0 : Nat) (a1 : Nat) (a2 : Int32) (a3 : Int32)  (d4 : Value) (d5 : Value) (d6 : Value) (d7 : Value) (d8 : Value) (_ : f_Sim_isSame_l474  n h a0 a1 a2 a3 = some (h', r)), Eb (Ev tb mL d) 21 (474, [.ref a0, .ref a1, .int a2, .int a3, d4, d5, d6, d7, d8], [], h) h' (some (.int r)) := by
  intro n
  induction n with
  | zero => intro h a0 a1 a2 a3 d4 d5 d6 d7 d8 e; exact nomatch e
  | succ n ih =>
    intro h a0 a1 a2 a3 d4 d5 d6 d7 d8 e
    exact f_Sim_isSame_b474_ev d hd _ (fun h a0 a1 a2 a3 d4 d5 d6 d7 d8 e => ih h a0 a1 a2 a3 d4 d5 d6 d7 d8 e) h a0 a1 a2 a3 d4 d5 d6 d7 d8 e
set_option maxRecDepth 100000 in
set_option maxHeartbeats 4000000 in
theorem f_Sim_isSame_b421_ev {h' : AH} {r : Int32} (d : Nat) (hd : 5 ≤ d) (k409 : AH → Nat → Nat → Int32 → Int32 → Option (AH × Int32)) (k421 : AH → Nat → Nat → Int32 → Int32 → Int32 → Option (AH × Int32)) (hk409 : ∀ (h : AH) (a0 : Nat) (a1 : Nat) (a2 : Int32) (a3 : Int32)  (d4 : Value) (d5 : Value) (d6 : Value) (d7 : Value) (d8 : Value), k409 h a0 a1 a2 a3 = some (h', r) → Eb (Ev tb mL d) 21 (409, [.ref a0, .ref a1, .int a2, .int a3, d4, d5, d6, d7, d8], [], h) h' (some (.int r))) (hk421 : ∀ (h : AH) (a0 : Nat) (a1 : Nat) (a2 : Int32) (a3 : Int32) (a4 : Int32)  (d5 : Value) (d6 : Value) (d7 : Value) (d8 : Value), k421 h a0 a1 a2 a3 a4 = some (h', r) → Eb (Ev tb mL d) 21 (421, [.ref a0, .ref a1, .int a2, .int a3, .int a4, d5, d6, d7, d8], [], h) h' (some (.int r)))  (h : AH) (a0 : Nat) (a1 : Nat) (a2 : Int32) (a3 : Int32) (a4 : Int32)  (d5 : Value) (d6 : Value) (d7 : Value) (d8 : Value) (e : f_Sim_isSame_b421 k409 k421 h a0 a1 a2 a3 a4 = some (h', r)) : Eb (Ev tb mL d) 21 (421, [.ref a0, .ref a1, .int a2, .int a3, .int a4, d5, d6, d7, d8], [], h) h' (some (.int r)) := by
  unfold f_Sim_isSame_b421 at e
  refine eb_n 2 (425, [.ref a0, .ref a1, .int a2, .int a3, .int a4, d5, d6, d7, d8], [.int (nI 6), .int a4], h) (rfl) ?_
  refine eb_b (c := (nI 6) ≤ a4) (455, [.ref a0, .ref a1, .int a2, .int a3, .int a4, d5, d6, d7, d8], [], h) (428, [.ref a0, .ref a1, .int a2, .int a3, .int a4, d5, d6, d7, d8], [], h) rfl (fun c1 => ?_) (fun c1 => ?_)
  · replace e := ite_t c1 e
    refine eb_n 2 (457, [.ref a0, .ref a1, .int a2, .int a3, .int a4, d5, d6, d7, d8], [.ref a0, .int a2], h) (rfl) ?_
    obtain ⟨g2, e⟩ := gd_some e
    refine eb_g (p := hT h a0 = 13) (460, [.ref a0, .ref a1, .int a2, .int a3, .int a4, d5, d6, d7, d8], [.ref (hR h a0 15), .int a2], h) rfl g2 ?_
    refine eb_n 1 (461, [.ref a0, .ref a1, .int a2, .int a3, .int a4, d5, d6, d7, d8], [.int a3, .ref (hR h a0 15), .int a2], h) (rfl) ?_
    obtain ⟨g3, e⟩ := gd_some e
    refine eb_g (p := hT h (hR h a0 15) = 109 ∧ inb a3 (hL h (hR h a0 15))) (462, [.ref a0, .ref a1, .int a2, .int a3, .int a4, d5, d6, d7, d8], [.ref (hR h (hR h a0 15) (ix a3)), .int a2], h) rfl g3 ?_
    refine eb_n 1 (463, [.ref a0, .ref a1, .int a2, .int a3, .int a4, d5, d6, d7, d8], [.int (nI 3), .ref (hR h (hR h a0 15) (ix a3)), .int a2], h) (rfl) ?_
    obtain ⟨g4, e⟩ := gd_some e
    refine eb_g (p := hT h (hR h (hR h a0 15) (ix a3)) = 101 ∧ inb (nI 3) (hL h (hR h (hR h a0 15) (ix a3)))) (464, [.ref a0, .ref a1, .int a2, .int a3, .int a4, d5, d6, d7, d8], [.int (hI h (hR h (hR h a0 15) (ix a3)) (ix (nI 3))), .int a2], h) rfl g4 ?_
    obtain ⟨x5, hx5, e⟩ := lq_some e
    refine eb_n 2 (466, [.ref a0, .ref a1, .int x5, .int a3, .int a4, d5, d6, d7, d8], [], h) (by subst hx5; rfl) ?_
    obtain ⟨x6, hx6, e⟩ := lq_some e
    refine eb_n 1 (469, [.ref a0, .ref a1, .int x5, .int x6, .int a4, d5, d6, d7, d8], [], h) (by subst hx6; rfl) ?_
    refine eb_n 1 (409, [.ref a0, .ref a1, .int x5, .int x6, .int a4, d5, d6, d7, d8], [], h) (rfl) ?_
    exact hk409 _ _ _ _ _ _ _ _ _ _ e
  · replace e := ite_f c1 e
    refine eb_n 3 (432, [.ref a0, .ref a1, .int a2, .int a3, .int a4, d5, d6, d7, d8], [.int a4, .int a3, .ref a1], h) (rfl) ?_
    obtain ⟨g7, e⟩ := gd_some e
    obtain ⟨h8, r9, eh8, e⟩ := bn_some e
    refine eb_cg (p := hT h a1 = 1) rfl g7 (f_QuillBoats_peeler_ev d (Nat.le_trans (by decide) hd) eh8) ?_
    show Eb _ 21 (435, [.ref a0, .ref a1, .int a2, .int a3, .int a4, d5, d6, d7, d8], [.int r9], h8) _ _
    refine eb_n 1 (436, [.ref a0, .ref a1, .int a2, .int a3, .int a4, d5, d6, d7, d8], [.ref a0, .int r9], h8) (rfl) ?_
    obtain ⟨g10, e⟩ := gd_some e
    refine eb_g (p := hT h8 a0 = 13) (439, [.ref a0, .ref a1, .int a2, .int a3, .int a4, d5, d6, d7, d8], [.ref (hR h8 a0 15), .int r9], h8) rfl g10 ?_
    refine eb_n 1 (440, [.ref a0, .ref a1, .int a2, .int a3, .int a4, d5, d6, d7, d8], [.int a3, .ref (hR h8 a0 15), .int r9], h8) (rfl) ?_
    obtain ⟨g11, e⟩ := gd_some e
    refine eb_g (p := hT h8 (hR h8 a0 15) = 109 ∧ inb a3 (hL h8 (hR h8 a0 15))) (441, [.ref a0, .ref a1, .int a2, .int a3, .int a4, d5, d6, d7, d8], [.ref (hR h8 (hR h8 a0 15) (ix a3)), .int r9], h8) rfl g11 ?_
    refine eb_n 1 (443, [.ref a0, .ref a1, .int a2, .int a3, .int a4, d5, d6, d7, d8], [.int a4, .ref (hR h8 (hR h8 a0 15) (ix a3)), .int r9], h8) (rfl) ?_
    obtain ⟨g12, e⟩ := gd_some e
    refine eb_g (p := hT h8 (hR h8 (hR h8 a0 15) (ix a3)) = 101 ∧ inb a4 (hL h8 (hR h8 (hR h8 a0 15) (ix a3)))) (444, [.ref a0, .ref a1, .int a2, .int a3, .int a4, d5, d6, d7, d8], [.int (hI h8 (hR h8 (hR h8 a0 15) (ix a3)) (ix a4)), .int r9], h8) rfl g12 ?_
    refine eb_b (c := r9 = (hI h8 (hR h8 (hR h8 a0 15) (ix a3)) (ix a4))) (449, [.ref a0, .ref a1, .int a2, .int a3, .int a4, d5, d6, d7, d8], [], h8) (447, [.ref a0, .ref a1, .int a2, .int a3, .int a4, d5, d6, d7, d8], [], h8) rfl (fun c13 => ?_) (fun c13 => ?_)
    · replace e := ite_t c13 e
      obtain ⟨x14, hx14, e⟩ := lq_some e
      refine eb_n 1 (452, [.ref a0, .ref a1, .int a2, .int a3, .int x14, d5, d6, d7, d8], [], h8) (by subst hx14; rfl) ?_
      refine eb_n 1 (421, [.ref a0, .ref a1, .int a2, .int a3, .int x14, d5, d6, d7, d8], [], h8) (rfl) ?_
      exact hk421 _ _ _ _ _ _ _ _ _ _ e
    · replace e := ite_f c13 e
      refine eb_n 1 (448, [.ref a0, .ref a1, .int a2, .int a3, .int a4, d5, d6, d7, d8], [.int (nI 0)], h8) (rfl) ?_
      rw [(sp_inj e).1, (sp_inj e).2]
      exact eb_rg (p := nrm 3 (nI 0)) rfl nrm_30
set_option maxRecDepth 100000 in
set_option maxHeartbeats 4000000 in
theorem f_Sim_isSame_l421_ev {h' : AH} {r : Int32} (d : Nat) (hd : 5 ≤ d) (k409 : AH → Nat → Nat → Int32 → Int32 → Option (AH × Int32)) (hk409 : ∀ (h : AH) (a0 : Nat) (a1 : Nat) (a2 : Int32) (a3 : Int32)  (d4 : Value) (d5 : Value) (d6 : Value) (d7 : Value) (d8 : Value), k409 h a0 a1 a2 a3 = some (h', r) → Eb (Ev tb mL d) 21 (409, [.ref a0, .ref a1, .int a2, .int a3, d4, d5, d6, d7, d8], [], h) h' (some (.int r)))  : ∀ (n : Nat) (h : AH) (a0 : Nat) (a1 : Nat) (a2 : Int32) (a3 : Int32) (a4 : Int32)  (d5 : Value) (d6 : Value) (d7 : Value) (d8 : Value) (_ : f_Sim_isSame_l421 k409 n h a0 a1 a2 a3 a4 = some (h', r)), Eb (Ev tb mL d) 21 (421, [.ref a0, .ref a1, .int a2, .int a3, .int a4, d5, d6, d7, d8], [], h) h' (some (.int r)) := by
  intro n
  induction n with
  | zero => intro h a0 a1 a2 a3 a4 d5 d6 d7 d8 e; exact nomatch e
  | succ n ih =>
    intro h a0 a1 a2 a3 a4 d5 d6 d7 d8 e
    exact f_Sim_isSame_b421_ev d hd k409 _ hk409 (fun h a0 a1 a2 a3 a4 d5 d6 d7 d8 e => ih h a0 a1 a2 a3 a4 d5 d6 d7 d8 e) h a0 a1 a2 a3 a4 d5 d6 d7 d8 e
set_option maxRecDepth 100000 in
set_option maxHeartbeats 4000000 in
theorem f_Sim_isSame_b409_ev {h' : AH} {r : Int32} (d : Nat) (hd : 5 ≤ d) (k409 : AH → Nat → Nat → Int32 → Int32 → Option (AH × Int32)) (hk409 : ∀ (h : AH) (a0 : Nat) (a1 : Nat) (a2 : Int32) (a3 : Int32)  (d4 : Value) (d5 : Value) (d6 : Value) (d7 : Value) (d8 : Value), k409 h a0 a1 a2 a3 = some (h', r) → Eb (Ev tb mL d) 21 (409, [.ref a0, .ref a1, .int a2, .int a3, d4, d5, d6, d7, d8], [], h) h' (some (.int r)))  (h : AH) (a0 : Nat) (a1 : Nat) (a2 : Int32) (a3 : Int32)  (d4 : Value) (d5 : Value) (d6 : Value) (d7 : Value) (d8 : Value) (e : f_Sim_isSame_b409 k409 h a0 a1 a2 a3 = some (h', r)) : Eb (Ev tb mL d) 21 (409, [.ref a0, .ref a1, .int a2, .int a3, d4, d5, d6, d7, d8], [], h) h' (some (.int r)) := by
  unfold f_Sim_isSame_b409 at e
  refine eb_n 2 (411, [.ref a0, .ref a1, .int a2, .int a3, d4, d5, d6, d7, d8], [.ref a0, .int a3], h) (rfl) ?_
  obtain ⟨g1, e⟩ := gd_some e
  refine eb_g (p := hT h a0 = 13) (414, [.ref a0, .ref a1, .int a2, .int a3, d4, d5, d6, d7, d8], [.ref (hR h a0 15), .int a3], h) rfl g1 ?_
  obtain ⟨g2, e⟩ := gd_some e
  refine eb_g (p := hT h (hR h a0 15) = 109) (415, [.ref a0, .ref a1, .int a2, .int a3, d4, d5, d6, d7, d8], [.int (nI (hL h (hR h a0 15))), .int a3], h) rfl g2 ?_
  refine eb_b (c := (nI (hL h (hR h a0 15))) ≤ a3) (472, [.ref a0, .ref a1, .int a2, .int a3, d4, d5, d6, d7, d8], [], h) (418, [.ref a0, .ref a1, .int a2, .int a3, d4, d5, d6, d7, d8], [], h) rfl (fun c3 => ?_) (fun c3 => ?_)
  · replace e := ite_t c3 e
    refine eb_n 2 (474, [.ref a0, .ref a1, .int a2, .int (nI 0), d4, d5, d6, d7, d8], [], h) (rfl) ?_
    exact f_Sim_isSame_l474_ev d hd   FU _ _ _ _ _ _ _ _ _ _ e
  · replace e := ite_f c3 e
    refine eb_n 2 (421, [.ref a0, .ref a1, .int a2, .int a3, .int (nI 0), d5, d6, d7, d8], [], h) (rfl) ?_
    exact f_Sim_isSame_l421_ev d hd k409 hk409 FU _ _ _ _ _ _ _ _ _ _ e
set_option maxRecDepth 100000 in
set_option maxHeartbeats 4000000 in
theorem f_Sim_isSame_l409_ev {h' : AH} {r : Int32} (d : Nat) (hd : 5 ≤ d)  : ∀ (n : Nat) (h : AH) (a0 : Nat) (a1 : Nat) (a2 : Int32) (a3 : Int32)  (d4 : Value) (d5 : Value) (d6 : Value) (d7 : Value) (d8 : Value) (_ : f_Sim_isSame_l409  n h a0 a1 a2 a3 = some (h', r)), Eb (Ev tb mL d) 21 (409, [.ref a0, .ref a1, .int a2, .int a3, d4, d5, d6, d7, d8], [], h) h' (some (.int r)) := by
  intro n
  induction n with
  | zero => intro h a0 a1 a2 a3 d4 d5 d6 d7 d8 e; exact nomatch e
  | succ n ih =>
    intro h a0 a1 a2 a3 d4 d5 d6 d7 d8 e
    exact f_Sim_isSame_b409_ev d hd _ (fun h a0 a1 a2 a3 d4 d5 d6 d7 d8 e => ih h a0 a1 a2 a3 d4 d5 d6 d7 d8 e) h a0 a1 a2 a3 d4 d5 d6 d7 d8 e
set_option maxRecDepth 100000 in
set_option maxHeartbeats 4000000 in
theorem f_Sim_isSame_b346_ev {h' : AH} {r : Int32} (d : Nat) (hd : 5 ≤ d) (k184 : AH → Nat → Nat → Int32 → Int32 → Option (AH × Int32)) (k320 : AH → Nat → Nat → Int32 → Int32 → Int32 → Option (AH × Int32)) (k346 : AH → Nat → Nat → Int32 → Int32 → Int32 → Nat → Int32 → Option (AH × Int32)) (hk184 : ∀ (h : AH) (a0 : Nat) (a1 : Nat) (a2 : Int32) (a3 : Int32)  (d4 : Value) (d5 : Value) (d6 : Value) (d7 : Value) (d8 : Value), k184 h a0 a1 a2 a3 = some (h', r) → Eb (Ev tb mL d) 21 (184, [.ref a0, .ref a1, .int a2, .int a3, d4, d5, d6, d7, d8], [], h) h' (some (.int r))) (hk320 : ∀ (h : AH) (a0 : Nat) (a1 : Nat) (a2 : Int32) (a3 : Int32) (a6 : Int32)  (d4 : Value) (d5 : Value) (d7 : Value) (d8 : Value), k320 h a0 a1 a2 a3 a6 = some (h', r) → Eb (Ev tb mL d) 21 (320, [.ref a0, .ref a1, .int a2, .int a3, d4, d5, .int a6, d7, d8], [], h) h' (some (.int r))) (hk346 : ∀ (h : AH) (a0 : Nat) (a1 : Nat) (a2 : Int32) (a3 : Int32) (a6 : Int32) (a7 : Nat) (a8 : Int32)  (d4 : Value) (d5 : Value), k346 h a0 a1 a2 a3 a6 a7 a8 = some (h', r) → Eb (Ev tb mL d) 21 (346, [.ref a0, .ref a1, .int a2, .int a3, d4, d5, .int a6, .ref a7, .int a8], [], h) h' (some (.int r)))  (h : AH) (a0 : Nat) (a1 : Nat) (a2 : Int32) (a3 : Int32) (a6 : Int32) (a7 : Nat) (a8 : Int32)  (d4 : Value) (d5 : Value) (e : f_Sim_isSame_b346 k184 k320 k346 h a0 a1 a2 a3 a6 a7 a8 = some (h', r)) : Eb (Ev tb mL d) 21 (346, [.ref a0, .ref a1, .int a2, .int a3, d4, d5, .int a6, .ref a7, .int a8], [], h) h' (some (.int r)) := by
  unfold f_Sim_isSame_b346 at e
  refine eb_n 2 (349, [.ref a0, .ref a1, .int a2, .int a3, d4, d5, .int a6, .ref a7, .int a8], [.int (nI 4), .int a8], h) (rfl) ?_
  refine eb_b (c := (nI 4) ≤ a8) (377, [.ref a0, .ref a1, .int a2, .int a3, d4, d5, .int a6, .ref a7, .int a8], [], h) (352, [.ref a0, .ref a1, .int a2, .int a3, d4, d5, .int a6, .ref a7, .int a8], [], h) rfl (fun c1 => ?_) (fun c1 => ?_)
  · replace e := ite_t c1 e
    refine eb_n 4 (382, [.ref a0, .ref a1, .int a2, .int a3, d4, d5, .int a6, .ref a7, .int a8], [.int (nI 4), .int a6, .int a3, .ref a1], h) (rfl) ?_
    obtain ⟨g2, e⟩ := gd_some e
    obtain ⟨h3, r4, eh3, e⟩ := bn_some e
    refine eb_cg (p := hT h a1 = 1) rfl g2 (f_QuillBoats_bundle_ev d (Nat.le_trans (by decide) hd) eh3) ?_
    show Eb _ 21 (385, [.ref a0, .ref a1, .int a2, .int a3, d4, d5, .int a6, .ref a7, .int a8], [.int r4], h3) _ _
    refine eb_n 1 (387, [.ref a0, .ref a1, .int a2, .int a3, d4, d5, .int a6, .ref a7, .int a8], [.ref a7, .int r4], h3) (rfl) ?_
    obtain ⟨h5, r6, eh5, e⟩ := bn_some e
    refine eb_c rfl (f_Sim_grade_ev d (Nat.le_trans (by decide) hd) eh5) ?_
    show Eb _ 21 (390, [.ref a0, .ref a1, .int a2, .int a3, d4, d5, .int a6, .ref a7, .int a8], [.int r6, .int r4], h5) _ _
    refine eb_b (c := r4 = r6) (395, [.ref a0, .ref a1, .int a2, .int a3, d4, d5, .int a6, .ref a7, .int a8], [], h5) (393, [.ref a0, .ref a1, .int a2, .int a3, d4, d5, .int a6, .ref a7, .int a8], [], h5) rfl (fun c7 => ?_) (fun c7 => ?_)
    · replace e := ite_t c7 e
      obtain ⟨x8, hx8, e⟩ := lq_some e
      refine eb_n 1 (398, [.ref a0, .ref a1, .int a2, .int a3, d4, d5, .int x8, .ref a7, .int a8], [], h5) (by subst hx8; rfl) ?_
      refine eb_n 1 (320, [.ref a0, .ref a1, .int a2, .int a3, d4, d5, .int x8, .ref a7, .int a8], [], h5) (rfl) ?_
      exact hk320 _ _ _ _ _ _ _ _ _ _ e
    · replace e := ite_f c7 e
      refine eb_n 1 (394, [.ref a0, .ref a1, .int a2, .int a3, d4, d5, .int a6, .ref a7, .int a8], [.int (nI 0)], h5) (rfl) ?_
      rw [(sp_inj e).1, (sp_inj e).2]
      exact eb_rg (p := nrm 3 (nI 0)) rfl nrm_30
  · replace e := ite_f c1 e
    refine eb_n 4 (358, [.ref a0, .ref a1, .int a2, .int a3, d4, d5, .int a6, .ref a7, .int a8], [.int a8, .int a6, .int a3, .ref a1], h) (rfl) ?_
    obtain ⟨g9, e⟩ := gd_some e
    obtain ⟨h10, r11, eh10, e⟩ := bn_some e
    refine eb_cg (p := hT h a1 = 1) rfl g9 (f_QuillBoats_bundle_ev d (Nat.le_trans (by decide) hd) eh10) ?_
    show Eb _ 21 (361, [.ref a0, .ref a1, .int a2, .int a3, d4, d5, .int a6, .ref a7, .int a8], [.int r11], h10) _ _
    refine eb_n 2 (365, [.ref a0, .ref a1, .int a2, .int a3, d4, d5, .int a6, .ref a7, .int a8], [.int a8, .ref a7, .int r11], h10) (rfl) ?_
    obtain ⟨g12, e⟩ := gd_some e
    refine eb_g (p := hT h10 a7 = 101 ∧ inb a8 (hL h10 a7)) (366, [.ref a0, .ref a1, .int a2, .int a3, d4, d5, .int a6, .ref a7, .int a8], [.int (hI h10 a7 (ix a8)), .int r11], h10) rfl g12 ?_
    refine eb_b (c := r11 = (hI h10 a7 (ix a8))) (371, [.ref a0, .ref a1, .int a2, .int a3, d4, d5, .int a6, .ref a7, .int a8], [], h10) (369, [.ref a0, .ref a1, .int a2, .int a3, d4, d5, .int a6, .ref a7, .int a8], [], h10) rfl (fun c13 => ?_) (fun c13 => ?_)
    · replace e := ite_t c13 e
      obtain ⟨x14, hx14, e⟩ := lq_some e
      refine eb_n 1 (374, [.ref a0, .ref a1, .int a2, .int a3, d4, d5, .int a6, .ref a7, .int x14], [], h10) (by subst hx14; rfl) ?_
      refine eb_n 1 (346, [.ref a0, .ref a1, .int a2, .int a3, d4, d5, .int a6, .ref a7, .int x14], [], h10) (rfl) ?_
      exact hk346 _ _ _ _ _ _ _ _ _ _ e
    · replace e := ite_f c13 e
      refine eb_n 1 (370, [.ref a0, .ref a1, .int a2, .int a3, d4, d5, .int a6, .ref a7, .int a8], [.int (nI 0)], h10) (rfl) ?_
      rw [(sp_inj e).1, (sp_inj e).2]
      exact eb_rg (p := nrm 3 (nI 0)) rfl nrm_30
set_option maxRecDepth 100000 in
set_option maxHeartbeats 4000000 in
theorem f_Sim_isSame_l346_ev {h' : AH} {r : Int32} (d : Nat) (hd : 5 ≤ d) (k184 : AH → Nat → Nat → Int32 → Int32 → Option (AH × Int32)) (k320 : AH → Nat → Nat → Int32 → Int32 → Int32 → Option (AH × Int32)) (hk184 : ∀ (h : AH) (a0 : Nat) (a1 : Nat) (a2 : Int32) (a3 : Int32)  (d4 : Value) (d5 : Value) (d6 : Value) (d7 : Value) (d8 : Value), k184 h a0 a1 a2 a3 = some (h', r) → Eb (Ev tb mL d) 21 (184, [.ref a0, .ref a1, .int a2, .int a3, d4, d5, d6, d7, d8], [], h) h' (some (.int r))) (hk320 : ∀ (h : AH) (a0 : Nat) (a1 : Nat) (a2 : Int32) (a3 : Int32) (a6 : Int32)  (d4 : Value) (d5 : Value) (d7 : Value) (d8 : Value), k320 h a0 a1 a2 a3 a6 = some (h', r) → Eb (Ev tb mL d) 21 (320, [.ref a0, .ref a1, .int a2, .int a3, d4, d5, .int a6, d7, d8], [], h) h' (some (.int r)))  : ∀ (n : Nat) (h : AH) (a0 : Nat) (a1 : Nat) (a2 : Int32) (a3 : Int32) (a6 : Int32) (a7 : Nat) (a8 : Int32)  (d4 : Value) (d5 : Value) (_ : f_Sim_isSame_l346 k184 k320 n h a0 a1 a2 a3 a6 a7 a8 = some (h', r)), Eb (Ev tb mL d) 21 (346, [.ref a0, .ref a1, .int a2, .int a3, d4, d5, .int a6, .ref a7, .int a8], [], h) h' (some (.int r)) := by
  intro n
  induction n with
  | zero => intro h a0 a1 a2 a3 a6 a7 a8 d4 d5 e; exact nomatch e
  | succ n ih =>
    intro h a0 a1 a2 a3 a6 a7 a8 d4 d5 e
    exact f_Sim_isSame_b346_ev d hd k184 k320 _ hk184 hk320 (fun h a0 a1 a2 a3 a6 a7 a8 d4 d5 e => ih h a0 a1 a2 a3 a6 a7 a8 d4 d5 e) h a0 a1 a2 a3 a6 a7 a8 d4 d5 e
set_option maxRecDepth 100000 in
set_option maxHeartbeats 4000000 in
theorem f_Sim_isSame_b320_ev {h' : AH} {r : Int32} (d : Nat) (hd : 5 ≤ d) (k184 : AH → Nat → Nat → Int32 → Int32 → Option (AH × Int32)) (k320 : AH → Nat → Nat → Int32 → Int32 → Int32 → Option (AH × Int32)) (hk184 : ∀ (h : AH) (a0 : Nat) (a1 : Nat) (a2 : Int32) (a3 : Int32)  (d4 : Value) (d5 : Value) (d6 : Value) (d7 : Value) (d8 : Value), k184 h a0 a1 a2 a3 = some (h', r) → Eb (Ev tb mL d) 21 (184, [.ref a0, .ref a1, .int a2, .int a3, d4, d5, d6, d7, d8], [], h) h' (some (.int r))) (hk320 : ∀ (h : AH) (a0 : Nat) (a1 : Nat) (a2 : Int32) (a3 : Int32) (a6 : Int32)  (d4 : Value) (d5 : Value) (d7 : Value) (d8 : Value), k320 h a0 a1 a2 a3 a6 = some (h', r) → Eb (Ev tb mL d) 21 (320, [.ref a0, .ref a1, .int a2, .int a3, d4, d5, .int a6, d7, d8], [], h) h' (some (.int r)))  (h : AH) (a0 : Nat) (a1 : Nat) (a2 : Int32) (a3 : Int32) (a6 : Int32)  (d4 : Value) (d5 : Value) (d7 : Value) (d8 : Value) (e : f_Sim_isSame_b320 k184 k320 h a0 a1 a2 a3 a6 = some (h', r)) : Eb (Ev tb mL d) 21 (320, [.ref a0, .ref a1, .int a2, .int a3, d4, d5, .int a6, d7, d8], [], h) h' (some (.int r)) := by
  unfold f_Sim_isSame_b320 at e
  refine eb_n 2 (323, [.ref a0, .ref a1, .int a2, .int a3, d4, d5, .int a6, d7, d8], [.ref a0, .int a6], h) (rfl) ?_
  obtain ⟨g1, e⟩ := gd_some e
  refine eb_g (p := hT h a0 = 13) (326, [.ref a0, .ref a1, .int a2, .int a3, d4, d5, .int a6, d7, d8], [.ref (hR h a0 14), .int a6], h) rfl g1 ?_
  refine eb_n 1 (327, [.ref a0, .ref a1, .int a2, .int a3, d4, d5, .int a6, d7, d8], [.int a3, .ref (hR h a0 14), .int a6], h) (rfl) ?_
  obtain ⟨g2, e⟩ := gd_some e
  refine eb_g (p := hT h (hR h a0 14) = 110 ∧ inb a3 (hL h (hR h a0 14))) (328, [.ref a0, .ref a1, .int a2, .int a3, d4, d5, .int a6, d7, d8], [.ref (hR h (hR h a0 14) (ix a3)), .int a6], h) rfl g2 ?_
  obtain ⟨g3, e⟩ := gd_some e
  refine eb_g (p := hT h (hR h (hR h a0 14) (ix a3)) = 109) (329, [.ref a0, .ref a1, .int a2, .int a3, d4, d5, .int a6, d7, d8], [.int (nI (hL h (hR h (hR h a0 14) (ix a3)))), .int a6], h) rfl g3 ?_
  refine eb_b (c := (nI (hL h (hR h (hR h a0 14) (ix a3)))) ≤ a6) (401, [.ref a0, .ref a1, .int a2, .int a3, d4, d5, .int a6, d7, d8], [], h) (332, [.ref a0, .ref a1, .int a2, .int a3, d4, d5, .int a6, d7, d8], [], h) rfl (fun c4 => ?_) (fun c4 => ?_)
  · replace e := ite_t c4 e
    obtain ⟨x5, hx5, e⟩ := lq_some e
    refine eb_n 1 (404, [.ref a0, .ref a1, .int a2, .int x5, d4, d5, .int a6, d7, d8], [], h) (by subst hx5; rfl) ?_
    refine eb_n 1 (184, [.ref a0, .ref a1, .int a2, .int x5, d4, d5, .int a6, d7, d8], [], h) (rfl) ?_
    exact hk184 _ _ _ _ _ _ _ _ _ _ e
  · replace e := ite_f c4 e
    refine eb_n 1 (333, [.ref a0, .ref a1, .int a2, .int a3, d4, d5, .int a6, d7, d8], [.ref a0], h) (rfl) ?_
    refine eb_g (p := hT h a0 = 13) (336, [.ref a0, .ref a1, .int a2, .int a3, d4, d5, .int a6, d7, d8], [.ref (hR h a0 14)], h) rfl g1 ?_
    refine eb_n 1 (337, [.ref a0, .ref a1, .int a2, .int a3, d4, d5, .int a6, d7, d8], [.int a3, .ref (hR h a0 14)], h) (rfl) ?_
    refine eb_g (p := hT h (hR h a0 14) = 110 ∧ inb a3 (hL h (hR h a0 14))) (338, [.ref a0, .ref a1, .int a2, .int a3, d4, d5, .int a6, d7, d8], [.ref (hR h (hR h a0 14) (ix a3))], h) rfl g2 ?_
    refine eb_n 1 (340, [.ref a0, .ref a1, .int a2, .int a3, d4, d5, .int a6, d7, d8], [.int a6, .ref (hR h (hR h a0 14) (ix a3))], h) (rfl) ?_
    obtain ⟨g6, e⟩ := gd_some e
    refine eb_g (p := hT h (hR h (hR h a0 14) (ix a3)) = 109 ∧ inb a6 (hL h (hR h (hR h a0 14) (ix a3)))) (341, [.ref a0, .ref a1, .int a2, .int a3, d4, d5, .int a6, d7, d8], [.ref (hR h (hR h (hR h a0 14) (ix a3)) (ix a6))], h) rfl g6 ?_
    obtain ⟨x7, hx7, e⟩ := lq_some e
    refine eb_n 1 (343, [.ref a0, .ref a1, .int a2, .int a3, d4, d5, .int a6, .ref x7, d8], [], h) (by subst hx7; rfl) ?_
    refine eb_n 2 (346, [.ref a0, .ref a1, .int a2, .int a3, d4, d5, .int a6, .ref x7, .int (nI 0)], [], h) (rfl) ?_
    exact f_Sim_isSame_l346_ev d hd k184 k320 hk184 hk320 FU _ _ _ _ _ _ _ _ _ _ e
set_option maxRecDepth 100000 in
set_option maxHeartbeats 4000000 in
theorem f_Sim_isSame_l320_ev {h' : AH} {r : Int32} (d : Nat) (hd : 5 ≤ d) (k184 : AH → Nat → Nat → Int32 → Int32 → Option (AH × Int32)) (hk184 : ∀ (h : AH) (a0 : Nat) (a1 : Nat) (a2 : Int32) (a3 : Int32)  (d4 : Value) (d5 : Value) (d6 : Value) (d7 : Value) (d8 : Value), k184 h a0 a1 a2 a3 = some (h', r) → Eb (Ev tb mL d) 21 (184, [.ref a0, .ref a1, .int a2, .int a3, d4, d5, d6, d7, d8], [], h) h' (some (.int r)))  : ∀ (n : Nat) (h : AH) (a0 : Nat) (a1 : Nat) (a2 : Int32) (a3 : Int32) (a6 : Int32)  (d4 : Value) (d5 : Value) (d7 : Value) (d8 : Value) (_ : f_Sim_isSame_l320 k184 n h a0 a1 a2 a3 a6 = some (h', r)), Eb (Ev tb mL d) 21 (320, [.ref a0, .ref a1, .int a2, .int a3, d4, d5, .int a6, d7, d8], [], h) h' (some (.int r)) := by
  intro n
  induction n with
  | zero => intro h a0 a1 a2 a3 a6 d4 d5 d7 d8 e; exact nomatch e
  | succ n ih =>
    intro h a0 a1 a2 a3 a6 d4 d5 d7 d8 e
    exact f_Sim_isSame_b320_ev d hd k184 _ hk184 (fun h a0 a1 a2 a3 a6 d4 d5 d7 d8 e => ih h a0 a1 a2 a3 a6 d4 d5 d7 d8 e) h a0 a1 a2 a3 a6 d4 d5 d7 d8 e
set_option maxRecDepth 100000 in
set_option maxHeartbeats 4000000 in
theorem f_Sim_isSame_b288_ev {h' : AH} {r : Int32} (d : Nat) (hd : 5 ≤ d) (k184 : AH → Nat → Nat → Int32 → Int32 → Option (AH × Int32)) (k288 : AH → Nat → Nat → Int32 → Int32 → Nat → Int32 → Option (AH × Int32)) (hk184 : ∀ (h : AH) (a0 : Nat) (a1 : Nat) (a2 : Int32) (a3 : Int32)  (d4 : Value) (d5 : Value) (d6 : Value) (d7 : Value) (d8 : Value), k184 h a0 a1 a2 a3 = some (h', r) → Eb (Ev tb mL d) 21 (184, [.ref a0, .ref a1, .int a2, .int a3, d4, d5, d6, d7, d8], [], h) h' (some (.int r))) (hk288 : ∀ (h : AH) (a0 : Nat) (a1 : Nat) (a2 : Int32) (a3 : Int32) (a5 : Nat) (a6 : Int32)  (d4 : Value) (d7 : Value) (d8 : Value), k288 h a0 a1 a2 a3 a5 a6 = some (h', r) → Eb (Ev tb mL d) 21 (288, [.ref a0, .ref a1, .int a2, .int a3, d4, .ref a5, .int a6, d7, d8], [], h) h' (some (.int r)))  (h : AH) (a0 : Nat) (a1 : Nat) (a2 : Int32) (a3 : Int32) (a5 : Nat) (a6 : Int32)  (d4 : Value) (d7 : Value) (d8 : Value) (e : f_Sim_isSame_b288 k184 k288 h a0 a1 a2 a3 a5 a6 = some (h', r)) : Eb (Ev tb mL d) 21 (288, [.ref a0, .ref a1, .int a2, .int a3, d4, .ref a5, .int a6, d7, d8], [], h) h' (some (.int r)) := by
  unfold f_Sim_isSame_b288 at e
  refine eb_n 2 (291, [.ref a0, .ref a1, .int a2, .int a3, d4, .ref a5, .int a6, d7, d8], [.int (nI 4), .int a6], h) (rfl) ?_
  refine eb_b (c := (nI 4) ≤ a6) (317, [.ref a0, .ref a1, .int a2, .int a3, d4, .ref a5, .int a6, d7, d8], [], h) (294, [.ref a0, .ref a1, .int a2, .int a3, d4, .ref a5, .int a6, d7, d8], [], h) rfl (fun c1 => ?_) (fun c1 => ?_)
  · replace e := ite_t c1 e
    refine eb_n 2 (320, [.ref a0, .ref a1, .int a2, .int a3, d4, .ref a5, .int (nI 0), d7, d8], [], h) (rfl) ?_
    exact f_Sim_isSame_l320_ev d hd k184 hk184 FU _ _ _ _ _ _ _ _ _ _ e
  · replace e := ite_f c1 e
    refine eb_n 3 (298, [.ref a0, .ref a1, .int a2, .int a3, d4, .ref a5, .int a6, d7, d8], [.int a6, .int a3, .ref a1], h) (rfl) ?_
    obtain ⟨g2, e⟩ := gd_some e
    obtain ⟨h3, r4, eh3, e⟩ := bn_some e
    refine eb_cg (p := hT h a1 = 1) rfl g2 (f_QuillBoats_rack_ev d (Nat.le_trans (by decide) hd) eh3) ?_
    show Eb _ 21 (301, [.ref a0, .ref a1, .int a2, .int a3, d4, .ref a5, .int a6, d7, d8], [.int r4], h3) _ _
    refine eb_n 2 (305, [.ref a0, .ref a1, .int a2, .int a3, d4, .ref a5, .int a6, d7, d8], [.int a6, .ref a5, .int r4], h3) (rfl) ?_
    obtain ⟨g5, e⟩ := gd_some e
    refine eb_g (p := hT h3 a5 = 101 ∧ inb a6 (hL h3 a5)) (306, [.ref a0, .ref a1, .int a2, .int a3, d4, .ref a5, .int a6, d7, d8], [.int (hI h3 a5 (ix a6)), .int r4], h3) rfl g5 ?_
    refine eb_b (c := r4 = (hI h3 a5 (ix a6))) (311, [.ref a0, .ref a1, .int a2, .int a3, d4, .ref a5, .int a6, d7, d8], [], h3) (309, [.ref a0, .ref a1, .int a2, .int a3, d4, .ref a5, .int a6, d7, d8], [], h3) rfl (fun c6 => ?_) (fun c6 => ?_)
    · replace e := ite_t c6 e
      obtain ⟨x7, hx7, e⟩ := lq_some e
      refine eb_n 1 (314, [.ref a0, .ref a1, .int a2, .int a3, d4, .ref a5, .int x7, d7, d8], [], h3) (by subst hx7; rfl) ?_
      refine eb_n 1 (288, [.ref a0, .ref a1, .int a2, .int a3, d4, .ref a5, .int x7, d7, d8], [], h3) (rfl) ?_
      exact hk288 _ _ _ _ _ _ _ _ _ _ e
    · replace e := ite_f c6 e
      refine eb_n 1 (310, [.ref a0, .ref a1, .int a2, .int a3, d4, .ref a5, .int a6, d7, d8], [.int (nI 0)], h3) (rfl) ?_
      rw [(sp_inj e).1, (sp_inj e).2]
      exact eb_rg (p := nrm 3 (nI 0)) rfl nrm_30
set_option maxRecDepth 100000 in
set_option maxHeartbeats 4000000 in
theorem f_Sim_isSame_l288_ev {h' : AH} {r : Int32} (d : Nat) (hd : 5 ≤ d) (k184 : AH → Nat → Nat → Int32 → Int32 → Option (AH × Int32)) (hk184 : ∀ (h : AH) (a0 : Nat) (a1 : Nat) (a2 : Int32) (a3 : Int32)  (d4 : Value) (d5 : Value) (d6 : Value) (d7 : Value) (d8 : Value), k184 h a0 a1 a2 a3 = some (h', r) → Eb (Ev tb mL d) 21 (184, [.ref a0, .ref a1, .int a2, .int a3, d4, d5, d6, d7, d8], [], h) h' (some (.int r)))  : ∀ (n : Nat) (h : AH) (a0 : Nat) (a1 : Nat) (a2 : Int32) (a3 : Int32) (a5 : Nat) (a6 : Int32)  (d4 : Value) (d7 : Value) (d8 : Value) (_ : f_Sim_isSame_l288 k184 n h a0 a1 a2 a3 a5 a6 = some (h', r)), Eb (Ev tb mL d) 21 (288, [.ref a0, .ref a1, .int a2, .int a3, d4, .ref a5, .int a6, d7, d8], [], h) h' (some (.int r)) := by
  intro n
  induction n with
  | zero => intro h a0 a1 a2 a3 a5 a6 d4 d7 d8 e; exact nomatch e
  | succ n ih =>
    intro h a0 a1 a2 a3 a5 a6 d4 d7 d8 e
    exact f_Sim_isSame_b288_ev d hd k184 _ hk184 (fun h a0 a1 a2 a3 a5 a6 d4 d7 d8 e => ih h a0 a1 a2 a3 a5 a6 d4 d7 d8 e) h a0 a1 a2 a3 a5 a6 d4 d7 d8 e
set_option maxRecDepth 100000 in
set_option maxHeartbeats 4000000 in
theorem f_Sim_isSame_b239_ev {h' : AH} {r : Int32} (d : Nat) (hd : 5 ≤ d) (k184 : AH → Nat → Nat → Int32 → Int32 → Option (AH × Int32)) (k210 : AH → Nat → Nat → Int32 → Int32 → Int32 → Nat → Int32 → Int32 → Option (AH × Int32)) (hk184 : ∀ (h : AH) (a0 : Nat) (a1 : Nat) (a2 : Int32) (a3 : Int32)  (d4 : Value) (d5 : Value) (d6 : Value) (d7 : Value) (d8 : Value), k184 h a0 a1 a2 a3 = some (h', r) → Eb (Ev tb mL d) 21 (184, [.ref a0, .ref a1, .int a2, .int a3, d4, d5, d6, d7, d8], [], h) h' (some (.int r))) (hk210 : ∀ (h : AH) (a0 : Nat) (a1 : Nat) (a2 : Int32) (a3 : Int32) (a4 : Int32) (a5 : Nat) (a6 : Int32) (a7 : Int32)  (d8 : Value), k210 h a0 a1 a2 a3 a4 a5 a6 a7 = some (h', r) → Eb (Ev tb mL d) 21 (210, [.ref a0, .ref a1, .int a2, .int a3, .int a4, .ref a5, .int a6, .int a7, d8], [], h) h' (some (.int r)))  (h : AH) (a0 : Nat) (a1 : Nat) (a2 : Int32) (a3 : Int32) (a5 : Nat) (a6 : Int32) (a7 : Int32) (s0 : Int32) (s1 : Int32) (d4 : Value) (d8 : Value) (e : f_Sim_isSame_b239 k184 k210 h a0 a1 a2 a3 a5 a6 a7 s0 s1 = some (h', r)) : Eb (Ev tb mL d) 21 (239, [.ref a0, .ref a1, .int a2, .int a3, d4, .ref a5, .int a6, .int a7, d8], [.int s1, .int s0], h) h' (some (.int r)) := by
  unfold f_Sim_isSame_b239 at e
  obtain ⟨x1, hx1, e⟩ := lq_some e
  refine eb_n 2 (242, [.ref a0, .ref a1, .int a2, .int a3, .int x1, .ref a5, .int a6, .int a7, d8], [], h) (by subst hx1; rfl) ?_
  obtain ⟨x2, hx2, e⟩ := lq_some e
  refine eb_n 1 (245, [.ref a0, .ref a1, .int a2, .int a3, .int x1, .ref a5, .int a6, .int x2, d8], [], h) (by subst hx2; rfl) ?_
  refine eb_n 1 (210, [.ref a0, .ref a1, .int a2, .int a3, .int x1, .ref a5, .int a6, .int x2, d8], [], h) (rfl) ?_
  exact hk210 _ _ _ _ _ _ _ _ _ _ e
set_option maxRecDepth 100000 in
set_option maxHeartbeats 4000000 in
theorem f_Sim_isSame_b210_ev {h' : AH} {r : Int32} (d : Nat) (hd : 5 ≤ d) (k184 : AH → Nat → Nat → Int32 → Int32 → Option (AH × Int32)) (k210 : AH → Nat → Nat → Int32 → Int32 → Int32 → Nat → Int32 → Int32 → Option (AH × Int32)) (hk184 : ∀ (h : AH) (a0 : Nat) (a1 : Nat) (a2 : Int32) (a3 : Int32)  (d4 : Value) (d5 : Value) (d6 : Value) (d7 : Value) (d8 : Value), k184 h a0 a1 a2 a3 = some (h', r) → Eb (Ev tb mL d) 21 (184, [.ref a0, .ref a1, .int a2, .int a3, d4, d5, d6, d7, d8], [], h) h' (some (.int r))) (hk210 : ∀ (h : AH) (a0 : Nat) (a1 : Nat) (a2 : Int32) (a3 : Int32) (a4 : Int32) (a5 : Nat) (a6 : Int32) (a7 : Int32)  (d8 : Value), k210 h a0 a1 a2 a3 a4 a5 a6 a7 = some (h', r) → Eb (Ev tb mL d) 21 (210, [.ref a0, .ref a1, .int a2, .int a3, .int a4, .ref a5, .int a6, .int a7, d8], [], h) h' (some (.int r)))  (h : AH) (a0 : Nat) (a1 : Nat) (a2 : Int32) (a3 : Int32) (a4 : Int32) (a5 : Nat) (a6 : Int32) (a7 : Int32)  (d8 : Value) (e : f_Sim_isSame_b210 k184 k210 h a0 a1 a2 a3 a4 a5 a6 a7 = some (h', r)) : Eb (Ev tb mL d) 21 (210, [.ref a0, .ref a1, .int a2, .int a3, .int a4, .ref a5, .int a6, .int a7, d8], [], h) h' (some (.int r)) := by
  unfold f_Sim_isSame_b210 at e
  refine eb_n 2 (214, [.ref a0, .ref a1, .int a2, .int a3, .int a4, .ref a5, .int a6, .int a7, d8], [.int a6, .int a7], h) (rfl) ?_
  refine eb_b (c := a6 ≤ a7) (248, [.ref a0, .ref a1, .int a2, .int a3, .int a4, .ref a5, .int a6, .int a7, d8], [], h) (217, [.ref a0, .ref a1, .int a2, .int a3, .int a4, .ref a5, .int a6, .int a7, d8], [], h) rfl (fun c1 => ?_) (fun c1 => ?_)
  · replace e := ite_t c1 e
    refine eb_n 1 (249, [.ref a0, .ref a1, .int a2, .int a3, .int a4, .ref a5, .int a6, .int a7, d8], [.int (nI 4)], h) (rfl) ?_
    obtain ⟨h2, eh2, e⟩ := lq_some e
    refine eb_g (p := ¬ (nI 4) < 0 ∧ ix (nI 4) ≤ 65536) (251, [.ref a0, .ref a1, .int a2, .int a3, .int a4, .ref a5, .int a6, .int a7, d8], [.ref (hN h)], h2) (by rw [eh2]; rfl) (by decide) ?_
    refine eb_n 3 (254, [.ref a0, .ref a1, .int a2, .int a3, .int a4, .ref a5, .int a6, .int a7, d8], [.ref a0, .int (nI 0), .ref (hN h), .ref (hN h)], h2) (rfl) ?_
    obtain ⟨g3, e⟩ := gd_some e
    refine eb_g (p := hT h2 a0 = 13) (257, [.ref a0, .ref a1, .int a2, .int a3, .int a4, .ref a5, .int a6, .int a7, d8], [.ref (hR h2 a0 13), .int (nI 0), .ref (hN h), .ref (hN h)], h2) rfl g3 ?_
    refine eb_n 1 (258, [.ref a0, .ref a1, .int a2, .int a3, .int a4, .ref a5, .int a6, .int a7, d8], [.int a3, .ref (hR h2 a0 13), .int (nI 0), .ref (hN h), .ref (hN h)], h2) (rfl) ?_
    obtain ⟨g4, e⟩ := gd_some e
    refine eb_g (p := hT h2 (hR h2 a0 13) = 101 ∧ inb a3 (hL h2 (hR h2 a0 13))) (259, [.ref a0, .ref a1, .int a2, .int a3, .int a4, .ref a5, .int a6, .int a7, d8], [.int (hI h2 (hR h2 a0 13) (ix a3)), .int (nI 0), .ref (hN h), .ref (hN h)], h2) rfl g4 ?_
    obtain ⟨g5, e⟩ := gd_some e
    obtain ⟨h6, eh6, e⟩ := lq_some e
    refine eb_g (p := hT h2 (hN h) = 101 ∧ inb (nI 0) (hL h2 (hN h))) (260, [.ref a0, .ref a1, .int a2, .int a3, .int a4, .ref a5, .int a6, .int a7, d8], [.ref (hN h)], h6) (by rw [eh6]; rfl) g5 ?_
    refine eb_n 4 (264, [.ref a0, .ref a1, .int a2, .int a3, .int a4, .ref a5, .int a6, .int a7, d8], [.int a3, .ref a0, .int (nI 1), .ref (hN h), .ref (hN h)], h6) (rfl) ?_
    obtain ⟨g7, e⟩ := gd_some e
    obtain ⟨h8, r9, eh8, e⟩ := bn_some e
    refine eb_cg (p := hT h6 a0 = 13) rfl g7 (f_Sim_room_ev d (Nat.le_trans (by decide) hd) eh8) ?_
    show Eb _ 21 (267, [.ref a0, .ref a1, .int a2, .int a3, .int a4, .ref a5, .int a6, .int a7, d8], [.int r9, .int (nI 1), .ref (hN h), .ref (hN h)], h8) _ _
    obtain ⟨g10, e⟩ := gd_some e
    obtain ⟨h11, eh11, e⟩ := lq_some e
    refine eb_g (p := hT h8 (hN h) = 101 ∧ inb (nI 1) (hL h8 (hN h))) (268, [.ref a0, .ref a1, .int a2, .int a3, .int a4, .ref a5, .int a6, .int a7, d8], [.ref (hN h)], h11) (by rw [eh11]; rfl) g10 ?_
    refine eb_n 3 (271, [.ref a0, .ref a1, .int a2, .int a3, .int a4, .ref a5, .int a6, .int a7, d8], [.ref a0, .int (nI 2), .ref (hN h), .ref (hN h)], h11) (rfl) ?_
    obtain ⟨g12, e⟩ := gd_some e
    refine eb_g (p := hT h11 a0 = 13) (274, [.ref a0, .ref a1, .int a2, .int a3, .int a4, .ref a5, .int a6, .int a7, d8], [.ref (hR h11 a0 14), .int (nI 2), .ref (hN h), .ref (hN h)], h11) rfl g12 ?_
    refine eb_n 1 (275, [.ref a0, .ref a1, .int a2, .int a3, .int a4, .ref a5, .int a6, .int a7, d8], [.int a3, .ref (hR h11 a0 14), .int (nI 2), .ref (hN h), .ref (hN h)], h11) (rfl) ?_
    obtain ⟨g13, e⟩ := gd_some e
    refine eb_g (p := hT h11 (hR h11 a0 14) = 110 ∧ inb a3 (hL h11 (hR h11 a0 14))) (276, [.ref a0, .ref a1, .int a2, .int a3, .int a4, .ref a5, .int a6, .int a7, d8], [.ref (hR h11 (hR h11 a0 14) (ix a3)), .int (nI 2), .ref (hN h), .ref (hN h)], h11) rfl g13 ?_
    obtain ⟨g14, e⟩ := gd_some e
    refine eb_g (p := hT h11 (hR h11 (hR h11 a0 14) (ix a3)) = 109) (277, [.ref a0, .ref a1, .int a2, .int a3, .int a4, .ref a5, .int a6, .int a7, d8], [.int (nI (hL h11 (hR h11 (hR h11 a0 14) (ix a3)))), .int (nI 2), .ref (hN h), .ref (hN h)], h11) rfl g14 ?_
    obtain ⟨g15, e⟩ := gd_some e
    obtain ⟨h16, eh16, e⟩ := lq_some e
    refine eb_g (p := hT h11 (hN h) = 101 ∧ inb (nI 2) (hL h11 (hN h))) (278, [.ref a0, .ref a1, .int a2, .int a3, .int a4, .ref a5, .int a6, .int a7, d8], [.ref (hN h)], h16) (by rw [eh16]; rfl) g15 ?_
    refine eb_n 3 (282, [.ref a0, .ref a1, .int a2, .int a3, .int a4, .ref a5, .int a6, .int a7, d8], [.int a4, .int (nI 3), .ref (hN h), .ref (hN h)], h16) (rfl) ?_
    obtain ⟨g17, e⟩ := gd_some e
    obtain ⟨h18, eh18, e⟩ := lq_some e
    refine eb_g (p := hT h16 (hN h) = 101 ∧ inb (nI 3) (hL h16 (hN h))) (283, [.ref a0, .ref a1, .int a2, .int a3, .int a4, .ref a5, .int a6, .int a7, d8], [.ref (hN h)], h18) (by rw [eh18]; rfl) g17 ?_
    obtain ⟨x19, hx19, e⟩ := lq_some e
    refine eb_n 1 (285, [.ref a0, .ref a1, .int a2, .int a3, .int a4, .ref x19, .int a6, .int a7, d8], [], h18) (by subst hx19; rfl) ?_
    refine eb_n 2 (288, [.ref a0, .ref a1, .int a2, .int a3, .int a4, .ref x19, .int (nI 0), .int a7, d8], [], h18) (rfl) ?_
    exact f_Sim_isSame_l288_ev d hd k184 hk184 FU _ _ _ _ _ _ _ _ _ _ e
  · replace e := ite_f c1 e
    refine eb_n 2 (221, [.ref a0, .ref a1, .int a2, .int a3, .int a4, .ref a5, .int a6, .int a7, d8], [.int a7, .ref a5], h) (rfl) ?_
    obtain ⟨g20, e⟩ := gd_some e
    refine eb_g (p := hT h a5 = 109 ∧ inb a7 (hL h a5)) (222, [.ref a0, .ref a1, .int a2, .int a3, .int a4, .ref a5, .int a6, .int a7, d8], [.ref (hR h a5 (ix a7))], h) rfl g20 ?_
    obtain ⟨x21, hx21, e⟩ := lq_some e
    refine eb_n 1 (224, [.ref a0, .ref a1, .int a2, .int a3, .int a4, .ref a5, .int a6, .int a7, .ref x21], [], h) (by subst hx21; rfl) ?_
    refine eb_n 3 (229, [.ref a0, .ref a1, .int a2, .int a3, .int a4, .ref a5, .int a6, .int a7, .ref x21], [.int (nI 1), .ref x21, .int a4], h) (rfl) ?_
    obtain ⟨g22, e⟩ := gd_some e
    refine eb_g (p := hT h x21 = 101 ∧ inb (nI 1) (hL h x21)) (230, [.ref a0, .ref a1, .int a2, .int a3, .int a4, .ref a5, .int a6, .int a7, .ref x21], [.int (hI h x21 (ix (nI 1))), .int a4], h) rfl g22 ?_
    refine eb_n 1 (231, [.ref a0, .ref a1, .int a2, .int a3, .int a4, .ref a5, .int a6, .int a7, .ref x21], [.int a3, .int (hI h x21 (ix (nI 1))), .int a4], h) (rfl) ?_
    refine eb_b (c := ¬ (hI h x21 (ix (nI 1))) = a3) (238, [.ref a0, .ref a1, .int a2, .int a3, .int a4, .ref a5, .int a6, .int a7, .ref x21], [.int a4], h) (234, [.ref a0, .ref a1, .int a2, .int a3, .int a4, .ref a5, .int a6, .int a7, .ref x21], [.int a4], h) rfl (fun c23 => ?_) (fun c23 => ?_)
    · replace e := ite_t c23 e
      refine eb_n 1 (239, [.ref a0, .ref a1, .int a2, .int a3, .int a4, .ref a5, .int a6, .int a7, .ref x21], [.int (nI 0), .int a4], h) (rfl) ?_
      exact f_Sim_isSame_b239_ev d hd k184 k210 hk184 hk210 _ _ _ _ _ _ _ _ _ _ _ _ e
    · replace e := ite_f c23 e
      refine eb_n 2 (239, [.ref a0, .ref a1, .int a2, .int a3, .int a4, .ref a5, .int a6, .int a7, .ref x21], [.int (nI 1), .int a4], h) (rfl) ?_
      exact f_Sim_isSame_b239_ev d hd k184 k210 hk184 hk210 _ _ _ _ _ _ _ _ _ _ _ _ e
set_option maxRecDepth 100000 in
set_option maxHeartbeats 4000000 in
theorem f_Sim_isSame_l210_ev {h' : AH} {r : Int32} (d : Nat) (hd : 5 ≤ d) (k184 : AH → Nat → Nat → Int32 → Int32 → Option (AH × Int32)) (hk184 : ∀ (h : AH) (a0 : Nat) (a1 : Nat) (a2 : Int32) (a3 : Int32)  (d4 : Value) (d5 : Value) (d6 : Value) (d7 : Value) (d8 : Value), k184 h a0 a1 a2 a3 = some (h', r) → Eb (Ev tb mL d) 21 (184, [.ref a0, .ref a1, .int a2, .int a3, d4, d5, d6, d7, d8], [], h) h' (some (.int r)))  : ∀ (n : Nat) (h : AH) (a0 : Nat) (a1 : Nat) (a2 : Int32) (a3 : Int32) (a4 : Int32) (a5 : Nat) (a6 : Int32) (a7 : Int32)  (d8 : Value) (_ : f_Sim_isSame_l210 k184 n h a0 a1 a2 a3 a4 a5 a6 a7 = some (h', r)), Eb (Ev tb mL d) 21 (210, [.ref a0, .ref a1, .int a2, .int a3, .int a4, .ref a5, .int a6, .int a7, d8], [], h) h' (some (.int r)) := by
  intro n
  induction n with
  | zero => intro h a0 a1 a2 a3 a4 a5 a6 a7 d8 e; exact nomatch e
  | succ n ih =>
    intro h a0 a1 a2 a3 a4 a5 a6 a7 d8 e
    exact f_Sim_isSame_b210_ev d hd k184 _ hk184 (fun h a0 a1 a2 a3 a4 a5 a6 a7 d8 e => ih h a0 a1 a2 a3 a4 a5 a6 a7 d8 e) h a0 a1 a2 a3 a4 a5 a6 a7 d8 e
set_option maxRecDepth 100000 in
set_option maxHeartbeats 4000000 in
theorem f_Sim_isSame_b184_ev {h' : AH} {r : Int32} (d : Nat) (hd : 5 ≤ d) (k184 : AH → Nat → Nat → Int32 → Int32 → Option (AH × Int32)) (hk184 : ∀ (h : AH) (a0 : Nat) (a1 : Nat) (a2 : Int32) (a3 : Int32)  (d4 : Value) (d5 : Value) (d6 : Value) (d7 : Value) (d8 : Value), k184 h a0 a1 a2 a3 = some (h', r) → Eb (Ev tb mL d) 21 (184, [.ref a0, .ref a1, .int a2, .int a3, d4, d5, d6, d7, d8], [], h) h' (some (.int r)))  (h : AH) (a0 : Nat) (a1 : Nat) (a2 : Int32) (a3 : Int32)  (d4 : Value) (d5 : Value) (d6 : Value) (d7 : Value) (d8 : Value) (e : f_Sim_isSame_b184 k184 h a0 a1 a2 a3 = some (h', r)) : Eb (Ev tb mL d) 21 (184, [.ref a0, .ref a1, .int a2, .int a3, d4, d5, d6, d7, d8], [], h) h' (some (.int r)) := by
  unfold f_Sim_isSame_b184 at e
  refine eb_n 2 (186, [.ref a0, .ref a1, .int a2, .int a3, d4, d5, d6, d7, d8], [.ref a0, .int a3], h) (rfl) ?_
  obtain ⟨g1, e⟩ := gd_some e
  refine eb_g (p := hT h a0 = 13) (189, [.ref a0, .ref a1, .int a2, .int a3, d4, d5, d6, d7, d8], [.ref (hR h a0 14), .int a3], h) rfl g1 ?_
  obtain ⟨g2, e⟩ := gd_some e
  refine eb_g (p := hT h (hR h a0 14) = 110) (190, [.ref a0, .ref a1, .int a2, .int a3, d4, d5, d6, d7, d8], [.int (nI (hL h (hR h a0 14))), .int a3], h) rfl g2 ?_
  refine eb_b (c := (nI (hL h (hR h a0 14))) ≤ a3) (407, [.ref a0, .ref a1, .int a2, .int a3, d4, d5, d6, d7, d8], [], h) (193, [.ref a0, .ref a1, .int a2, .int a3, d4, d5, d6, d7, d8], [], h) rfl (fun c3 => ?_) (fun c3 => ?_)
  · replace e := ite_t c3 e
    refine eb_n 2 (409, [.ref a0, .ref a1, .int a2, .int (nI 0), d4, d5, d6, d7, d8], [], h) (rfl) ?_
    exact f_Sim_isSame_l409_ev d hd   FU _ _ _ _ _ _ _ _ _ _ e
  · replace e := ite_f c3 e
    refine eb_n 3 (197, [.ref a0, .ref a1, .int a2, .int a3, .int (nI 0), d5, d6, d7, d8], [.ref a0], h) (rfl) ?_
    refine eb_g (p := hT h a0 = 13) (200, [.ref a0, .ref a1, .int a2, .int a3, .int (nI 0), d5, d6, d7, d8], [.ref (hR h a0 15)], h) rfl g1 ?_
    obtain ⟨x4, hx4, e⟩ := lq_some e
    refine eb_n 1 (202, [.ref a0, .ref a1, .int a2, .int a3, .int (nI 0), .ref x4, d6, d7, d8], [], h) (by subst hx4; rfl) ?_
    refine eb_n 1 (204, [.ref a0, .ref a1, .int a2, .int a3, .int (nI 0), .ref x4, d6, d7, d8], [.ref x4], h) (rfl) ?_
    obtain ⟨g5, e⟩ := gd_some e
    refine eb_g (p := hT h x4 = 109) (205, [.ref a0, .ref a1, .int a2, .int a3, .int (nI 0), .ref x4, d6, d7, d8], [.int (nI (hL h x4))], h) rfl g5 ?_
    obtain ⟨x6, hx6, e⟩ := lq_some e
    refine eb_n 1 (207, [.ref a0, .ref a1, .int a2, .int a3, .int (nI 0), .ref x4, .int x6, d7, d8], [], h) (by subst hx6; rfl) ?_
    refine eb_n 2 (210, [.ref a0, .ref a1, .int a2, .int a3, .int (nI 0), .ref x4, .int x6, .int (nI 0), d8], [], h) (rfl) ?_
    exact f_Sim_isSame_l210_ev d hd k184 hk184 FU _ _ _ _ _ _ _ _ _ _ e
set_option maxRecDepth 100000 in
set_option maxHeartbeats 4000000 in
theorem f_Sim_isSame_l184_ev {h' : AH} {r : Int32} (d : Nat) (hd : 5 ≤ d)  : ∀ (n : Nat) (h : AH) (a0 : Nat) (a1 : Nat) (a2 : Int32) (a3 : Int32)  (d4 : Value) (d5 : Value) (d6 : Value) (d7 : Value) (d8 : Value) (_ : f_Sim_isSame_l184  n h a0 a1 a2 a3 = some (h', r)), Eb (Ev tb mL d) 21 (184, [.ref a0, .ref a1, .int a2, .int a3, d4, d5, d6, d7, d8], [], h) h' (some (.int r)) := by
  intro n
  induction n with
  | zero => intro h a0 a1 a2 a3 d4 d5 d6 d7 d8 e; exact nomatch e
  | succ n ih =>
    intro h a0 a1 a2 a3 d4 d5 d6 d7 d8 e
    exact f_Sim_isSame_b184_ev d hd _ (fun h a0 a1 a2 a3 d4 d5 d6 d7 d8 e => ih h a0 a1 a2 a3 d4 d5 d6 d7 d8 e) h a0 a1 a2 a3 d4 d5 d6 d7 d8 e
set_option maxRecDepth 100000 in
set_option maxHeartbeats 4000000 in
theorem f_Sim_isSame_b130_ev {h' : AH} {r : Int32} (d : Nat) (hd : 5 ≤ d) (k63 : AH → Nat → Nat → Int32 → Int32 → Option (AH × Int32)) (k130 : AH → Nat → Nat → Int32 → Int32 → Int32 → Int32 → Option (AH × Int32)) (hk63 : ∀ (h : AH) (a0 : Nat) (a1 : Nat) (a2 : Int32) (a3 : Int32)  (d4 : Value) (d5 : Value) (d6 : Value) (d7 : Value) (d8 : Value), k63 h a0 a1 a2 a3 = some (h', r) → Eb (Ev tb mL d) 21 (63, [.ref a0, .ref a1, .int a2, .int a3, d4, d5, d6, d7, d8], [], h) h' (some (.int r))) (hk130 : ∀ (h : AH) (a0 : Nat) (a1 : Nat) (a2 : Int32) (a3 : Int32) (a4 : Int32) (a5 : Int32)  (d6 : Value) (d7 : Value) (d8 : Value), k130 h a0 a1 a2 a3 a4 a5 = some (h', r) → Eb (Ev tb mL d) 21 (130, [.ref a0, .ref a1, .int a2, .int a3, .int a4, .int a5, d6, d7, d8], [], h) h' (some (.int r)))  (h : AH) (a0 : Nat) (a1 : Nat) (a2 : Int32) (a3 : Int32) (a4 : Int32) (a5 : Int32)  (d6 : Value) (d7 : Value) (d8 : Value) (e : f_Sim_isSame_b130 k63 k130 h a0 a1 a2 a3 a4 a5 = some (h', r)) : Eb (Ev tb mL d) 21 (130, [.ref a0, .ref a1, .int a2, .int a3, .int a4, .int a5, d6, d7, d8], [], h) h' (some (.int r)) := by
  unfold f_Sim_isSame_b130 at e
  refine eb_n 2 (133, [.ref a0, .ref a1, .int a2, .int a3, .int a4, .int a5, d6, d7, d8], [.int (nI 3), .int a5], h) (rfl) ?_
  refine eb_b (c := (nI 3) ≤ a5) (163, [.ref a0, .ref a1, .int a2, .int a3, .int a4, .int a5, d6, d7, d8], [], h) (136, [.ref a0, .ref a1, .int a2, .int a3, .int a4, .int a5, d6, d7, d8], [], h) rfl (fun c1 => ?_) (fun c1 => ?_)
  · replace e := ite_t c1 e
    refine eb_n 3 (166, [.ref a0, .ref a1, .int a2, .int a3, .int a4, .int a5, d6, d7, d8], [.int (nI 3), .int a3, .ref a1], h) (rfl) ?_
    obtain ⟨g2, e⟩ := gd_some e
    obtain ⟨h3, r4, eh3, e⟩ := bn_some e
    refine eb_cg (p := hT h a1 = 1) rfl g2 (f_QuillBoats_garden_ev d (Nat.le_trans (by decide) hd) eh3) ?_
    show Eb _ 21 (169, [.ref a0, .ref a1, .int a2, .int a3, .int a4, .int a5, d6, d7, d8], [.int r4], h3) _ _
    refine eb_n 1 (171, [.ref a0, .ref a1, .int a2, .int a3, .int a4, .int a5, d6, d7, d8], [.int a4, .int r4], h3) (rfl) ?_
    refine eb_b (c := r4 = a4) (176, [.ref a0, .ref a1, .int a2, .int a3, .int a4, .int a5, d6, d7, d8], [], h3) (174, [.ref a0, .ref a1, .int a2, .int a3, .int a4, .int a5, d6, d7, d8], [], h3) rfl (fun c5 => ?_) (fun c5 => ?_)
    · replace e := ite_t c5 e
      obtain ⟨x6, hx6, e⟩ := lq_some e
      refine eb_n 1 (179, [.ref a0, .ref a1, .int a2, .int x6, .int a4, .int a5, d6, d7, d8], [], h3) (by subst hx6; rfl) ?_
      refine eb_n 1 (63, [.ref a0, .ref a1, .int a2, .int x6, .int a4, .int a5, d6, d7, d8], [], h3) (rfl) ?_
      exact hk63 _ _ _ _ _ _ _ _ _ _ e
    · replace e := ite_f c5 e
      refine eb_n 1 (175, [.ref a0, .ref a1, .int a2, .int a3, .int a4, .int a5, d6, d7, d8], [.int (nI 0)], h3) (rfl) ?_
      rw [(sp_inj e).1, (sp_inj e).2]
      exact eb_rg (p := nrm 3 (nI 0)) rfl nrm_30
  · replace e := ite_f c1 e
    refine eb_n 3 (140, [.ref a0, .ref a1, .int a2, .int a3, .int a4, .int a5, d6, d7, d8], [.int a5, .int a3, .ref a1], h) (rfl) ?_
    obtain ⟨g7, e⟩ := gd_some e
    obtain ⟨h8, r9, eh8, e⟩ := bn_some e
    refine eb_cg (p := hT h a1 = 1) rfl g7 (f_QuillBoats_garden_ev d (Nat.le_trans (by decide) hd) eh8) ?_
    show Eb _ 21 (143, [.ref a0, .ref a1, .int a2, .int a3, .int a4, .int a5, d6, d7, d8], [.int r9], h8) _ _
    refine eb_n 1 (144, [.ref a0, .ref a1, .int a2, .int a3, .int a4, .int a5, d6, d7, d8], [.ref a0, .int r9], h8) (rfl) ?_
    obtain ⟨g10, e⟩ := gd_some e
    refine eb_g (p := hT h8 a0 = 13) (147, [.ref a0, .ref a1, .int a2, .int a3, .int a4, .int a5, d6, d7, d8], [.ref (hR h8 a0 12), .int r9], h8) rfl g10 ?_
    refine eb_n 1 (148, [.ref a0, .ref a1, .int a2, .int a3, .int a4, .int a5, d6, d7, d8], [.int a3, .ref (hR h8 a0 12), .int r9], h8) (rfl) ?_
    obtain ⟨g11, e⟩ := gd_some e
    refine eb_g (p := hT h8 (hR h8 a0 12) = 109 ∧ inb a3 (hL h8 (hR h8 a0 12))) (149, [.ref a0, .ref a1, .int a2, .int a3, .int a4, .int a5, d6, d7, d8], [.ref (hR h8 (hR h8 a0 12) (ix a3)), .int r9], h8) rfl g11 ?_
    refine eb_n 1 (151, [.ref a0, .ref a1, .int a2, .int a3, .int a4, .int a5, d6, d7, d8], [.int a5, .ref (hR h8 (hR h8 a0 12) (ix a3)), .int r9], h8) (rfl) ?_
    obtain ⟨g12, e⟩ := gd_some e
    refine eb_g (p := hT h8 (hR h8 (hR h8 a0 12) (ix a3)) = 101 ∧ inb a5 (hL h8 (hR h8 (hR h8 a0 12) (ix a3)))) (152, [.ref a0, .ref a1, .int a2, .int a3, .int a4, .int a5, d6, d7, d8], [.int (hI h8 (hR h8 (hR h8 a0 12) (ix a3)) (ix a5)), .int r9], h8) rfl g12 ?_
    refine eb_b (c := r9 = (hI h8 (hR h8 (hR h8 a0 12) (ix a3)) (ix a5))) (157, [.ref a0, .ref a1, .int a2, .int a3, .int a4, .int a5, d6, d7, d8], [], h8) (155, [.ref a0, .ref a1, .int a2, .int a3, .int a4, .int a5, d6, d7, d8], [], h8) rfl (fun c13 => ?_) (fun c13 => ?_)
    · replace e := ite_t c13 e
      obtain ⟨x14, hx14, e⟩ := lq_some e
      refine eb_n 1 (160, [.ref a0, .ref a1, .int a2, .int a3, .int a4, .int x14, d6, d7, d8], [], h8) (by subst hx14; rfl) ?_
      refine eb_n 1 (130, [.ref a0, .ref a1, .int a2, .int a3, .int a4, .int x14, d6, d7, d8], [], h8) (rfl) ?_
      exact hk130 _ _ _ _ _ _ _ _ _ _ e
    · replace e := ite_f c13 e
      refine eb_n 1 (156, [.ref a0, .ref a1, .int a2, .int a3, .int a4, .int a5, d6, d7, d8], [.int (nI 0)], h8) (rfl) ?_
      rw [(sp_inj e).1, (sp_inj e).2]
      exact eb_rg (p := nrm 3 (nI 0)) rfl nrm_30
set_option maxRecDepth 100000 in
set_option maxHeartbeats 4000000 in
theorem f_Sim_isSame_l130_ev {h' : AH} {r : Int32} (d : Nat) (hd : 5 ≤ d) (k63 : AH → Nat → Nat → Int32 → Int32 → Option (AH × Int32)) (hk63 : ∀ (h : AH) (a0 : Nat) (a1 : Nat) (a2 : Int32) (a3 : Int32)  (d4 : Value) (d5 : Value) (d6 : Value) (d7 : Value) (d8 : Value), k63 h a0 a1 a2 a3 = some (h', r) → Eb (Ev tb mL d) 21 (63, [.ref a0, .ref a1, .int a2, .int a3, d4, d5, d6, d7, d8], [], h) h' (some (.int r)))  : ∀ (n : Nat) (h : AH) (a0 : Nat) (a1 : Nat) (a2 : Int32) (a3 : Int32) (a4 : Int32) (a5 : Int32)  (d6 : Value) (d7 : Value) (d8 : Value) (_ : f_Sim_isSame_l130 k63 n h a0 a1 a2 a3 a4 a5 = some (h', r)), Eb (Ev tb mL d) 21 (130, [.ref a0, .ref a1, .int a2, .int a3, .int a4, .int a5, d6, d7, d8], [], h) h' (some (.int r)) := by
  intro n
  induction n with
  | zero => intro h a0 a1 a2 a3 a4 a5 d6 d7 d8 e; exact nomatch e
  | succ n ih =>
    intro h a0 a1 a2 a3 a4 a5 d6 d7 d8 e
    exact f_Sim_isSame_b130_ev d hd k63 _ hk63 (fun h a0 a1 a2 a3 a4 a5 d6 d7 d8 e => ih h a0 a1 a2 a3 a4 a5 d6 d7 d8 e) h a0 a1 a2 a3 a4 a5 d6 d7 d8 e
set_option maxRecDepth 100000 in
set_option maxHeartbeats 4000000 in
theorem f_Sim_isSame_b118_ev {h' : AH} {r : Int32} (d : Nat) (hd : 5 ≤ d) (k63 : AH → Nat → Nat → Int32 → Int32 → Option (AH × Int32)) (k89 : AH → Nat → Nat → Int32 → Int32 → Int32 → Nat → Int32 → Int32 → Option (AH × Int32)) (hk63 : ∀ (h : AH) (a0 : Nat) (a1 : Nat) (a2 : Int32) (a3 : Int32)  (d4 : Value) (d5 : Value) (d6 : Value) (d7 : Value) (d8 : Value), k63 h a0 a1 a2 a3 = some (h', r) → Eb (Ev tb mL d) 21 (63, [.ref a0, .ref a1, .int a2, .int a3, d4, d5, d6, d7, d8], [], h) h' (some (.int r))) (hk89 : ∀ (h : AH) (a0 : Nat) (a1 : Nat) (a2 : Int32) (a3 : Int32) (a4 : Int32) (a5 : Nat) (a6 : Int32) (a7 : Int32)  (d8 : Value), k89 h a0 a1 a2 a3 a4 a5 a6 a7 = some (h', r) → Eb (Ev tb mL d) 21 (89, [.ref a0, .ref a1, .int a2, .int a3, .int a4, .ref a5, .int a6, .int a7, d8], [], h) h' (some (.int r)))  (h : AH) (a0 : Nat) (a1 : Nat) (a2 : Int32) (a3 : Int32) (a5 : Nat) (a6 : Int32) (a7 : Int32) (s0 : Int32) (s1 : Int32) (d4 : Value) (d8 : Value) (e : f_Sim_isSame_b118 k63 k89 h a0 a1 a2 a3 a5 a6 a7 s0 s1 = some (h', r)) : Eb (Ev tb mL d) 21 (118, [.ref a0, .ref a1, .int a2, .int a3, d4, .ref a5, .int a6, .int a7, d8], [.int s1, .int s0], h) h' (some (.int r)) := by
  unfold f_Sim_isSame_b118 at e
  obtain ⟨x1, hx1, e⟩ := lq_some e
  refine eb_n 2 (121, [.ref a0, .ref a1, .int a2, .int a3, .int x1, .ref a5, .int a6, .int a7, d8], [], h) (by subst hx1; rfl) ?_
  obtain ⟨x2, hx2, e⟩ := lq_some e
  refine eb_n 1 (124, [.ref a0, .ref a1, .int a2, .int a3, .int x1, .ref a5, .int a6, .int x2, d8], [], h) (by subst hx2; rfl) ?_
  refine eb_n 1 (89, [.ref a0, .ref a1, .int a2, .int a3, .int x1, .ref a5, .int a6, .int x2, d8], [], h) (rfl) ?_
  exact hk89 _ _ _ _ _ _ _ _ _ _ e
set_option maxRecDepth 100000 in
set_option maxHeartbeats 4000000 in
theorem f_Sim_isSame_b89_ev {h' : AH} {r : Int32} (d : Nat) (hd : 5 ≤ d) (k63 : AH → Nat → Nat → Int32 → Int32 → Option (AH × Int32)) (k89 : AH → Nat → Nat → Int32 → Int32 → Int32 → Nat → Int32 → Int32 → Option (AH × Int32)) (hk63 : ∀ (h : AH) (a0 : Nat) (a1 : Nat) (a2 : Int32) (a3 : Int32)  (d4 : Value) (d5 : Value) (d6 : Value) (d7 : Value) (d8 : Value), k63 h a0 a1 a2 a3 = some (h', r) → Eb (Ev tb mL d) 21 (63, [.ref a0, .ref a1, .int a2, .int a3, d4, d5, d6, d7, d8], [], h) h' (some (.int r))) (hk89 : ∀ (h : AH) (a0 : Nat) (a1 : Nat) (a2 : Int32) (a3 : Int32) (a4 : Int32) (a5 : Nat) (a6 : Int32) (a7 : Int32)  (d8 : Value), k89 h a0 a1 a2 a3 a4 a5 a6 a7 = some (h', r) → Eb (Ev tb mL d) 21 (89, [.ref a0, .ref a1, .int a2, .int a3, .int a4, .ref a5, .int a6, .int a7, d8], [], h) h' (some (.int r)))  (h : AH) (a0 : Nat) (a1 : Nat) (a2 : Int32) (a3 : Int32) (a4 : Int32) (a5 : Nat) (a6 : Int32) (a7 : Int32)  (d8 : Value) (e : f_Sim_isSame_b89 k63 k89 h a0 a1 a2 a3 a4 a5 a6 a7 = some (h', r)) : Eb (Ev tb mL d) 21 (89, [.ref a0, .ref a1, .int a2, .int a3, .int a4, .ref a5, .int a6, .int a7, d8], [], h) h' (some (.int r)) := by
  unfold f_Sim_isSame_b89 at e
  refine eb_n 2 (93, [.ref a0, .ref a1, .int a2, .int a3, .int a4, .ref a5, .int a6, .int a7, d8], [.int a6, .int a7], h) (rfl) ?_
  refine eb_b (c := a6 ≤ a7) (127, [.ref a0, .ref a1, .int a2, .int a3, .int a4, .ref a5, .int a6, .int a7, d8], [], h) (96, [.ref a0, .ref a1, .int a2, .int a3, .int a4, .ref a5, .int a6, .int a7, d8], [], h) rfl (fun c1 => ?_) (fun c1 => ?_)
  · replace e := ite_t c1 e
    refine eb_n 2 (130, [.ref a0, .ref a1, .int a2, .int a3, .int a4, .int (nI 0), .int a6, .int a7, d8], [], h) (rfl) ?_
    exact f_Sim_isSame_l130_ev d hd k63 hk63 FU _ _ _ _ _ _ _ _ _ _ e
  · replace e := ite_f c1 e
    refine eb_n 2 (100, [.ref a0, .ref a1, .int a2, .int a3, .int a4, .ref a5, .int a6, .int a7, d8], [.int a7, .ref a5], h) (rfl) ?_
    obtain ⟨g2, e⟩ := gd_some e
    refine eb_g (p := hT h a5 = 109 ∧ inb a7 (hL h a5)) (101, [.ref a0, .ref a1, .int a2, .int a3, .int a4, .ref a5, .int a6, .int a7, d8], [.ref (hR h a5 (ix a7))], h) rfl g2 ?_
    obtain ⟨x3, hx3, e⟩ := lq_some e
    refine eb_n 1 (103, [.ref a0, .ref a1, .int a2, .int a3, .int a4, .ref a5, .int a6, .int a7, .ref x3], [], h) (by subst hx3; rfl) ?_
    refine eb_n 3 (108, [.ref a0, .ref a1, .int a2, .int a3, .int a4, .ref a5, .int a6, .int a7, .ref x3], [.int (nI 0), .ref x3, .int a4], h) (rfl) ?_
    obtain ⟨g4, e⟩ := gd_some e
    refine eb_g (p := hT h x3 = 101 ∧ inb (nI 0) (hL h x3)) (109, [.ref a0, .ref a1, .int a2, .int a3, .int a4, .ref a5, .int a6, .int a7, .ref x3], [.int (hI h x3 (ix (nI 0))), .int a4], h) rfl g4 ?_
    refine eb_n 1 (110, [.ref a0, .ref a1, .int a2, .int a3, .int a4, .ref a5, .int a6, .int a7, .ref x3], [.int a3, .int (hI h x3 (ix (nI 0))), .int a4], h) (rfl) ?_
    refine eb_b (c := ¬ (hI h x3 (ix (nI 0))) = a3) (117, [.ref a0, .ref a1, .int a2, .int a3, .int a4, .ref a5, .int a6, .int a7, .ref x3], [.int a4], h) (113, [.ref a0, .ref a1, .int a2, .int a3, .int a4, .ref a5, .int a6, .int a7, .ref x3], [.int a4], h) rfl (fun c5 => ?_) (fun c5 => ?_)
    · replace e := ite_t c5 e
      refine eb_n 1 (118, [.ref a0, .ref a1, .int a2, .int a3, .int a4, .ref a5, .int a6, .int a7, .ref x3], [.int (nI 0), .int a4], h) (rfl) ?_
      exact f_Sim_isSame_b118_ev d hd k63 k89 hk63 hk89 _ _ _ _ _ _ _ _ _ _ _ _ e
    · replace e := ite_f c5 e
      refine eb_n 2 (118, [.ref a0, .ref a1, .int a2, .int a3, .int a4, .ref a5, .int a6, .int a7, .ref x3], [.int (nI 1), .int a4], h) (rfl) ?_
      exact f_Sim_isSame_b118_ev d hd k63 k89 hk63 hk89 _ _ _ _ _ _ _ _ _ _ _ _ e
set_option maxRecDepth 100000 in
set_option maxHeartbeats 4000000 in
theorem f_Sim_isSame_l89_ev {h' : AH} {r : Int32} (d : Nat) (hd : 5 ≤ d) (k63 : AH → Nat → Nat → Int32 → Int32 → Option (AH × Int32)) (hk63 : ∀ (h : AH) (a0 : Nat) (a1 : Nat) (a2 : Int32) (a3 : Int32)  (d4 : Value) (d5 : Value) (d6 : Value) (d7 : Value) (d8 : Value), k63 h a0 a1 a2 a3 = some (h', r) → Eb (Ev tb mL d) 21 (63, [.ref a0, .ref a1, .int a2, .int a3, d4, d5, d6, d7, d8], [], h) h' (some (.int r)))  : ∀ (n : Nat) (h : AH) (a0 : Nat) (a1 : Nat) (a2 : Int32) (a3 : Int32) (a4 : Int32) (a5 : Nat) (a6 : Int32) (a7 : Int32)  (d8 : Value) (_ : f_Sim_isSame_l89 k63 n h a0 a1 a2 a3 a4 a5 a6 a7 = some (h', r)), Eb (Ev tb mL d) 21 (89, [.ref a0, .ref a1, .int a2, .int a3, .int a4, .ref a5, .int a6, .int a7, d8], [], h) h' (some (.int r)) := by
  intro n
  induction n with
  | zero => intro h a0 a1 a2 a3 a4 a5 a6 a7 d8 e; exact nomatch e
  | succ n ih =>
    intro h a0 a1 a2 a3 a4 a5 a6 a7 d8 e
    exact f_Sim_isSame_b89_ev d hd k63 _ hk63 (fun h a0 a1 a2 a3 a4 a5 a6 a7 d8 e => ih h a0 a1 a2 a3 a4 a5 a6 a7 d8 e) h a0 a1 a2 a3 a4 a5 a6 a7 d8 e
set_option maxRecDepth 100000 in
set_option maxHeartbeats 4000000 in
theorem f_Sim_isSame_b63_ev {h' : AH} {r : Int32} (d : Nat) (hd : 5 ≤ d) (k63 : AH → Nat → Nat → Int32 → Int32 → Option (AH × Int32)) (hk63 : ∀ (h : AH) (a0 : Nat) (a1 : Nat) (a2 : Int32) (a3 : Int32)  (d4 : Value) (d5 : Value) (d6 : Value) (d7 : Value) (d8 : Value), k63 h a0 a1 a2 a3 = some (h', r) → Eb (Ev tb mL d) 21 (63, [.ref a0, .ref a1, .int a2, .int a3, d4, d5, d6, d7, d8], [], h) h' (some (.int r)))  (h : AH) (a0 : Nat) (a1 : Nat) (a2 : Int32) (a3 : Int32)  (d4 : Value) (d5 : Value) (d6 : Value) (d7 : Value) (d8 : Value) (e : f_Sim_isSame_b63 k63 h a0 a1 a2 a3 = some (h', r)) : Eb (Ev tb mL d) 21 (63, [.ref a0, .ref a1, .int a2, .int a3, d4, d5, d6, d7, d8], [], h) h' (some (.int r)) := by
  unfold f_Sim_isSame_b63 at e
  refine eb_n 2 (65, [.ref a0, .ref a1, .int a2, .int a3, d4, d5, d6, d7, d8], [.ref a0, .int a3], h) (rfl) ?_
  obtain ⟨g1, e⟩ := gd_some e
  refine eb_g (p := hT h a0 = 13) (68, [.ref a0, .ref a1, .int a2, .int a3, d4, d5, d6, d7, d8], [.ref (hR h a0 12), .int a3], h) rfl g1 ?_
  obtain ⟨g2, e⟩ := gd_some e
  refine eb_g (p := hT h (hR h a0 12) = 109) (69, [.ref a0, .ref a1, .int a2, .int a3, d4, d5, d6, d7, d8], [.int (nI (hL h (hR h a0 12))), .int a3], h) rfl g2 ?_
  refine eb_b (c := (nI (hL h (hR h a0 12))) ≤ a3) (182, [.ref a0, .ref a1, .int a2, .int a3, d4, d5, d6, d7, d8], [], h) (72, [.ref a0, .ref a1, .int a2, .int a3, d4, d5, d6, d7, d8], [], h) rfl (fun c3 => ?_) (fun c3 => ?_)
  · replace e := ite_t c3 e
    refine eb_n 2 (184, [.ref a0, .ref a1, .int a2, .int (nI 0), d4, d5, d6, d7, d8], [], h) (rfl) ?_
    exact f_Sim_isSame_l184_ev d hd   FU _ _ _ _ _ _ _ _ _ _ e
  · replace e := ite_f c3 e
    refine eb_n 3 (76, [.ref a0, .ref a1, .int a2, .int a3, .int (nI 0), d5, d6, d7, d8], [.ref a0], h) (rfl) ?_
    refine eb_g (p := hT h a0 = 13) (79, [.ref a0, .ref a1, .int a2, .int a3, .int (nI 0), d5, d6, d7, d8], [.ref (hR h a0 15)], h) rfl g1 ?_
    obtain ⟨x4, hx4, e⟩ := lq_some e
    refine eb_n 1 (81, [.ref a0, .ref a1, .int a2, .int a3, .int (nI 0), .ref x4, d6, d7, d8], [], h) (by subst hx4; rfl) ?_
    refine eb_n 1 (83, [.ref a0, .ref a1, .int a2, .int a3, .int (nI 0), .ref x4, d6, d7, d8], [.ref x4], h) (rfl) ?_
    obtain ⟨g5, e⟩ := gd_some e
    refine eb_g (p := hT h x4 = 109) (84, [.ref a0, .ref a1, .int a2, .int a3, .int (nI 0), .ref x4, d6, d7, d8], [.int (nI (hL h x4))], h) rfl g5 ?_
    obtain ⟨x6, hx6, e⟩ := lq_some e
    refine eb_n 1 (86, [.ref a0, .ref a1, .int a2, .int a3, .int (nI 0), .ref x4, .int x6, d7, d8], [], h) (by subst hx6; rfl) ?_
    refine eb_n 2 (89, [.ref a0, .ref a1, .int a2, .int a3, .int (nI 0), .ref x4, .int x6, .int (nI 0), d8], [], h) (rfl) ?_
    exact f_Sim_isSame_l89_ev d hd k63 hk63 FU _ _ _ _ _ _ _ _ _ _ e
set_option maxRecDepth 100000 in
set_option maxHeartbeats 4000000 in
theorem f_Sim_isSame_l63_ev {h' : AH} {r : Int32} (d : Nat) (hd : 5 ≤ d)  : ∀ (n : Nat) (h : AH) (a0 : Nat) (a1 : Nat) (a2 : Int32) (a3 : Int32)  (d4 : Value) (d5 : Value) (d6 : Value) (d7 : Value) (d8 : Value) (_ : f_Sim_isSame_l63  n h a0 a1 a2 a3 = some (h', r)), Eb (Ev tb mL d) 21 (63, [.ref a0, .ref a1, .int a2, .int a3, d4, d5, d6, d7, d8], [], h) h' (some (.int r)) := by
  intro n
  induction n with
  | zero => intro h a0 a1 a2 a3 d4 d5 d6 d7 d8 e; exact nomatch e
  | succ n ih =>
    intro h a0 a1 a2 a3 d4 d5 d6 d7 d8 e
    exact f_Sim_isSame_b63_ev d hd _ (fun h a0 a1 a2 a3 d4 d5 d6 d7 d8 e => ih h a0 a1 a2 a3 d4 d5 d6 d7 d8 e) h a0 a1 a2 a3 d4 d5 d6 d7 d8 e
set_option maxRecDepth 100000 in
set_option maxHeartbeats 4000000 in
theorem f_Sim_isSame_b31_ev {h' : AH} {r : Int32} (d : Nat) (hd : 5 ≤ d) (k31 : AH → Nat → Nat → Int32 → Option (AH × Int32)) (hk31 : ∀ (h : AH) (a0 : Nat) (a1 : Nat) (a2 : Int32)  (d3 : Value) (d4 : Value) (d5 : Value) (d6 : Value) (d7 : Value) (d8 : Value), k31 h a0 a1 a2 = some (h', r) → Eb (Ev tb mL d) 21 (31, [.ref a0, .ref a1, .int a2, d3, d4, d5, d6, d7, d8], [], h) h' (some (.int r)))  (h : AH) (a0 : Nat) (a1 : Nat) (a2 : Int32)  (d3 : Value) (d4 : Value) (d5 : Value) (d6 : Value) (d7 : Value) (d8 : Value) (e : f_Sim_isSame_b31 k31 h a0 a1 a2 = some (h', r)) : Eb (Ev tb mL d) 21 (31, [.ref a0, .ref a1, .int a2, d3, d4, d5, d6, d7, d8], [], h) h' (some (.int r)) := by
  unfold f_Sim_isSame_b31 at e
  refine eb_n 2 (34, [.ref a0, .ref a1, .int a2, d3, d4, d5, d6, d7, d8], [.int (nI 12), .int a2], h) (rfl) ?_
  refine eb_b (c := (nI 12) ≤ a2) (59, [.ref a0, .ref a1, .int a2, d3, d4, d5, d6, d7, d8], [], h) (37, [.ref a0, .ref a1, .int a2, d3, d4, d5, d6, d7, d8], [], h) rfl (fun c1 => ?_) (fun c1 => ?_)
  · replace e := ite_t c1 e
    refine eb_n 4 (63, [.ref a0, .ref a1, .int (nI 0), .int (nI 0), d4, d5, d6, d7, d8], [], h) (rfl) ?_
    exact f_Sim_isSame_l63_ev d hd   FU _ _ _ _ _ _ _ _ _ _ e
  · replace e := ite_f c1 e
    refine eb_n 2 (39, [.ref a0, .ref a1, .int a2, d3, d4, d5, d6, d7, d8], [.int a2, .ref a1], h) (rfl) ?_
    obtain ⟨g2, e⟩ := gd_some e
    obtain ⟨h3, r4, eh3, e⟩ := bn_some e
    refine eb_cg (p := hT h a1 = 1) rfl g2 (f_QuillBoats_shade_ev d (Nat.le_trans (by decide) hd) eh3) ?_
    show Eb _ 21 (42, [.ref a0, .ref a1, .int a2, d3, d4, d5, d6, d7, d8], [.int r4], h3) _ _
    refine eb_n 1 (43, [.ref a0, .ref a1, .int a2, d3, d4, d5, d6, d7, d8], [.ref a0, .int r4], h3) (rfl) ?_
    obtain ⟨g5, e⟩ := gd_some e
    refine eb_g (p := hT h3 a0 = 13) (46, [.ref a0, .ref a1, .int a2, d3, d4, d5, d6, d7, d8], [.ref (hR h3 a0 7), .int r4], h3) rfl g5 ?_
    refine eb_n 1 (47, [.ref a0, .ref a1, .int a2, d3, d4, d5, d6, d7, d8], [.int a2, .ref (hR h3 a0 7), .int r4], h3) (rfl) ?_
    obtain ⟨g6, e⟩ := gd_some e
    refine eb_g (p := hT h3 (hR h3 a0 7) = 101 ∧ inb a2 (hL h3 (hR h3 a0 7))) (48, [.ref a0, .ref a1, .int a2, d3, d4, d5, d6, d7, d8], [.int (hI h3 (hR h3 a0 7) (ix a2)), .int r4], h3) rfl g6 ?_
    refine eb_b (c := r4 = (hI h3 (hR h3 a0 7) (ix a2))) (53, [.ref a0, .ref a1, .int a2, d3, d4, d5, d6, d7, d8], [], h3) (51, [.ref a0, .ref a1, .int a2, d3, d4, d5, d6, d7, d8], [], h3) rfl (fun c7 => ?_) (fun c7 => ?_)
    · replace e := ite_t c7 e
      obtain ⟨x8, hx8, e⟩ := lq_some e
      refine eb_n 1 (56, [.ref a0, .ref a1, .int x8, d3, d4, d5, d6, d7, d8], [], h3) (by subst hx8; rfl) ?_
      refine eb_n 1 (31, [.ref a0, .ref a1, .int x8, d3, d4, d5, d6, d7, d8], [], h3) (rfl) ?_
      exact hk31 _ _ _ _ _ _ _ _ _ _ e
    · replace e := ite_f c7 e
      refine eb_n 1 (52, [.ref a0, .ref a1, .int a2, d3, d4, d5, d6, d7, d8], [.int (nI 0)], h3) (rfl) ?_
      rw [(sp_inj e).1, (sp_inj e).2]
      exact eb_rg (p := nrm 3 (nI 0)) rfl nrm_30
set_option maxRecDepth 100000 in
set_option maxHeartbeats 4000000 in
theorem f_Sim_isSame_l31_ev {h' : AH} {r : Int32} (d : Nat) (hd : 5 ≤ d)  : ∀ (n : Nat) (h : AH) (a0 : Nat) (a1 : Nat) (a2 : Int32)  (d3 : Value) (d4 : Value) (d5 : Value) (d6 : Value) (d7 : Value) (d8 : Value) (_ : f_Sim_isSame_l31  n h a0 a1 a2 = some (h', r)), Eb (Ev tb mL d) 21 (31, [.ref a0, .ref a1, .int a2, d3, d4, d5, d6, d7, d8], [], h) h' (some (.int r)) := by
  intro n
  induction n with
  | zero => intro h a0 a1 a2 d3 d4 d5 d6 d7 d8 e; exact nomatch e
  | succ n ih =>
    intro h a0 a1 a2 d3 d4 d5 d6 d7 d8 e
    exact f_Sim_isSame_b31_ev d hd _ (fun h a0 a1 a2 d3 d4 d5 d6 d7 d8 e => ih h a0 a1 a2 d3 d4 d5 d6 d7 d8 e) h a0 a1 a2 d3 d4 d5 d6 d7 d8 e
set_option maxRecDepth 100000 in
set_option maxHeartbeats 4000000 in
theorem f_Sim_isSame_b2_ev {h' : AH} {r : Int32} (d : Nat) (hd : 5 ≤ d) (k2 : AH → Nat → Nat → Int32 → Option (AH × Int32)) (hk2 : ∀ (h : AH) (a0 : Nat) (a1 : Nat) (a2 : Int32)  (d3 : Value) (d4 : Value) (d5 : Value) (d6 : Value) (d7 : Value) (d8 : Value), k2 h a0 a1 a2 = some (h', r) → Eb (Ev tb mL d) 21 (2, [.ref a0, .ref a1, .int a2, d3, d4, d5, d6, d7, d8], [], h) h' (some (.int r)))  (h : AH) (a0 : Nat) (a1 : Nat) (a2 : Int32)  (d3 : Value) (d4 : Value) (d5 : Value) (d6 : Value) (d7 : Value) (d8 : Value) (e : f_Sim_isSame_b2 k2 h a0 a1 a2 = some (h', r)) : Eb (Ev tb mL d) 21 (2, [.ref a0, .ref a1, .int a2, d3, d4, d5, d6, d7, d8], [], h) h' (some (.int r)) := by
  unfold f_Sim_isSame_b2 at e
  refine eb_n 2 (5, [.ref a0, .ref a1, .int a2, d3, d4, d5, d6, d7, d8], [.int (nI 16), .int a2], h) (rfl) ?_
  refine eb_b (c := (nI 16) ≤ a2) (29, [.ref a0, .ref a1, .int a2, d3, d4, d5, d6, d7, d8], [], h) (8, [.ref a0, .ref a1, .int a2, d3, d4, d5, d6, d7, d8], [], h) rfl (fun c1 => ?_) (fun c1 => ?_)
  · replace e := ite_t c1 e
    refine eb_n 2 (31, [.ref a0, .ref a1, .int (nI 0), d3, d4, d5, d6, d7, d8], [], h) (rfl) ?_
    exact f_Sim_isSame_l31_ev d hd   FU _ _ _ _ _ _ _ _ _ _ e
  · replace e := ite_f c1 e
    refine eb_n 2 (10, [.ref a0, .ref a1, .int a2, d3, d4, d5, d6, d7, d8], [.int a2, .ref a1], h) (rfl) ?_
    obtain ⟨g2, e⟩ := gd_some e
    obtain ⟨h3, r4, eh3, e⟩ := bn_some e
    refine eb_cg (p := hT h a1 = 1) rfl g2 (f_QuillBoats_count_ev d (Nat.le_trans (by decide) hd) eh3) ?_
    show Eb _ 21 (13, [.ref a0, .ref a1, .int a2, d3, d4, d5, d6, d7, d8], [.int r4], h3) _ _
    refine eb_n 2 (15, [.ref a0, .ref a1, .int a2, d3, d4, d5, d6, d7, d8], [.int a2, .ref a0, .int r4], h3) (rfl) ?_
    obtain ⟨g5, e⟩ := gd_some e
    obtain ⟨h6, r7, eh6, e⟩ := bn_some e
    refine eb_cg (p := hT h3 a0 = 13) rfl g5 (f_Sim_counted_ev d (Nat.le_trans (by decide) hd) eh6) ?_
    show Eb _ 21 (18, [.ref a0, .ref a1, .int a2, d3, d4, d5, d6, d7, d8], [.int r7, .int r4], h6) _ _
    refine eb_b (c := r4 = r7) (23, [.ref a0, .ref a1, .int a2, d3, d4, d5, d6, d7, d8], [], h6) (21, [.ref a0, .ref a1, .int a2, d3, d4, d5, d6, d7, d8], [], h6) rfl (fun c8 => ?_) (fun c8 => ?_)
    · replace e := ite_t c8 e
      obtain ⟨x9, hx9, e⟩ := lq_some e
      refine eb_n 1 (26, [.ref a0, .ref a1, .int x9, d3, d4, d5, d6, d7, d8], [], h6) (by subst hx9; rfl) ?_
      refine eb_n 1 (2, [.ref a0, .ref a1, .int x9, d3, d4, d5, d6, d7, d8], [], h6) (rfl) ?_
      exact hk2 _ _ _ _ _ _ _ _ _ _ e
    · replace e := ite_f c8 e
      refine eb_n 1 (22, [.ref a0, .ref a1, .int a2, d3, d4, d5, d6, d7, d8], [.int (nI 0)], h6) (rfl) ?_
      rw [(sp_inj e).1, (sp_inj e).2]
      exact eb_rg (p := nrm 3 (nI 0)) rfl nrm_30
set_option maxRecDepth 100000 in
set_option maxHeartbeats 4000000 in
theorem f_Sim_isSame_l2_ev {h' : AH} {r : Int32} (d : Nat) (hd : 5 ≤ d)  : ∀ (n : Nat) (h : AH) (a0 : Nat) (a1 : Nat) (a2 : Int32)  (d3 : Value) (d4 : Value) (d5 : Value) (d6 : Value) (d7 : Value) (d8 : Value) (_ : f_Sim_isSame_l2  n h a0 a1 a2 = some (h', r)), Eb (Ev tb mL d) 21 (2, [.ref a0, .ref a1, .int a2, d3, d4, d5, d6, d7, d8], [], h) h' (some (.int r)) := by
  intro n
  induction n with
  | zero => intro h a0 a1 a2 d3 d4 d5 d6 d7 d8 e; exact nomatch e
  | succ n ih =>
    intro h a0 a1 a2 d3 d4 d5 d6 d7 d8 e
    exact f_Sim_isSame_b2_ev d hd _ (fun h a0 a1 a2 d3 d4 d5 d6 d7 d8 e => ih h a0 a1 a2 d3 d4 d5 d6 d7 d8 e) h a0 a1 a2 d3 d4 d5 d6 d7 d8 e
set_option maxRecDepth 100000 in
set_option maxHeartbeats 4000000 in
theorem f_Sim_isSame_ev (d0 : Nat) (hd0 : 6 ≤ d0) {h' : AH} {r : Int32} {h : AH} {a0 : Nat} {a1 : Nat} (e : f_Sim_isSame h a0 a1 = some (h', r)) : Ev tb mL d0 21 [.ref a0, .ref a1] h h' (some (.int r)) := by
  obtain ⟨d, rfl⟩ : ∃ d, d0 = d + 1 := ⟨d0 - 1, by omega⟩
  have hd : 5 ≤ d := by omega
  refine ⟨Nat.le_of_ble_eq_true rfl, ?_⟩
  show Eb (Ev tb mL d) 21 (0, [.ref a0, .ref a1, .retAddr 0, .retAddr 0, .retAddr 0, .retAddr 0, .retAddr 0, .retAddr 0, .retAddr 0], [], h) h' (some (.int r))
  unfold f_Sim_isSame at e
  refine eb_n 2 (2, [.ref a0, .ref a1, .int (nI 0), .retAddr 0, .retAddr 0, .retAddr 0, .retAddr 0, .retAddr 0, .retAddr 0], [], h) (rfl) ?_
  exact f_Sim_isSame_l2_ev d hd   FU _ _ _ _ _ _ _ _ _ _ e

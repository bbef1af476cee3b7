/-! THEIR ANSWERS ARE RUNS (written by wip/p29/gen_sh.py) -/
set_option maxRecDepth 100000 in
set_option maxHeartbeats 4000000 in
theorem f_Grade_copyFrom_ev (d0 : Nat) (hd0 : 1 ≤ d0) {h' : AH} {h : AH} {a0 : Nat} {a1 : Nat} (e : f_Grade_copyFrom h a0 a1 = some h') : Ev tb mL d0 142 [.ref a0, .ref a1] h h' none := by
  obtain ⟨d, rfl⟩ : ∃ d, d0 = d + 1 := ⟨d0 - 1, by omega⟩
  have hd : 0 ≤ d := by omega
  refine ⟨Nat.le_of_ble_eq_true rfl, ?_⟩
  show Eb (Ev tb mL d) 142 (0, [.ref a0, .ref a1], [], h) h' none
  unfold f_Grade_copyFrom at e
  refine eb_n 2 (2, [.ref a0, .ref a1], [.ref a1, .ref a0], h) (rfl) ?_
  obtain ⟨g1, e⟩ := gd_some e
  refine eb_g (p := hT h a1 = 8) (5, [.ref a0, .ref a1], [.int (hI h a1 0), .ref a0], h) rfl g1 ?_
  obtain ⟨g2, e⟩ := gd_some e
  obtain ⟨h3, eh3, e⟩ := lq_some e
  refine eb_g (p := hT h a0 = 8) (8, [.ref a0, .ref a1], [], h3) (by rw [eh3]; rfl) g2 ?_
  refine eb_n 2 (10, [.ref a0, .ref a1], [.ref a1, .ref a0], h3) (rfl) ?_
  obtain ⟨g4, e⟩ := gd_some e
  refine eb_g (p := hT h3 a1 = 8) (13, [.ref a0, .ref a1], [.int (hI h3 a1 1), .ref a0], h3) rfl g4 ?_
  obtain ⟨g5, e⟩ := gd_some e
  obtain ⟨h6, eh6, e⟩ := lq_some e
  refine eb_g (p := hT h3 a0 = 8) (16, [.ref a0, .ref a1], [], h6) (by rw [eh6]; rfl) g5 ?_
  refine eb_n 2 (18, [.ref a0, .ref a1], [.ref a1, .ref a0], h6) (rfl) ?_
  obtain ⟨g7, e⟩ := gd_some e
  refine eb_g (p := hT h6 a1 = 8) (21, [.ref a0, .ref a1], [.int (hI h6 a1 2), .ref a0], h6) rfl g7 ?_
  obtain ⟨g8, e⟩ := gd_some e
  obtain ⟨h9, eh9, e⟩ := lq_some e
  refine eb_g (p := hT h6 a0 = 8) (24, [.ref a0, .ref a1], [], h9) (by rw [eh9]; rfl) g8 ?_
  refine eb_n 2 (26, [.ref a0, .ref a1], [.ref a1, .ref a0], h9) (rfl) ?_
  obtain ⟨g10, e⟩ := gd_some e
  refine eb_g (p := hT h9 a1 = 8) (29, [.ref a0, .ref a1], [.int (hI h9 a1 3), .ref a0], h9) rfl g10 ?_
  obtain ⟨g11, e⟩ := gd_some e
  obtain ⟨h12, eh12, e⟩ := lq_some e
  refine eb_g (p := hT h9 a0 = 8) (32, [.ref a0, .ref a1], [], h12) (by rw [eh12]; rfl) g11 ?_
  rw [sv_inj e]
  exact eb_r rfl
set_option maxRecDepth 100000 in
set_option maxHeartbeats 4000000 in
theorem f_River_copyAllFrom_b147_ev {h' : AH} (d : Nat) (hd : 1 ≤ d) (k147 : AH → Nat → Nat → Int32 → Option AH) (hk147 : ∀ (h : AH) (a0 : Nat) (a1 : Nat) (a2 : Int32)  , k147 h a0 a1 a2 = some h' → Eb (Ev tb mL d) 113 (147, [.ref a0, .ref a1, .int a2], [], h) h' none)  (h : AH) (a0 : Nat) (a1 : Nat) (a2 : Int32)   (e : f_River_copyAllFrom_b147 k147 h a0 a1 a2 = some h') : Eb (Ev tb mL d) 113 (147, [.ref a0, .ref a1, .int a2], [], h) h' none := by
  unfold f_River_copyAllFrom_b147 at e
  refine eb_n 2 (149, [.ref a0, .ref a1, .int a2], [.int (nI 4), .int a2], h) (rfl) ?_
  refine eb_b (c := (nI 4) ≤ a2) (173, [.ref a0, .ref a1, .int a2], [], h) (152, [.ref a0, .ref a1, .int a2], [], h) rfl (fun c1 => ?_) (fun c1 => ?_)
  · replace e := ite_t c1 e
    rw [sv_inj e]
    exact eb_r rfl
  · replace e := ite_f c1 e
    refine eb_n 1 (153, [.ref a0, .ref a1, .int a2], [.ref a0], h) (rfl) ?_
    obtain ⟨g2, e⟩ := gd_some e
    refine eb_g (p := hT h a0 = 3) (156, [.ref a0, .ref a1, .int a2], [.ref (hR h a0 4)], h) rfl g2 ?_
    refine eb_n 1 (157, [.ref a0, .ref a1, .int a2], [.int a2, .ref (hR h a0 4)], h) (rfl) ?_
    obtain ⟨g3, e⟩ := gd_some e
    refine eb_g (p := hT h (hR h a0 4) = 108 ∧ inb a2 (hL h (hR h a0 4))) (158, [.ref a0, .ref a1, .int a2], [.ref (hR h (hR h a0 4) (ix a2))], h) rfl g3 ?_
    refine eb_n 1 (159, [.ref a0, .ref a1, .int a2], [.ref a1, .ref (hR h (hR h a0 4) (ix a2))], h) (rfl) ?_
    obtain ⟨g4, e⟩ := gd_some e
    refine eb_g (p := hT h a1 = 3) (162, [.ref a0, .ref a1, .int a2], [.ref (hR h a1 4), .ref (hR h (hR h a0 4) (ix a2))], h) rfl g4 ?_
    refine eb_n 1 (163, [.ref a0, .ref a1, .int a2], [.int a2, .ref (hR h a1 4), .ref (hR h (hR h a0 4) (ix a2))], h) (rfl) ?_
    obtain ⟨g5, e⟩ := gd_some e
    refine eb_g (p := hT h (hR h a1 4) = 108 ∧ inb a2 (hL h (hR h a1 4))) (164, [.ref a0, .ref a1, .int a2], [.ref (hR h (hR h a1 4) (ix a2)), .ref (hR h (hR h a0 4) (ix a2))], h) rfl g5 ?_
    obtain ⟨g6, e⟩ := gd_some e
    obtain ⟨h7, eh7, e⟩ := bv_some e
    refine eb_cg (p := hT h (hR h (hR h a0 4) (ix a2)) = 8) rfl g6 (f_Grade_copyFrom_ev d (Nat.le_trans (by decide) hd) eh7) ?_
    show Eb _ 113 (167, [.ref a0, .ref a1, .int a2], [], h7) _ _
    obtain ⟨x8, hx8, e⟩ := lq_some e
    refine eb_n 1 (170, [.ref a0, .ref a1, .int x8], [], h7) (by subst hx8; rfl) ?_
    refine eb_n 1 (147, [.ref a0, .ref a1, .int x8], [], h7) (rfl) ?_
    exact hk147 _ _ _ _  e
set_option maxRecDepth 100000 in
set_option maxHeartbeats 4000000 in
theorem f_River_copyAllFrom_l147_ev {h' : AH} (d : Nat) (hd : 1 ≤ d)  : ∀ (n : Nat) (h : AH) (a0 : Nat) (a1 : Nat) (a2 : Int32)   (_ : f_River_copyAllFrom_l147  n h a0 a1 a2 = some h'), Eb (Ev tb mL d) 113 (147, [.ref a0, .ref a1, .int a2], [], h) h' none := by
  intro n
  induction n with
  | zero => intro h a0 a1 a2  e; exact nomatch e
  | succ n ih =>
    intro h a0 a1 a2  e
    exact f_River_copyAllFrom_b147_ev d hd _ (fun h a0 a1 a2  e => ih h a0 a1 a2  e) h a0 a1 a2  e
set_option maxRecDepth 100000 in
set_option maxHeartbeats 4000000 in
theorem f_River_copyAllFrom_b145_ev {h' : AH} (d : Nat) (hd : 1 ≤ d)  (h : AH) (a0 : Nat) (a1 : Nat)  (d2 : Value) (e : f_River_copyAllFrom_b145  h a0 a1 = some h') : Eb (Ev tb mL d) 113 (145, [.ref a0, .ref a1, d2], [], h) h' none := by
  unfold f_River_copyAllFrom_b145 at e
  refine eb_n 2 (147, [.ref a0, .ref a1, .int (nI 0)], [], h) (rfl) ?_
  exact f_River_copyAllFrom_l147_ev d hd   FU _ _ _ _  e
set_option maxRecDepth 100000 in
set_option maxHeartbeats 4000000 in
theorem f_River_copyAllFrom_b111_ev {h' : AH} (d : Nat) (hd : 1 ≤ d) (k111 : AH → Nat → Nat → Int32 → Option AH) (hk111 : ∀ (h : AH) (a0 : Nat) (a1 : Nat) (a2 : Int32)  , k111 h a0 a1 a2 = some h' → Eb (Ev tb mL d) 113 (111, [.ref a0, .ref a1, .int a2], [], h) h' none)  (h : AH) (a0 : Nat) (a1 : Nat) (a2 : Int32)   (e : f_River_copyAllFrom_b111 k111 h a0 a1 a2 = some h') : Eb (Ev tb mL d) 113 (111, [.ref a0, .ref a1, .int a2], [], h) h' none := by
  unfold f_River_copyAllFrom_b111 at e
  refine eb_n 2 (113, [.ref a0, .ref a1, .int a2], [.ref a0, .int a2], h) (rfl) ?_
  obtain ⟨g1, e⟩ := gd_some e
  refine eb_g (p := hT h a0 = 3) (116, [.ref a0, .ref a1, .int a2], [.int (hI h a0 9), .int a2], h) rfl g1 ?_
  refine eb_b (c := (hI h a0 9) ≤ a2) (145, [.ref a0, .ref a1, .int a2], [], h) (119, [.ref a0, .ref a1, .int a2], [], h) rfl (fun c2 => ?_) (fun c2 => ?_)
  · replace e := ite_t c2 e
    exact f_River_copyAllFrom_b145_ev d hd   _ _ _ _ e
  · replace e := ite_f c2 e
    refine eb_n 2 (121, [.ref a0, .ref a1, .int a2], [.int (nI 4), .int a2], h) (rfl) ?_
    refine eb_b (c := (nI 4) ≤ a2) (145, [.ref a0, .ref a1, .int a2], [], h) (124, [.ref a0, .ref a1, .int a2], [], h) rfl (fun c3 => ?_) (fun c3 => ?_)
    · replace e := ite_t c3 e
      exact f_River_copyAllFrom_b145_ev d hd   _ _ _ _ e
    · replace e := ite_f c3 e
      refine eb_n 1 (125, [.ref a0, .ref a1, .int a2], [.ref a0], h) (rfl) ?_
      refine eb_g (p := hT h a0 = 3) (128, [.ref a0, .ref a1, .int a2], [.ref (hR h a0 3)], h) rfl g1 ?_
      refine eb_n 1 (129, [.ref a0, .ref a1, .int a2], [.int a2, .ref (hR h a0 3)], h) (rfl) ?_
      obtain ⟨g4, e⟩ := gd_some e
      refine eb_g (p := hT h (hR h a0 3) = 107 ∧ inb a2 (hL h (hR h a0 3))) (130, [.ref a0, .ref a1, .int a2], [.ref (hR h (hR h a0 3) (ix a2))], h) rfl g4 ?_
      refine eb_n 1 (131, [.ref a0, .ref a1, .int a2], [.ref a1, .ref (hR h (hR h a0 3) (ix a2))], h) (rfl) ?_
      obtain ⟨g5, e⟩ := gd_some e
      refine eb_g (p := hT h a1 = 3) (134, [.ref a0, .ref a1, .int a2], [.ref (hR h a1 3), .ref (hR h (hR h a0 3) (ix a2))], h) rfl g5 ?_
      refine eb_n 1 (135, [.ref a0, .ref a1, .int a2], [.int a2, .ref (hR h a1 3), .ref (hR h (hR h a0 3) (ix a2))], h) (rfl) ?_
      obtain ⟨g6, e⟩ := gd_some e
      refine eb_g (p := hT h (hR h a1 3) = 107 ∧ inb a2 (hL h (hR h a1 3))) (136, [.ref a0, .ref a1, .int a2], [.ref (hR h (hR h a1 3) (ix a2)), .ref (hR h (hR h a0 3) (ix a2))], h) rfl g6 ?_
      obtain ⟨g7, e⟩ := gd_some e
      obtain ⟨h8, eh8, e⟩ := bv_some e
      refine eb_cg (p := hT h (hR h (hR h a0 3) (ix a2)) = 7) rfl g7 (f_Boat_copyFrom_ev d (Nat.le_trans (by decide) hd) eh8) ?_
      show Eb _ 113 (139, [.ref a0, .ref a1, .int a2], [], h8) _ _
      obtain ⟨x9, hx9, e⟩ := lq_some e
      refine eb_n 1 (142, [.ref a0, .ref a1, .int x9], [], h8) (by subst hx9; rfl) ?_
      refine eb_n 1 (111, [.ref a0, .ref a1, .int x9], [], h8) (rfl) ?_
      exact hk111 _ _ _ _  e
set_option maxRecDepth 100000 in
set_option maxHeartbeats 4000000 in
theorem f_River_copyAllFrom_l111_ev {h' : AH} (d : Nat) (hd : 1 ≤ d)  : ∀ (n : Nat) (h : AH) (a0 : Nat) (a1 : Nat) (a2 : Int32)   (_ : f_River_copyAllFrom_l111  n h a0 a1 a2 = some h'), Eb (Ev tb mL d) 113 (111, [.ref a0, .ref a1, .int a2], [], h) h' none := by
  intro n
  induction n with
  | zero => intro h a0 a1 a2  e; exact nomatch e
  | succ n ih =>
    intro h a0 a1 a2  e
    exact f_River_copyAllFrom_b111_ev d hd _ (fun h a0 a1 a2  e => ih h a0 a1 a2  e) h a0 a1 a2  e
set_option maxRecDepth 100000 in
set_option maxHeartbeats 4000000 in
theorem f_River_copyAllFrom_b109_ev {h' : AH} (d : Nat) (hd : 1 ≤ d)  (h : AH) (a0 : Nat) (a1 : Nat)  (d2 : Value) (e : f_River_copyAllFrom_b109  h a0 a1 = some h') : Eb (Ev tb mL d) 113 (109, [.ref a0, .ref a1, d2], [], h) h' none := by
  unfold f_River_copyAllFrom_b109 at e
  refine eb_n 2 (111, [.ref a0, .ref a1, .int (nI 0)], [], h) (rfl) ?_
  exact f_River_copyAllFrom_l111_ev d hd   FU _ _ _ _  e
set_option maxRecDepth 100000 in
set_option maxHeartbeats 4000000 in
theorem f_River_copyAllFrom_b74_ev {h' : AH} (d : Nat) (hd : 1 ≤ d) (k74 : AH → Nat → Nat → Int32 → Option AH) (hk74 : ∀ (h : AH) (a0 : Nat) (a1 : Nat) (a2 : Int32)  , k74 h a0 a1 a2 = some h' → Eb (Ev tb mL d) 113 (74, [.ref a0, .ref a1, .int a2], [], h) h' none)  (h : AH) (a0 : Nat) (a1 : Nat) (a2 : Int32)   (e : f_River_copyAllFrom_b74 k74 h a0 a1 a2 = some h') : Eb (Ev tb mL d) 113 (74, [.ref a0, .ref a1, .int a2], [], h) h' none := by
  unfold f_River_copyAllFrom_b74 at e
  refine eb_n 2 (76, [.ref a0, .ref a1, .int a2], [.ref a0, .int a2], h) (rfl) ?_
  obtain ⟨g1, e⟩ := gd_some e
  refine eb_g (p := hT h a0 = 3) (79, [.ref a0, .ref a1, .int a2], [.int (hI h a0 8), .int a2], h) rfl g1 ?_
  refine eb_b (c := (hI h a0 8) ≤ a2) (109, [.ref a0, .ref a1, .int a2], [], h) (82, [.ref a0, .ref a1, .int a2], [], h) rfl (fun c2 => ?_) (fun c2 => ?_)
  · replace e := ite_t c2 e
    exact f_River_copyAllFrom_b109_ev d hd   _ _ _ _ e
  · replace e := ite_f c2 e
    refine eb_n 2 (85, [.ref a0, .ref a1, .int a2], [.int (nI 8), .int a2], h) (rfl) ?_
    refine eb_b (c := (nI 8) ≤ a2) (109, [.ref a0, .ref a1, .int a2], [], h) (88, [.ref a0, .ref a1, .int a2], [], h) rfl (fun c3 => ?_) (fun c3 => ?_)
    · replace e := ite_t c3 e
      exact f_River_copyAllFrom_b109_ev d hd   _ _ _ _ e
    · replace e := ite_f c3 e
      refine eb_n 1 (89, [.ref a0, .ref a1, .int a2], [.ref a0], h) (rfl) ?_
      refine eb_g (p := hT h a0 = 3) (92, [.ref a0, .ref a1, .int a2], [.ref (hR h a0 2)], h) rfl g1 ?_
      refine eb_n 1 (93, [.ref a0, .ref a1, .int a2], [.int a2, .ref (hR h a0 2)], h) (rfl) ?_
      obtain ⟨g4, e⟩ := gd_some e
      refine eb_g (p := hT h (hR h a0 2) = 106 ∧ inb a2 (hL h (hR h a0 2))) (94, [.ref a0, .ref a1, .int a2], [.ref (hR h (hR h a0 2) (ix a2))], h) rfl g4 ?_
      refine eb_n 1 (95, [.ref a0, .ref a1, .int a2], [.ref a1, .ref (hR h (hR h a0 2) (ix a2))], h) (rfl) ?_
      obtain ⟨g5, e⟩ := gd_some e
      refine eb_g (p := hT h a1 = 3) (98, [.ref a0, .ref a1, .int a2], [.ref (hR h a1 2), .ref (hR h (hR h a0 2) (ix a2))], h) rfl g5 ?_
      refine eb_n 1 (99, [.ref a0, .ref a1, .int a2], [.int a2, .ref (hR h a1 2), .ref (hR h (hR h a0 2) (ix a2))], h) (rfl) ?_
      obtain ⟨g6, e⟩ := gd_some e
      refine eb_g (p := hT h (hR h a1 2) = 106 ∧ inb a2 (hL h (hR h a1 2))) (100, [.ref a0, .ref a1, .int a2], [.ref (hR h (hR h a1 2) (ix a2)), .ref (hR h (hR h a0 2) (ix a2))], h) rfl g6 ?_
      obtain ⟨g7, e⟩ := gd_some e
      obtain ⟨h8, eh8, e⟩ := bv_some e
      refine eb_cg (p := hT h (hR h (hR h a0 2) (ix a2)) = 6) rfl g7 (f_Peeler_copyFrom_ev d (Nat.le_trans (by decide) hd) eh8) ?_
      show Eb _ 113 (103, [.ref a0, .ref a1, .int a2], [], h8) _ _
      obtain ⟨x9, hx9, e⟩ := lq_some e
      refine eb_n 1 (106, [.ref a0, .ref a1, .int x9], [], h8) (by subst hx9; rfl) ?_
      refine eb_n 1 (74, [.ref a0, .ref a1, .int x9], [], h8) (rfl) ?_
      exact hk74 _ _ _ _  e
set_option maxRecDepth 100000 in
set_option maxHeartbeats 4000000 in
theorem f_River_copyAllFrom_l74_ev {h' : AH} (d : Nat) (hd : 1 ≤ d)  : ∀ (n : Nat) (h : AH) (a0 : Nat) (a1 : Nat) (a2 : Int32)   (_ : f_River_copyAllFrom_l74  n h a0 a1 a2 = some h'), Eb (Ev tb mL d) 113 (74, [.ref a0, .ref a1, .int a2], [], h) h' none := by
  intro n
  induction n with
  | zero => intro h a0 a1 a2  e; exact nomatch e
  | succ n ih =>
    intro h a0 a1 a2  e
    exact f_River_copyAllFrom_b74_ev d hd _ (fun h a0 a1 a2  e => ih h a0 a1 a2  e) h a0 a1 a2  e
set_option maxRecDepth 100000 in
set_option maxHeartbeats 4000000 in
theorem f_River_copyAllFrom_b72_ev {h' : AH} (d : Nat) (hd : 1 ≤ d)  (h : AH) (a0 : Nat) (a1 : Nat)  (d2 : Value) (e : f_River_copyAllFrom_b72  h a0 a1 = some h') : Eb (Ev tb mL d) 113 (72, [.ref a0, .ref a1, d2], [], h) h' none := by
  unfold f_River_copyAllFrom_b72 at e
  refine eb_n 2 (74, [.ref a0, .ref a1, .int (nI 0)], [], h) (rfl) ?_
  exact f_River_copyAllFrom_l74_ev d hd   FU _ _ _ _  e
set_option maxRecDepth 100000 in
set_option maxHeartbeats 4000000 in
theorem f_River_copyAllFrom_b38_ev {h' : AH} (d : Nat) (hd : 1 ≤ d) (k38 : AH → Nat → Nat → Int32 → Option AH) (hk38 : ∀ (h : AH) (a0 : Nat) (a1 : Nat) (a2 : Int32)  , k38 h a0 a1 a2 = some h' → Eb (Ev tb mL d) 113 (38, [.ref a0, .ref a1, .int a2], [], h) h' none)  (h : AH) (a0 : Nat) (a1 : Nat) (a2 : Int32)   (e : f_River_copyAllFrom_b38 k38 h a0 a1 a2 = some h') : Eb (Ev tb mL d) 113 (38, [.ref a0, .ref a1, .int a2], [], h) h' none := by
  unfold f_River_copyAllFrom_b38 at e
  refine eb_n 2 (40, [.ref a0, .ref a1, .int a2], [.ref a0, .int a2], h) (rfl) ?_
  obtain ⟨g1, e⟩ := gd_some e
  refine eb_g (p := hT h a0 = 3) (43, [.ref a0, .ref a1, .int a2], [.int (hI h a0 7), .int a2], h) rfl g1 ?_
  refine eb_b (c := (hI h a0 7) ≤ a2) (72, [.ref a0, .ref a1, .int a2], [], h) (46, [.ref a0, .ref a1, .int a2], [], h) rfl (fun c2 => ?_) (fun c2 => ?_)
  · replace e := ite_t c2 e
    exact f_River_copyAllFrom_b72_ev d hd   _ _ _ _ e
  · replace e := ite_f c2 e
    refine eb_n 2 (48, [.ref a0, .ref a1, .int a2], [.int (nI 4), .int a2], h) (rfl) ?_
    refine eb_b (c := (nI 4) ≤ a2) (72, [.ref a0, .ref a1, .int a2], [], h) (51, [.ref a0, .ref a1, .int a2], [], h) rfl (fun c3 => ?_) (fun c3 => ?_)
    · replace e := ite_t c3 e
      exact f_River_copyAllFrom_b72_ev d hd   _ _ _ _ e
    · replace e := ite_f c3 e
      refine eb_n 1 (52, [.ref a0, .ref a1, .int a2], [.ref a0], h) (rfl) ?_
      refine eb_g (p := hT h a0 = 3) (55, [.ref a0, .ref a1, .int a2], [.ref (hR h a0 1)], h) rfl g1 ?_
      refine eb_n 1 (56, [.ref a0, .ref a1, .int a2], [.int a2, .ref (hR h a0 1)], h) (rfl) ?_
      obtain ⟨g4, e⟩ := gd_some e
      refine eb_g (p := hT h (hR h a0 1) = 105 ∧ inb a2 (hL h (hR h a0 1))) (57, [.ref a0, .ref a1, .int a2], [.ref (hR h (hR h a0 1) (ix a2))], h) rfl g4 ?_
      refine eb_n 1 (58, [.ref a0, .ref a1, .int a2], [.ref a1, .ref (hR h (hR h a0 1) (ix a2))], h) (rfl) ?_
      obtain ⟨g5, e⟩ := gd_some e
      refine eb_g (p := hT h a1 = 3) (61, [.ref a0, .ref a1, .int a2], [.ref (hR h a1 1), .ref (hR h (hR h a0 1) (ix a2))], h) rfl g5 ?_
      refine eb_n 1 (62, [.ref a0, .ref a1, .int a2], [.int a2, .ref (hR h a1 1), .ref (hR h (hR h a0 1) (ix a2))], h) (rfl) ?_
      obtain ⟨g6, e⟩ := gd_some e
      refine eb_g (p := hT h (hR h a1 1) = 105 ∧ inb a2 (hL h (hR h a1 1))) (63, [.ref a0, .ref a1, .int a2], [.ref (hR h (hR h a1 1) (ix a2)), .ref (hR h (hR h a0 1) (ix a2))], h) rfl g6 ?_
      obtain ⟨g7, e⟩ := gd_some e
      obtain ⟨h8, eh8, e⟩ := bv_some e
      refine eb_cg (p := hT h (hR h (hR h a0 1) (ix a2)) = 5) rfl g7 (f_Rack_copyFrom_ev d (Nat.le_trans (by decide) hd) eh8) ?_
      show Eb _ 113 (66, [.ref a0, .ref a1, .int a2], [], h8) _ _
      obtain ⟨x9, hx9, e⟩ := lq_some e
      refine eb_n 1 (69, [.ref a0, .ref a1, .int x9], [], h8) (by subst hx9; rfl) ?_
      refine eb_n 1 (38, [.ref a0, .ref a1, .int x9], [], h8) (rfl) ?_
      exact hk38 _ _ _ _  e
set_option maxRecDepth 100000 in
set_option maxHeartbeats 4000000 in
theorem f_River_copyAllFrom_l38_ev {h' : AH} (d : Nat) (hd : 1 ≤ d)  : ∀ (n : Nat) (h : AH) (a0 : Nat) (a1 : Nat) (a2 : Int32)   (_ : f_River_copyAllFrom_l38  n h a0 a1 a2 = some h'), Eb (Ev tb mL d) 113 (38, [.ref a0, .ref a1, .int a2], [], h) h' none := by
  intro n
  induction n with
  | zero => intro h a0 a1 a2  e; exact nomatch e
  | succ n ih =>
    intro h a0 a1 a2  e
    exact f_River_copyAllFrom_b38_ev d hd _ (fun h a0 a1 a2  e => ih h a0 a1 a2  e) h a0 a1 a2  e
set_option maxRecDepth 100000 in
set_option maxHeartbeats 4000000 in
theorem f_River_copyAllFrom_b36_ev {h' : AH} (d : Nat) (hd : 1 ≤ d)  (h : AH) (a0 : Nat) (a1 : Nat)  (d2 : Value) (e : f_River_copyAllFrom_b36  h a0 a1 = some h') : Eb (Ev tb mL d) 113 (36, [.ref a0, .ref a1, d2], [], h) h' none := by
  unfold f_River_copyAllFrom_b36 at e
  refine eb_n 2 (38, [.ref a0, .ref a1, .int (nI 0)], [], h) (rfl) ?_
  exact f_River_copyAllFrom_l38_ev d hd   FU _ _ _ _  e
set_option maxRecDepth 100000 in
set_option maxHeartbeats 4000000 in
theorem f_River_copyAllFrom_b2_ev {h' : AH} (d : Nat) (hd : 1 ≤ d) (k2 : AH → Nat → Nat → Int32 → Option AH) (hk2 : ∀ (h : AH) (a0 : Nat) (a1 : Nat) (a2 : Int32)  , k2 h a0 a1 a2 = some h' → Eb (Ev tb mL d) 113 (2, [.ref a0, .ref a1, .int a2], [], h) h' none)  (h : AH) (a0 : Nat) (a1 : Nat) (a2 : Int32)   (e : f_River_copyAllFrom_b2 k2 h a0 a1 a2 = some h') : Eb (Ev tb mL d) 113 (2, [.ref a0, .ref a1, .int a2], [], h) h' none := by
  unfold f_River_copyAllFrom_b2 at e
  refine eb_n 2 (4, [.ref a0, .ref a1, .int a2], [.ref a0, .int a2], h) (rfl) ?_
  obtain ⟨g1, e⟩ := gd_some e
  refine eb_g (p := hT h a0 = 3) (7, [.ref a0, .ref a1, .int a2], [.int (hI h a0 6), .int a2], h) rfl g1 ?_
  refine eb_b (c := (hI h a0 6) ≤ a2) (36, [.ref a0, .ref a1, .int a2], [], h) (10, [.ref a0, .ref a1, .int a2], [], h) rfl (fun c2 => ?_) (fun c2 => ?_)
  · replace e := ite_t c2 e
    exact f_River_copyAllFrom_b36_ev d hd   _ _ _ _ e
  · replace e := ite_f c2 e
    refine eb_n 2 (12, [.ref a0, .ref a1, .int a2], [.int (nI 4), .int a2], h) (rfl) ?_
    refine eb_b (c := (nI 4) ≤ a2) (36, [.ref a0, .ref a1, .int a2], [], h) (15, [.ref a0, .ref a1, .int a2], [], h) rfl (fun c3 => ?_) (fun c3 => ?_)
    · replace e := ite_t c3 e
      exact f_River_copyAllFrom_b36_ev d hd   _ _ _ _ e
    · replace e := ite_f c3 e
      refine eb_n 1 (16, [.ref a0, .ref a1, .int a2], [.ref a0], h) (rfl) ?_
      refine eb_g (p := hT h a0 = 3) (19, [.ref a0, .ref a1, .int a2], [.ref (hR h a0 0)], h) rfl g1 ?_
      refine eb_n 1 (20, [.ref a0, .ref a1, .int a2], [.int a2, .ref (hR h a0 0)], h) (rfl) ?_
      obtain ⟨g4, e⟩ := gd_some e
      refine eb_g (p := hT h (hR h a0 0) = 104 ∧ inb a2 (hL h (hR h a0 0))) (21, [.ref a0, .ref a1, .int a2], [.ref (hR h (hR h a0 0) (ix a2))], h) rfl g4 ?_
      refine eb_n 1 (22, [.ref a0, .ref a1, .int a2], [.ref a1, .ref (hR h (hR h a0 0) (ix a2))], h) (rfl) ?_
      obtain ⟨g5, e⟩ := gd_some e
      refine eb_g (p := hT h a1 = 3) (25, [.ref a0, .ref a1, .int a2], [.ref (hR h a1 0), .ref (hR h (hR h a0 0) (ix a2))], h) rfl g5 ?_
      refine eb_n 1 (26, [.ref a0, .ref a1, .int a2], [.int a2, .ref (hR h a1 0), .ref (hR h (hR h a0 0) (ix a2))], h) (rfl) ?_
      obtain ⟨g6, e⟩ := gd_some e
      refine eb_g (p := hT h (hR h a1 0) = 104 ∧ inb a2 (hL h (hR h a1 0))) (27, [.ref a0, .ref a1, .int a2], [.ref (hR h (hR h a1 0) (ix a2)), .ref (hR h (hR h a0 0) (ix a2))], h) rfl g6 ?_
      obtain ⟨g7, e⟩ := gd_some e
      obtain ⟨h8, eh8, e⟩ := bv_some e
      refine eb_cg (p := hT h (hR h (hR h a0 0) (ix a2)) = 4) rfl g7 (f_Garden_copyFrom_ev d (Nat.le_trans (by decide) hd) eh8) ?_
      show Eb _ 113 (30, [.ref a0, .ref a1, .int a2], [], h8) _ _
      obtain ⟨x9, hx9, e⟩ := lq_some e
      refine eb_n 1 (33, [.ref a0, .ref a1, .int x9], [], h8) (by subst hx9; rfl) ?_
      refine eb_n 1 (2, [.ref a0, .ref a1, .int x9], [], h8) (rfl) ?_
      exact hk2 _ _ _ _  e
set_option maxRecDepth 100000 in
set_option maxHeartbeats 4000000 in
theorem f_River_copyAllFrom_l2_ev {h' : AH} (d : Nat) (hd : 1 ≤ d)  : ∀ (n : Nat) (h : AH) (a0 : Nat) (a1 : Nat) (a2 : Int32)   (_ : f_River_copyAllFrom_l2  n h a0 a1 a2 = some h'), Eb (Ev tb mL d) 113 (2, [.ref a0, .ref a1, .int a2], [], h) h' none := by
  intro n
  induction n with
  | zero => intro h a0 a1 a2  e; exact nomatch e
  | succ n ih =>
    intro h a0 a1 a2  e
    exact f_River_copyAllFrom_b2_ev d hd _ (fun h a0 a1 a2  e => ih h a0 a1 a2  e) h a0 a1 a2  e
set_option maxRecDepth 100000 in
set_option maxHeartbeats 4000000 in
theorem f_River_copyAllFrom_ev (d0 : Nat) (hd0 : 2 ≤ d0) {h' : AH} {h : AH} {a0 : Nat} {a1 : Nat} (e : f_River_copyAllFrom h a0 a1 = some h') : Ev tb mL d0 113 [.ref a0, .ref a1] h h' none := by
  obtain ⟨d, rfl⟩ : ∃ d, d0 = d + 1 := ⟨d0 - 1, by omega⟩
  have hd : 1 ≤ d := by omega
  refine ⟨Nat.le_of_ble_eq_true rfl, ?_⟩
  show Eb (Ev tb mL d) 113 (0, [.ref a0, .ref a1, .retAddr 0], [], h) h' none
  unfold f_River_copyAllFrom at e
  refine eb_n 2 (2, [.ref a0, .ref a1, .int (nI 0)], [], h) (rfl) ?_
  exact f_River_copyAllFrom_l2_ev d hd   FU _ _ _ _  e
set_option maxRecDepth 100000 in
set_option maxHeartbeats 4000000 in
theorem f_River_copyFrom_b98_ev {h' : AH} (d : Nat) (hd : 2 ≤ d) (k98 : AH → Nat → Nat → Int32 → Option AH) (hk98 : ∀ (h : AH) (a0 : Nat) (a1 : Nat) (a2 : Int32)  , k98 h a0 a1 a2 = some h' → Eb (Ev tb mL d) 67 (98, [.ref a0, .ref a1, .int a2], [], h) h' none)  (h : AH) (a0 : Nat) (a1 : Nat) (a2 : Int32)   (e : f_River_copyFrom_b98 k98 h a0 a1 a2 = some h') : Eb (Ev tb mL d) 67 (98, [.ref a0, .ref a1, .int a2], [], h) h' none := by
  unfold f_River_copyFrom_b98 at e
  refine eb_n 2 (101, [.ref a0, .ref a1, .int a2], [.int (nI 12), .int a2], h) (rfl) ?_
  refine eb_b (c := (nI 12) ≤ a2) (122, [.ref a0, .ref a1, .int a2], [], h) (104, [.ref a0, .ref a1, .int a2], [], h) rfl (fun c1 => ?_) (fun c1 => ?_)
  · replace e := ite_t c1 e
    refine eb_n 2 (124, [.ref a0, .ref a1, .int a2], [.ref a1, .ref a0], h) (rfl) ?_
    obtain ⟨g2, e⟩ := gd_some e
    obtain ⟨h3, eh3, e⟩ := bv_some e
    refine eb_cg (p := hT h a0 = 3) rfl g2 (f_River_copyAllFrom_ev d (Nat.le_trans (by decide) hd) eh3) ?_
    show Eb _ 67 (127, [.ref a0, .ref a1, .int a2], [], h3) _ _
    rw [sv_inj e]
    exact eb_r rfl
  · replace e := ite_f c1 e
    refine eb_n 1 (105, [.ref a0, .ref a1, .int a2], [.ref a0], h) (rfl) ?_
    obtain ⟨g4, e⟩ := gd_some e
    refine eb_g (p := hT h a0 = 3) (108, [.ref a0, .ref a1, .int a2], [.ref (hR h a0 5)], h) rfl g4 ?_
    refine eb_n 2 (110, [.ref a0, .ref a1, .int a2], [.ref a1, .int a2, .ref (hR h a0 5)], h) (rfl) ?_
    obtain ⟨g5, e⟩ := gd_some e
    refine eb_g (p := hT h a1 = 3) (113, [.ref a0, .ref a1, .int a2], [.ref (hR h a1 5), .int a2, .ref (hR h a0 5)], h) rfl g5 ?_
    refine eb_n 1 (114, [.ref a0, .ref a1, .int a2], [.int a2, .ref (hR h a1 5), .int a2, .ref (hR h a0 5)], h) (rfl) ?_
    obtain ⟨g6, e⟩ := gd_some e
    refine eb_g (p := hT h (hR h a1 5) = 101 ∧ inb a2 (hL h (hR h a1 5))) (115, [.ref a0, .ref a1, .int a2], [.int (hI h (hR h a1 5) (ix a2)), .int a2, .ref (hR h a0 5)], h) rfl g6 ?_
    obtain ⟨g7, e⟩ := gd_some e
    obtain ⟨h8, eh8, e⟩ := lq_some e
    refine eb_g (p := hT h (hR h a0 5) = 101 ∧ inb a2 (hL h (hR h a0 5))) (116, [.ref a0, .ref a1, .int a2], [], h8) (by rw [eh8]; rfl) g7 ?_
    obtain ⟨x9, hx9, e⟩ := lq_some e
    refine eb_n 1 (119, [.ref a0, .ref a1, .int x9], [], h8) (by subst hx9; rfl) ?_
    refine eb_n 1 (98, [.ref a0, .ref a1, .int x9], [], h8) (rfl) ?_
    exact hk98 _ _ _ _  e
set_option maxRecDepth 100000 in
set_option maxHeartbeats 4000000 in
theorem f_River_copyFrom_l98_ev {h' : AH} (d : Nat) (hd : 2 ≤ d)  : ∀ (n : Nat) (h : AH) (a0 : Nat) (a1 : Nat) (a2 : Int32)   (_ : f_River_copyFrom_l98  n h a0 a1 a2 = some h'), Eb (Ev tb mL d) 67 (98, [.ref a0, .ref a1, .int a2], [], h) h' none := by
  intro n
  induction n with
  | zero => intro h a0 a1 a2  e; exact nomatch e
  | succ n ih =>
    intro h a0 a1 a2  e
    exact f_River_copyFrom_b98_ev d hd _ (fun h a0 a1 a2  e => ih h a0 a1 a2  e) h a0 a1 a2  e
set_option maxRecDepth 100000 in
set_option maxHeartbeats 4000000 in
theorem f_River_copyFrom_ev (d0 : Nat) (hd0 : 3 ≤ d0) {h' : AH} {h : AH} {a0 : Nat} {a1 : Nat} (e : f_River_copyFrom h a0 a1 = some h') : Ev tb mL d0 67 [.ref a0, .ref a1] h h' none := by
  obtain ⟨d, rfl⟩ : ∃ d, d0 = d + 1 := ⟨d0 - 1, by omega⟩
  have hd : 2 ≤ d := by omega
  refine ⟨Nat.le_of_ble_eq_true rfl, ?_⟩
  show Eb (Ev tb mL d) 67 (0, [.ref a0, .ref a1, .retAddr 0], [], h) h' none
  unfold f_River_copyFrom at e
  refine eb_n 2 (2, [.ref a0, .ref a1, .retAddr 0], [.ref a1, .ref a0], h) (rfl) ?_
  obtain ⟨g1, e⟩ := gd_some e
  refine eb_g (p := hT h a1 = 3) (5, [.ref a0, .ref a1, .retAddr 0], [.int (hI h a1 6), .ref a0], h) rfl g1 ?_
  obtain ⟨g2, e⟩ := gd_some e
  obtain ⟨h3, eh3, e⟩ := lq_some e
  refine eb_g (p := hT h a0 = 3) (8, [.ref a0, .ref a1, .retAddr 0], [], h3) (by rw [eh3]; rfl) g2 ?_
  refine eb_n 2 (10, [.ref a0, .ref a1, .retAddr 0], [.ref a1, .ref a0], h3) (rfl) ?_
  obtain ⟨g4, e⟩ := gd_some e
  refine eb_g (p := hT h3 a1 = 3) (13, [.ref a0, .ref a1, .retAddr 0], [.int (hI h3 a1 7), .ref a0], h3) rfl g4 ?_
  obtain ⟨g5, e⟩ := gd_some e
  obtain ⟨h6, eh6, e⟩ := lq_some e
  refine eb_g (p := hT h3 a0 = 3) (16, [.ref a0, .ref a1, .retAddr 0], [], h6) (by rw [eh6]; rfl) g5 ?_
  refine eb_n 2 (18, [.ref a0, .ref a1, .retAddr 0], [.ref a1, .ref a0], h6) (rfl) ?_
  obtain ⟨g7, e⟩ := gd_some e
  refine eb_g (p := hT h6 a1 = 3) (21, [.ref a0, .ref a1, .retAddr 0], [.int (hI h6 a1 8), .ref a0], h6) rfl g7 ?_
  obtain ⟨g8, e⟩ := gd_some e
  obtain ⟨h9, eh9, e⟩ := lq_some e
  refine eb_g (p := hT h6 a0 = 3) (24, [.ref a0, .ref a1, .retAddr 0], [], h9) (by rw [eh9]; rfl) g8 ?_
  refine eb_n 2 (26, [.ref a0, .ref a1, .retAddr 0], [.ref a1, .ref a0], h9) (rfl) ?_
  obtain ⟨g10, e⟩ := gd_some e
  refine eb_g (p := hT h9 a1 = 3) (29, [.ref a0, .ref a1, .retAddr 0], [.int (hI h9 a1 9), .ref a0], h9) rfl g10 ?_
  obtain ⟨g11, e⟩ := gd_some e
  obtain ⟨h12, eh12, e⟩ := lq_some e
  refine eb_g (p := hT h9 a0 = 3) (32, [.ref a0, .ref a1, .retAddr 0], [], h12) (by rw [eh12]; rfl) g11 ?_
  refine eb_n 2 (34, [.ref a0, .ref a1, .retAddr 0], [.ref a1, .ref a0], h12) (rfl) ?_
  obtain ⟨g13, e⟩ := gd_some e
  refine eb_g (p := hT h12 a1 = 3) (37, [.ref a0, .ref a1, .retAddr 0], [.int (hI h12 a1 10), .ref a0], h12) rfl g13 ?_
  obtain ⟨g14, e⟩ := gd_some e
  obtain ⟨h15, eh15, e⟩ := lq_some e
  refine eb_g (p := hT h12 a0 = 3) (40, [.ref a0, .ref a1, .retAddr 0], [], h15) (by rw [eh15]; rfl) g14 ?_
  refine eb_n 2 (42, [.ref a0, .ref a1, .retAddr 0], [.ref a1, .ref a0], h15) (rfl) ?_
  obtain ⟨g16, e⟩ := gd_some e
  refine eb_g (p := hT h15 a1 = 3) (45, [.ref a0, .ref a1, .retAddr 0], [.int (hI h15 a1 11), .ref a0], h15) rfl g16 ?_
  obtain ⟨g17, e⟩ := gd_some e
  obtain ⟨h18, eh18, e⟩ := lq_some e
  refine eb_g (p := hT h15 a0 = 3) (48, [.ref a0, .ref a1, .retAddr 0], [], h18) (by rw [eh18]; rfl) g17 ?_
  refine eb_n 2 (50, [.ref a0, .ref a1, .retAddr 0], [.ref a1, .ref a0], h18) (rfl) ?_
  obtain ⟨g19, e⟩ := gd_some e
  refine eb_g (p := hT h18 a1 = 3) (53, [.ref a0, .ref a1, .retAddr 0], [.int (hI h18 a1 12), .ref a0], h18) rfl g19 ?_
  obtain ⟨g20, e⟩ := gd_some e
  obtain ⟨h21, eh21, e⟩ := lq_some e
  refine eb_g (p := hT h18 a0 = 3) (56, [.ref a0, .ref a1, .retAddr 0], [], h21) (by rw [eh21]; rfl) g20 ?_
  refine eb_n 2 (58, [.ref a0, .ref a1, .retAddr 0], [.ref a1, .ref a0], h21) (rfl) ?_
  obtain ⟨g22, e⟩ := gd_some e
  refine eb_g (p := hT h21 a1 = 3) (61, [.ref a0, .ref a1, .retAddr 0], [.int (hI h21 a1 13), .ref a0], h21) rfl g22 ?_
  obtain ⟨g23, e⟩ := gd_some e
  obtain ⟨h24, eh24, e⟩ := lq_some e
  refine eb_g (p := hT h21 a0 = 3) (64, [.ref a0, .ref a1, .retAddr 0], [], h24) (by rw [eh24]; rfl) g23 ?_
  refine eb_n 2 (66, [.ref a0, .ref a1, .retAddr 0], [.ref a1, .ref a0], h24) (rfl) ?_
  obtain ⟨g25, e⟩ := gd_some e
  refine eb_g (p := hT h24 a1 = 3) (69, [.ref a0, .ref a1, .retAddr 0], [.int (hI h24 a1 14), .ref a0], h24) rfl g25 ?_
  obtain ⟨g26, e⟩ := gd_some e
  obtain ⟨h27, eh27, e⟩ := lq_some e
  refine eb_g (p := hT h24 a0 = 3) (72, [.ref a0, .ref a1, .retAddr 0], [], h27) (by rw [eh27]; rfl) g26 ?_
  refine eb_n 2 (74, [.ref a0, .ref a1, .retAddr 0], [.ref a1, .ref a0], h27) (rfl) ?_
  obtain ⟨g28, e⟩ := gd_some e
  refine eb_g (p := hT h27 a1 = 3) (77, [.ref a0, .ref a1, .retAddr 0], [.int (hI h27 a1 15), .ref a0], h27) rfl g28 ?_
  obtain ⟨g29, e⟩ := gd_some e
  obtain ⟨h30, eh30, e⟩ := lq_some e
  refine eb_g (p := hT h27 a0 = 3) (80, [.ref a0, .ref a1, .retAddr 0], [], h30) (by rw [eh30]; rfl) g29 ?_
  refine eb_n 2 (82, [.ref a0, .ref a1, .retAddr 0], [.ref a1, .ref a0], h30) (rfl) ?_
  obtain ⟨g31, e⟩ := gd_some e
  refine eb_g (p := hT h30 a1 = 3) (85, [.ref a0, .ref a1, .retAddr 0], [.int (hI h30 a1 16), .ref a0], h30) rfl g31 ?_
  obtain ⟨g32, e⟩ := gd_some e
  obtain ⟨h33, eh33, e⟩ := lq_some e
  refine eb_g (p := hT h30 a0 = 3) (88, [.ref a0, .ref a1, .retAddr 0], [], h33) (by rw [eh33]; rfl) g32 ?_
  refine eb_n 2 (90, [.ref a0, .ref a1, .retAddr 0], [.ref a1, .ref a0], h33) (rfl) ?_
  obtain ⟨g34, e⟩ := gd_some e
  refine eb_g (p := hT h33 a1 = 3) (93, [.ref a0, .ref a1, .retAddr 0], [.int (hI h33 a1 17), .ref a0], h33) rfl g34 ?_
  obtain ⟨g35, e⟩ := gd_some e
  obtain ⟨h36, eh36, e⟩ := lq_some e
  refine eb_g (p := hT h33 a0 = 3) (96, [.ref a0, .ref a1, .retAddr 0], [], h36) (by rw [eh36]; rfl) g35 ?_
  refine eb_n 2 (98, [.ref a0, .ref a1, .int (nI 0)], [], h36) (rfl) ?_
  exact f_River_copyFrom_l98_ev d hd   FU _ _ _ _  e
set_option maxRecDepth 100000 in
set_option maxHeartbeats 4000000 in
theorem f_QuillBoats_takeWhatWasTold_ev (d0 : Nat) (hd0 : 4 ≤ d0) {h' : AH} {h : AH} {a0 : Nat} (e : f_QuillBoats_takeWhatWasTold h a0 = some h') : Ev tb mL d0 101 [.ref a0] h h' none := by
  obtain ⟨d, rfl⟩ : ∃ d, d0 = d + 1 := ⟨d0 - 1, by omega⟩
  have hd : 3 ≤ d := by omega
  refine ⟨Nat.le_of_ble_eq_true rfl, ?_⟩
  show Eb (Ev tb mL d) 101 (0, [.ref a0], [], h) h' none
  unfold f_QuillBoats_takeWhatWasTold at e
  refine eb_n 1 (1, [.ref a0], [.ref a0], h) (rfl) ?_
  obtain ⟨g1, e⟩ := gd_some e
  refine eb_g (p := hT h a0 = 1) (4, [.ref a0], [.ref (hR h a0 8)], h) rfl g1 ?_
  refine eb_n 1 (5, [.ref a0], [.ref a0, .ref (hR h a0 8)], h) (rfl) ?_
  refine eb_g (p := hT h a0 = 1) (8, [.ref a0], [.ref (hR h a0 7), .ref (hR h a0 8)], h) rfl g1 ?_
  obtain ⟨g2, e⟩ := gd_some e
  obtain ⟨h3, eh3, e⟩ := bv_some e
  refine eb_cg (p := hT h (hR h a0 8) = 2) rfl g2 (f_Orders_resolve_ev d (Nat.le_trans (by decide) hd) eh3) ?_
  show Eb _ 101 (11, [.ref a0], [], h3) _ _
  refine eb_n 1 (12, [.ref a0], [.ref a0], h3) (rfl) ?_
  obtain ⟨g4, e⟩ := gd_some e
  refine eb_g (p := hT h3 a0 = 1) (15, [.ref a0], [.ref (hR h3 a0 3)], h3) rfl g4 ?_
  refine eb_n 1 (16, [.ref a0], [.ref a0, .ref (hR h3 a0 3)], h3) (rfl) ?_
  refine eb_g (p := hT h3 a0 = 1) (19, [.ref a0], [.ref (hR h3 a0 8), .ref (hR h3 a0 3)], h3) rfl g4 ?_
  obtain ⟨g5, e⟩ := gd_some e
  obtain ⟨h6, eh6, e⟩ := bv_some e
  refine eb_cg (p := hT h3 (hR h3 a0 3) = 2) rfl g5 (f_Orders_copyFrom_ev d (Nat.le_trans (by decide) hd) eh6) ?_
  show Eb _ 101 (22, [.ref a0], [], h6) _ _
  refine eb_n 1 (23, [.ref a0], [.ref a0], h6) (rfl) ?_
  obtain ⟨g7, e⟩ := gd_some e
  refine eb_g (p := hT h6 a0 = 1) (26, [.ref a0], [.ref (hR h6 a0 9)], h6) rfl g7 ?_
  refine eb_n 1 (27, [.ref a0], [.ref a0, .ref (hR h6 a0 9)], h6) (rfl) ?_
  refine eb_g (p := hT h6 a0 = 1) (30, [.ref a0], [.ref (hR h6 a0 4), .ref (hR h6 a0 9)], h6) rfl g7 ?_
  obtain ⟨g8, e⟩ := gd_some e
  refine eb_g (p := hT h6 (hR h6 a0 4) = 3) (33, [.ref a0], [.int (hI h6 (hR h6 a0 4) 11), .ref (hR h6 a0 9)], h6) rfl g8 ?_
  obtain ⟨g9, e⟩ := gd_some e
  obtain ⟨h10, eh10, e⟩ := lq_some e
  refine eb_g (p := hT h6 (hR h6 a0 9) = 3) (36, [.ref a0], [], h10) (by rw [eh10]; rfl) g9 ?_
  refine eb_n 1 (37, [.ref a0], [.ref a0], h10) (rfl) ?_
  obtain ⟨g11, e⟩ := gd_some e
  refine eb_g (p := hT h10 a0 = 1) (40, [.ref a0], [.ref (hR h10 a0 4)], h10) rfl g11 ?_
  refine eb_n 1 (41, [.ref a0], [.ref a0, .ref (hR h10 a0 4)], h10) (rfl) ?_
  refine eb_g (p := hT h10 a0 = 1) (44, [.ref a0], [.ref (hR h10 a0 9), .ref (hR h10 a0 4)], h10) rfl g11 ?_
  obtain ⟨g12, e⟩ := gd_some e
  obtain ⟨h13, eh13, e⟩ := bv_some e
  refine eb_cg (p := hT h10 (hR h10 a0 4) = 3) rfl g12 (f_River_copyFrom_ev d (Nat.le_trans (by decide) hd) eh13) ?_
  show Eb _ 101 (47, [.ref a0], [], h13) _ _
  rw [sv_inj e]
  exact eb_r rfl
set_option maxRecDepth 100000 in
set_option maxHeartbeats 4000000 in
theorem f_QuillBoats_teach_ev (d0 : Nat) (hd0 : 67 ≤ d0) {h' : AH} {r : Int32} {h : AH} {a0 : Nat} (e : f_QuillBoats_teach h a0 = some (h', r)) : Ev tb mL d0 38 [.ref a0] h h' (some (.int r)) := by
  obtain ⟨d, rfl⟩ : ∃ d, d0 = d + 1 := ⟨d0 - 1, by omega⟩
  have hd : 66 ≤ d := by omega
  refine ⟨Nat.le_of_ble_eq_true rfl, ?_⟩
  show Eb (Ev tb mL d) 38 (0, [.ref a0, .retAddr 0], [], h) h' (some (.int r))
  unfold f_QuillBoats_teach at e
  refine eb_n 1 (1, [.ref a0, .retAddr 0], [.ref a0], h) (rfl) ?_
  obtain ⟨g1, e⟩ := gd_some e
  refine eb_g (p := hT h a0 = 1) (4, [.ref a0, .retAddr 0], [.ref (hR h a0 7)], h) rfl g1 ?_
  refine eb_n 1 (5, [.ref a0, .retAddr 0], [.ref a0, .ref (hR h a0 7)], h) (rfl) ?_
  refine eb_g (p := hT h a0 = 1) (8, [.ref a0, .retAddr 0], [.ref (hR h a0 0), .ref (hR h a0 7)], h) rfl g1 ?_
  refine eb_n 1 (9, [.ref a0, .retAddr 0], [.ref a0, .ref (hR h a0 0), .ref (hR h a0 7)], h) (rfl) ?_
  refine eb_g (p := hT h a0 = 1) (12, [.ref a0, .retAddr 0], [.int (hI h a0 1), .ref (hR h a0 0), .ref (hR h a0 7)], h) rfl g1 ?_
  obtain ⟨g2, e⟩ := gd_some e
  obtain ⟨h3, eh3, e⟩ := bv_some e
  refine eb_cg (p := hT h (hR h a0 7) = 11) rfl g2 (f_Tokens_split_ev d (Nat.le_trans (by decide) hd) eh3) ?_
  show Eb _ 38 (15, [.ref a0, .retAddr 0], [], h3) _ _
  refine eb_n 2 (17, [.ref a0, .retAddr 0], [.int (nI 0), .ref a0], h3) (rfl) ?_
  obtain ⟨g4, e⟩ := gd_some e
  obtain ⟨h5, eh5, e⟩ := lq_some e
  refine eb_g (p := hT h3 a0 = 1) (20, [.ref a0, .retAddr 0], [], h5) (by rw [eh5]; rfl) g4 ?_
  refine eb_n 1 (21, [.ref a0, .retAddr 0], [.ref a0], h5) (rfl) ?_
  obtain ⟨g6, e⟩ := gd_some e
  refine eb_g (p := hT h5 a0 = 1) (24, [.ref a0, .retAddr 0], [.ref (hR h5 a0 6)], h5) rfl g6 ?_
  obtain ⟨g7, e⟩ := gd_some e
  obtain ⟨h8, r9, eh8, e⟩ := bn_some e
  refine eb_cg (p := hT h5 (hR h5 a0 6) = 10) rfl g7 (f_Grammar_readsList_ev d (Nat.le_trans (by decide) hd) eh8) ?_
  show Eb _ 38 (27, [.ref a0, .retAddr 0], [.int r9], h8) _ _
  refine eb_b (c := ¬ r9 = 0) (50, [.ref a0, .retAddr 0], [], h8) (30, [.ref a0, .retAddr 0], [], h8) rfl (fun c10 => ?_) (fun c10 => ?_)
  · replace e := ite_t c10 e
    refine eb_n 1 (51, [.ref a0, .retAddr 0], [.ref a0], h8) (rfl) ?_
    obtain ⟨g11, e⟩ := gd_some e
    refine eb_g (p := hT h8 a0 = 1) (54, [.ref a0, .retAddr 0], [.ref (hR h8 a0 9)], h8) rfl g11 ?_
    obtain ⟨g12, e⟩ := gd_some e
    obtain ⟨h13, eh13, e⟩ := bv_some e
    refine eb_cg (p := hT h8 (hR h8 a0 9) = 3) rfl g12 (f_River_beginAnew_ev d (Nat.le_trans (by decide) hd) eh13) ?_
    show Eb _ 38 (57, [.ref a0, .retAddr 0], [], h13) _ _
    refine eb_n 1 (58, [.ref a0, .retAddr 0], [.ref a0], h13) (rfl) ?_
    obtain ⟨g14, e⟩ := gd_some e
    refine eb_g (p := hT h13 a0 = 1) (61, [.ref a0, .retAddr 0], [.ref (hR h13 a0 5)], h13) rfl g14 ?_
    obtain ⟨g15, e⟩ := gd_some e
    obtain ⟨h16, r17, eh16, e⟩ := bn_some e
    refine eb_cg (p := hT h13 (hR h13 a0 5) = 9) rfl g15 (f_Names_lookAtAll_ev d (Nat.le_trans (by decide) hd) eh16) ?_
    show Eb _ 38 (64, [.ref a0, .retAddr 0], [.int r17], h16) _ _
    refine eb_n 2 (66, [.ref a0, .int r17], [.int r17], h16) (rfl) ?_
    refine eb_b (c := r17 = 0) (89, [.ref a0, .int r17], [], h16) (69, [.ref a0, .int r17], [], h16) rfl (fun c18 => ?_) (fun c18 => ?_)
    · replace e := ite_t c18 e
      refine eb_n 1 (90, [.ref a0, .int r17], [.ref a0], h16) (rfl) ?_
      obtain ⟨g19, e⟩ := gd_some e
      obtain ⟨h20, eh20, e⟩ := bv_some e
      refine eb_cg (p := hT h16 a0 = 1) rfl g19 (f_QuillBoats_takeWhatWasTold_ev d (Nat.le_trans (by decide) hd) eh20) ?_
      show Eb _ 38 (93, [.ref a0, .int r17], [], h20) _ _
      refine eb_n 2 (95, [.ref a0, .int r17], [.int (-nI 1), .ref a0], h20) (rfl) ?_
      obtain ⟨g21, e⟩ := gd_some e
      obtain ⟨h22, eh22, e⟩ := lq_some e
      refine eb_g (p := hT h20 a0 = 1) (98, [.ref a0, .int r17], [], h22) (by rw [eh22]; rfl) g21 ?_
      refine eb_n 1 (99, [.ref a0, .int r17], [.int (nI 0)], h22) (rfl) ?_
      rw [(sp_inj e).1, (sp_inj e).2]
      exact eb_rg (p := nrm 0 (nI 0)) rfl (nrm_0 _)
    · replace e := ite_f c18 e
      refine eb_n 2 (71, [.ref a0, .int r17], [.ref a0, .ref a0], h16) (rfl) ?_
      obtain ⟨g23, e⟩ := gd_some e
      refine eb_g (p := hT h16 a0 = 1) (74, [.ref a0, .int r17], [.ref (hR h16 a0 7), .ref a0], h16) rfl g23 ?_
      refine eb_n 1 (75, [.ref a0, .int r17], [.ref a0, .ref (hR h16 a0 7), .ref a0], h16) (rfl) ?_
      refine eb_g (p := hT h16 a0 = 1) (78, [.ref a0, .int r17], [.ref (hR h16 a0 5), .ref (hR h16 a0 7), .ref a0], h16) rfl g23 ?_
      obtain ⟨g24, e⟩ := gd_some e
      obtain ⟨h25, r26, eh25, e⟩ := bn_some e
      refine eb_cg (p := hT h16 (hR h16 a0 5) = 9) rfl g24 (f_Names_place_ev d (Nat.le_trans (by decide) hd) eh25) ?_
      show Eb _ 38 (81, [.ref a0, .int r17], [.int r26, .ref (hR h16 a0 7), .ref a0], h25) _ _
      obtain ⟨g27, e⟩ := gd_some e
      obtain ⟨h28, r29, eh28, e⟩ := bn_some e
      refine eb_cg (p := hT h25 (hR h16 a0 7) = 11) rfl g27 (f_Tokens_startOf_ev d (Nat.le_trans (by decide) hd) eh28) ?_
      show Eb _ 38 (84, [.ref a0, .int r17], [.int r29, .ref a0], h28) _ _
      obtain ⟨g30, e⟩ := gd_some e
      obtain ⟨h31, eh31, e⟩ := lq_some e
      refine eb_g (p := hT h28 a0 = 1) (87, [.ref a0, .int r17], [], h31) (by rw [eh31]; rfl) g30 ?_
      refine eb_n 1 (88, [.ref a0, .int r17], [.int r17], h31) (rfl) ?_
      rw [(sp_inj e).1, (sp_inj e).2]
      exact eb_rg (p := nrm 0 r17) rfl (nrm_0 _)
  · replace e := ite_f c10 e
    refine eb_n 2 (32, [.ref a0, .retAddr 0], [.ref a0, .ref a0], h8) (rfl) ?_
    obtain ⟨g32, e⟩ := gd_some e
    refine eb_g (p := hT h8 a0 = 1) (35, [.ref a0, .retAddr 0], [.ref (hR h8 a0 7), .ref a0], h8) rfl g32 ?_
    refine eb_n 1 (36, [.ref a0, .retAddr 0], [.ref a0, .ref (hR h8 a0 7), .ref a0], h8) (rfl) ?_
    refine eb_g (p := hT h8 a0 = 1) (39, [.ref a0, .retAddr 0], [.ref (hR h8 a0 6), .ref (hR h8 a0 7), .ref a0], h8) rfl g32 ?_
    obtain ⟨g33, e⟩ := gd_some e
    obtain ⟨h34, r35, eh34, e⟩ := bn_some e
    refine eb_cg (p := hT h8 (hR h8 a0 6) = 10) rfl g33 (f_Grammar_place_ev d (Nat.le_trans (by decide) hd) eh34) ?_
    show Eb _ 38 (42, [.ref a0, .retAddr 0], [.int r35, .ref (hR h8 a0 7), .ref a0], h34) _ _
    obtain ⟨g36, e⟩ := gd_some e
    obtain ⟨h37, r38, eh37, e⟩ := bn_some e
    refine eb_cg (p := hT h34 (hR h8 a0 7) = 11) rfl g36 (f_Tokens_startOf_ev d (Nat.le_trans (by decide) hd) eh37) ?_
    show Eb _ 38 (45, [.ref a0, .retAddr 0], [.int r38, .ref a0], h37) _ _
    obtain ⟨g39, e⟩ := gd_some e
    obtain ⟨h40, eh40, e⟩ := lq_some e
    refine eb_g (p := hT h37 a0 = 1) (48, [.ref a0, .retAddr 0], [], h40) (by rw [eh40]; rfl) g39 ?_
    refine eb_n 1 (49, [.ref a0, .retAddr 0], [.int (nI 1)], h40) (rfl) ?_
    rw [(sp_inj e).1, (sp_inj e).2]
    exact eb_rg (p := nrm 0 (nI 1)) rfl (nrm_0 _)
set_option maxRecDepth 100000 in
set_option maxHeartbeats 4000000 in
theorem f_Law_say_b112_ev {h' : AH} {r : Int32} (d : Nat) (hd : 67 ≤ d)  (h : AH) (a0 : Nat)  (d1 : Value) (d2 : Value) (d3 : Value) (d4 : Value) (d5 : Value) (e : f_Law_say_b112  h a0 = some (h', r)) : Eb (Ev tb mL d) 4 (112, [.ref a0, d1, d2, d3, d4, d5], [], h) h' (some (.int r)) := by
  unfold f_Law_say_b112 at e
  refine eb_n 1 (113, [.ref a0, d1, d2, d3, d4, d5], [.ref a0], h) (rfl) ?_
  obtain ⟨g1, e⟩ := gd_some e
  obtain ⟨h2, r3, eh2, e⟩ := bn_some e
  refine eb_cg (p := hT h a0 = 1) rfl g1 (f_QuillBoats_teach_ev d (Nat.le_trans (by decide) hd) eh2) ?_
  show Eb _ 4 (116, [.ref a0, d1, d2, d3, d4, d5], [.int r3], h2) _ _
  rw [(sp_inj e).1, (sp_inj e).2]
  exact eb_rg (p := nrm 0 r3) rfl (nrm_0 _)
set_option maxRecDepth 100000 in
set_option maxHeartbeats 4000000 in
theorem f_Law_say_b63_ev {h' : AH} {r : Int32} (d : Nat) (hd : 67 ≤ d) (k7 : AH → Nat → Nat → Int32 → Int32 → Option (AH × Int32)) (k20 : AH → Nat → Nat → Int32 → Int32 → Nat → Int32 → Option (AH × Int32)) (hk7 : ∀ (h : AH) (a0 : Nat) (a1 : Nat) (a2 : Int32) (a3 : Int32)  (d4 : Value) (d5 : Value), k7 h a0 a1 a2 a3 = some (h', r) → Eb (Ev tb mL d) 4 (7, [.ref a0, .ref a1, .int a2, .int a3, d4, d5], [], h) h' (some (.int r))) (hk20 : ∀ (h : AH) (a0 : Nat) (a1 : Nat) (a2 : Int32) (a3 : Int32) (a4 : Nat) (a5 : Int32)  , k20 h a0 a1 a2 a3 a4 a5 = some (h', r) → Eb (Ev tb mL d) 4 (20, [.ref a0, .ref a1, .int a2, .int a3, .ref a4, .int a5], [], h) h' (some (.int r)))  (h : AH) (a0 : Nat) (a1 : Nat) (a2 : Int32) (a3 : Int32) (a4 : Nat) (a5 : Int32) (s0 : Nat) (s1 : Int32) (s2 : Int32) (s3 : Int32)  (e : f_Law_say_b63 k7 k20 h a0 a1 a2 a3 a4 a5 s0 s1 s2 s3 = some (h', r)) : Eb (Ev tb mL d) 4 (63, [.ref a0, .ref a1, .int a2, .int a3, .ref a4, .int a5], [.int s3, .int s2, .int s1, .ref s0], h) h' (some (.int r)) := by
  unfold f_Law_say_b63 at e
  refine eb_n 1 (64, [.ref a0, .ref a1, .int a2, .int a3, .ref a4, .int a5], [.int (s2 ||| s3), .int s1, .ref s0], h) (rfl) ?_
  obtain ⟨g1, e⟩ := gd_some e
  obtain ⟨h2, eh2, e⟩ := lq_some e
  refine eb_g (p := hT h s0 = 101 ∧ inb s1 (hL h s0)) (65, [.ref a0, .ref a1, .int a2, .int a3, .ref a4, .int a5], [], h2) (by rw [eh2]; rfl) g1 ?_
  obtain ⟨x3, hx3, e⟩ := lq_some e
  refine eb_n 1 (68, [.ref a0, .ref a1, .int a2, .int a3, .ref a4, .int x3], [], h2) (by subst hx3; rfl) ?_
  refine eb_n 1 (20, [.ref a0, .ref a1, .int a2, .int a3, .ref a4, .int x3], [], h2) (rfl) ?_
  exact hk20 _ _ _ _ _ _ _  e
set_option maxRecDepth 100000 in
set_option maxHeartbeats 4000000 in
theorem f_Law_say_b20_ev {h' : AH} {r : Int32} (d : Nat) (hd : 67 ≤ d) (k7 : AH → Nat → Nat → Int32 → Int32 → Option (AH × Int32)) (k20 : AH → Nat → Nat → Int32 → Int32 → Nat → Int32 → Option (AH × Int32)) (hk7 : ∀ (h : AH) (a0 : Nat) (a1 : Nat) (a2 : Int32) (a3 : Int32)  (d4 : Value) (d5 : Value), k7 h a0 a1 a2 a3 = some (h', r) → Eb (Ev tb mL d) 4 (7, [.ref a0, .ref a1, .int a2, .int a3, d4, d5], [], h) h' (some (.int r))) (hk20 : ∀ (h : AH) (a0 : Nat) (a1 : Nat) (a2 : Int32) (a3 : Int32) (a4 : Nat) (a5 : Int32)  , k20 h a0 a1 a2 a3 a4 a5 = some (h', r) → Eb (Ev tb mL d) 4 (20, [.ref a0, .ref a1, .int a2, .int a3, .ref a4, .int a5], [], h) h' (some (.int r)))  (h : AH) (a0 : Nat) (a1 : Nat) (a2 : Int32) (a3 : Int32) (a4 : Nat) (a5 : Int32)   (e : f_Law_say_b20 k7 k20 h a0 a1 a2 a3 a4 a5 = some (h', r)) : Eb (Ev tb mL d) 4 (20, [.ref a0, .ref a1, .int a2, .int a3, .ref a4, .int a5], [], h) h' (some (.int r)) := by
  unfold f_Law_say_b20 at e
  refine eb_n 2 (24, [.ref a0, .ref a1, .int a2, .int a3, .ref a4, .int a5], [.int (nI 20), .int a5], h) (rfl) ?_
  refine eb_b (c := (nI 20) ≤ a5) (71, [.ref a0, .ref a1, .int a2, .int a3, .ref a4, .int a5], [], h) (27, [.ref a0, .ref a1, .int a2, .int a3, .ref a4, .int a5], [], h) rfl (fun c1 => ?_) (fun c1 => ?_)
  · replace e := ite_t c1 e
    refine eb_n 3 (75, [.ref a0, .ref a1, .int a2, .int a3, .ref a4, .int a5], [.int (nI 0), .ref a4, .ref a0], h) (rfl) ?_
    obtain ⟨g2, e⟩ := gd_some e
    refine eb_g (p := hT h a4 = 101 ∧ inb (nI 0) (hL h a4)) (76, [.ref a0, .ref a1, .int a2, .int a3, .ref a4, .int a5], [.int (hI h a4 (ix (nI 0))), .ref a0], h) rfl g2 ?_
    refine eb_n 2 (79, [.ref a0, .ref a1, .int a2, .int a3, .ref a4, .int a5], [.int (nI 1), .ref a4, .int (hI h a4 (ix (nI 0))), .ref a0], h) (rfl) ?_
    obtain ⟨g3, e⟩ := gd_some e
    refine eb_g (p := hT h a4 = 101 ∧ inb (nI 1) (hL h a4)) (80, [.ref a0, .ref a1, .int a2, .int a3, .ref a4, .int a5], [.int (hI h a4 (ix (nI 1))), .int (hI h a4 (ix (nI 0))), .ref a0], h) rfl g3 ?_
    refine eb_n 2 (83, [.ref a0, .ref a1, .int a2, .int a3, .ref a4, .int a5], [.int (nI 2), .ref a4, .int (hI h a4 (ix (nI 1))), .int (hI h a4 (ix (nI 0))), .ref a0], h) (rfl) ?_
    obtain ⟨g4, e⟩ := gd_some e
    refine eb_g (p := hT h a4 = 101 ∧ inb (nI 2) (hL h a4)) (84, [.ref a0, .ref a1, .int a2, .int a3, .ref a4, .int a5], [.int (hI h a4 (ix (nI 2))), .int (hI h a4 (ix (nI 1))), .int (hI h a4 (ix (nI 0))), .ref a0], h) rfl g4 ?_
    refine eb_n 2 (87, [.ref a0, .ref a1, .int a2, .int a3, .ref a4, .int a5], [.int (nI 3), .ref a4, .int (hI h a4 (ix (nI 2))), .int (hI h a4 (ix (nI 1))), .int (hI h a4 (ix (nI 0))), .ref a0], h) (rfl) ?_
    obtain ⟨g5, e⟩ := gd_some e
    refine eb_g (p := hT h a4 = 101 ∧ inb (nI 3) (hL h a4)) (88, [.ref a0, .ref a1, .int a2, .int a3, .ref a4, .int a5], [.int (hI h a4 (ix (nI 3))), .int (hI h a4 (ix (nI 2))), .int (hI h a4 (ix (nI 1))), .int (hI h a4 (ix (nI 0))), .ref a0], h) rfl g5 ?_
    refine eb_n 2 (91, [.ref a0, .ref a1, .int a2, .int a3, .ref a4, .int a5], [.int (nI 4), .ref a4, .int (hI h a4 (ix (nI 3))), .int (hI h a4 (ix (nI 2))), .int (hI h a4 (ix (nI 1))), .int (hI h a4 (ix (nI 0))), .ref a0], h) (rfl) ?_
    obtain ⟨g6, e⟩ := gd_some e
    refine eb_g (p := hT h a4 = 101 ∧ inb (nI 4) (hL h a4)) (92, [.ref a0, .ref a1, .int a2, .int a3, .ref a4, .int a5], [.int (hI h a4 (ix (nI 4))), .int (hI h a4 (ix (nI 3))), .int (hI h a4 (ix (nI 2))), .int (hI h a4 (ix (nI 1))), .int (hI h a4 (ix (nI 0))), .ref a0], h) rfl g6 ?_
    obtain ⟨g7, e⟩ := gd_some e
    obtain ⟨h8, r9, eh8, e⟩ := bn_some e
    refine eb_cg (p := hT h a0 = 1) rfl g7 (f_QuillBoats_feed_ev d (Nat.le_trans (by decide) hd) eh8) ?_
    show Eb _ 4 (95, [.ref a0, .ref a1, .int a2, .int a3, .ref a4, .int a5], [.int r9], h8) _ _
    obtain ⟨x10, hx10, e⟩ := lq_some e
    refine eb_n 2 (99, [.ref a0, .ref a1, .int a2, .int x10, .ref a4, .int a5], [], h8) (by subst hx10; rfl) ?_
    refine eb_n 1 (7, [.ref a0, .ref a1, .int a2, .int x10, .ref a4, .int a5], [], h8) (rfl) ?_
    exact hk7 _ _ _ _ _ _ _ e
  · replace e := ite_f c1 e
    refine eb_n 3 (32, [.ref a0, .ref a1, .int a2, .int a3, .ref a4, .int a5], [.int (nI 4), .int a5, .ref a4], h) (rfl) ?_
    refine eb_g (p := ¬ (nI 4) = 0) (33, [.ref a0, .ref a1, .int a2, .int a3, .ref a4, .int a5], [.int (a5 / (nI 4)), .ref a4], h) rfl (by decide) ?_
    refine eb_n 3 (38, [.ref a0, .ref a1, .int a2, .int a3, .ref a4, .int a5], [.int (nI 4), .int a5, .ref a4, .int (a5 / (nI 4)), .ref a4], h) (rfl) ?_
    refine eb_g (p := ¬ (nI 4) = 0) (39, [.ref a0, .ref a1, .int a2, .int a3, .ref a4, .int a5], [.int (a5 / (nI 4)), .ref a4, .int (a5 / (nI 4)), .ref a4], h) rfl (by decide) ?_
    obtain ⟨g11, e⟩ := gd_some e
    refine eb_g (p := hT h a4 = 101 ∧ inb (a5 / (nI 4)) (hL h a4)) (40, [.ref a0, .ref a1, .int a2, .int a3, .ref a4, .int a5], [.int (hI h a4 (ix (a5 / (nI 4)))), .int (a5 / (nI 4)), .ref a4], h) rfl g11 ?_
    refine eb_n 6 (48, [.ref a0, .ref a1, .int a2, .int a3, .ref a4, .int a5], [.int a2, .int (a3 + a5), .int ((hI h a4 (ix (a5 / (nI 4)))) <<< ((nI 8) &&& 31)), .int (a5 / (nI 4)), .ref a4], h) (rfl) ?_
    refine eb_b (c := a2 ≤ (a3 + a5)) (62, [.ref a0, .ref a1, .int a2, .int a3, .ref a4, .int a5], [.int ((hI h a4 (ix (a5 / (nI 4)))) <<< ((nI 8) &&& 31)), .int (a5 / (nI 4)), .ref a4], h) (51, [.ref a0, .ref a1, .int a2, .int a3, .ref a4, .int a5], [.int ((hI h a4 (ix (a5 / (nI 4)))) <<< ((nI 8) &&& 31)), .int (a5 / (nI 4)), .ref a4], h) rfl (fun c12 => ?_) (fun c12 => ?_)
    · replace e := ite_t c12 e
      refine eb_n 1 (63, [.ref a0, .ref a1, .int a2, .int a3, .ref a4, .int a5], [.int (nI 0), .int ((hI h a4 (ix (a5 / (nI 4)))) <<< ((nI 8) &&& 31)), .int (a5 / (nI 4)), .ref a4], h) (rfl) ?_
      exact f_Law_say_b63_ev d hd k7 k20 hk7 hk20 _ _ _ _ _ _ _ _ _ _ _  e
    · replace e := ite_f c12 e
      refine eb_n 4 (56, [.ref a0, .ref a1, .int a2, .int a3, .ref a4, .int a5], [.int (a3 + a5), .ref a1, .int ((hI h a4 (ix (a5 / (nI 4)))) <<< ((nI 8) &&& 31)), .int (a5 / (nI 4)), .ref a4], h) (rfl) ?_
      obtain ⟨g13, e⟩ := gd_some e
      obtain ⟨h14, r15, eh14, e⟩ := bn_some e
      refine eb_cg (p := hT h a1 = 15) rfl g13 (f_String_charAt_ev d (Nat.le_trans (by decide) hd) eh14) ?_
      show Eb _ 4 (59, [.ref a0, .ref a1, .int a2, .int a3, .ref a4, .int a5], [.int r15, .int ((hI h a4 (ix (a5 / (nI 4)))) <<< ((nI 8) &&& 31)), .int (a5 / (nI 4)), .ref a4], h14) _ _
      refine eb_n 1 (63, [.ref a0, .ref a1, .int a2, .int a3, .ref a4, .int a5], [.int r15, .int ((hI h a4 (ix (a5 / (nI 4)))) <<< ((nI 8) &&& 31)), .int (a5 / (nI 4)), .ref a4], h14) (rfl) ?_
      exact f_Law_say_b63_ev d hd k7 k20 hk7 hk20 _ _ _ _ _ _ _ _ _ _ _  e
set_option maxRecDepth 100000 in
set_option maxHeartbeats 4000000 in
theorem f_Law_say_l20_ev {h' : AH} {r : Int32} (d : Nat) (hd : 67 ≤ d) (k7 : AH → Nat → Nat → Int32 → Int32 → Option (AH × Int32)) (hk7 : ∀ (h : AH) (a0 : Nat) (a1 : Nat) (a2 : Int32) (a3 : Int32)  (d4 : Value) (d5 : Value), k7 h a0 a1 a2 a3 = some (h', r) → Eb (Ev tb mL d) 4 (7, [.ref a0, .ref a1, .int a2, .int a3, d4, d5], [], h) h' (some (.int r)))  : ∀ (n : Nat) (h : AH) (a0 : Nat) (a1 : Nat) (a2 : Int32) (a3 : Int32) (a4 : Nat) (a5 : Int32)   (_ : f_Law_say_l20 k7 n h a0 a1 a2 a3 a4 a5 = some (h', r)), Eb (Ev tb mL d) 4 (20, [.ref a0, .ref a1, .int a2, .int a3, .ref a4, .int a5], [], h) h' (some (.int r)) := by
  intro n
  induction n with
  | zero => intro h a0 a1 a2 a3 a4 a5  e; exact nomatch e
  | succ n ih =>
    intro h a0 a1 a2 a3 a4 a5  e
    exact f_Law_say_b20_ev d hd k7 _ hk7 (fun h a0 a1 a2 a3 a4 a5  e => ih h a0 a1 a2 a3 a4 a5  e) h a0 a1 a2 a3 a4 a5  e
set_option maxRecDepth 100000 in
set_option maxHeartbeats 4000000 in
theorem f_Law_say_b7_ev {h' : AH} {r : Int32} (d : Nat) (hd : 67 ≤ d) (k7 : AH → Nat → Nat → Int32 → Int32 → Option (AH × Int32)) (hk7 : ∀ (h : AH) (a0 : Nat) (a1 : Nat) (a2 : Int32) (a3 : Int32)  (d4 : Value) (d5 : Value), k7 h a0 a1 a2 a3 = some (h', r) → Eb (Ev tb mL d) 4 (7, [.ref a0, .ref a1, .int a2, .int a3, d4, d5], [], h) h' (some (.int r)))  (h : AH) (a0 : Nat) (a1 : Nat) (a2 : Int32) (a3 : Int32)  (d4 : Value) (d5 : Value) (e : f_Law_say_b7 k7 h a0 a1 a2 a3 = some (h', r)) : Eb (Ev tb mL d) 4 (7, [.ref a0, .ref a1, .int a2, .int a3, d4, d5], [], h) h' (some (.int r)) := by
  unfold f_Law_say_b7 at e
  refine eb_n 2 (9, [.ref a0, .ref a1, .int a2, .int a3, d4, d5], [.int a2, .int a3], h) (rfl) ?_
  refine eb_b (c := a2 ≤ a3) (102, [.ref a0, .ref a1, .int a2, .int a3, d4, d5], [], h) (12, [.ref a0, .ref a1, .int a2, .int a3, d4, d5], [], h) rfl (fun c1 => ?_) (fun c1 => ?_)
  · replace e := ite_t c1 e
    refine eb_n 1 (103, [.ref a0, .ref a1, .int a2, .int a3, d4, d5], [.int a2], h) (rfl) ?_
    refine eb_b (c := a2 ≤ 0) (112, [.ref a0, .ref a1, .int a2, .int a3, d4, d5], [], h) (106, [.ref a0, .ref a1, .int a2, .int a3, d4, d5], [], h) rfl (fun c2 => ?_) (fun c2 => ?_)
    · replace e := ite_t c2 e
      exact f_Law_say_b112_ev d hd   _ _ _ _ _ _ _ e
    · replace e := ite_f c2 e
      refine eb_n 2 (108, [.ref a0, .ref a1, .int a2, .int a3, d4, d5], [.int a2, .ref a0], h) (rfl) ?_
      obtain ⟨g3, e⟩ := gd_some e
      obtain ⟨h4, r5, eh4, e⟩ := bn_some e
      refine eb_cg (p := hT h a0 = 1) rfl g3 (f_QuillBoats_trim_ev d (Nat.le_trans (by decide) hd) eh4) ?_
      show Eb _ 4 (111, [.ref a0, .ref a1, .int a2, .int a3, d4, d5], [.int r5], h4) _ _
      refine eb_n 1 (112, [.ref a0, .ref a1, .int a2, .int a3, d4, d5], [], h4) (rfl) ?_
      exact f_Law_say_b112_ev d hd   _ _ _ _ _ _ _ e
  · replace e := ite_f c1 e
    refine eb_n 1 (13, [.ref a0, .ref a1, .int a2, .int a3, d4, d5], [.int (nI 5)], h) (rfl) ?_
    obtain ⟨h6, eh6, e⟩ := lq_some e
    refine eb_g (p := ¬ (nI 5) < 0 ∧ ix (nI 5) ≤ 65536) (15, [.ref a0, .ref a1, .int a2, .int a3, d4, d5], [.ref (hN h)], h6) (by rw [eh6]; rfl) (by decide) ?_
    obtain ⟨x7, hx7, e⟩ := lq_some e
    refine eb_n 1 (17, [.ref a0, .ref a1, .int a2, .int a3, .ref x7, d5], [], h6) (by subst hx7; rfl) ?_
    refine eb_n 2 (20, [.ref a0, .ref a1, .int a2, .int a3, .ref x7, .int (nI 0)], [], h6) (rfl) ?_
    exact f_Law_say_l20_ev d hd k7 hk7 FU _ _ _ _ _ _ _  e
set_option maxRecDepth 100000 in
set_option maxHeartbeats 4000000 in
theorem f_Law_say_l7_ev {h' : AH} {r : Int32} (d : Nat) (hd : 67 ≤ d)  : ∀ (n : Nat) (h : AH) (a0 : Nat) (a1 : Nat) (a2 : Int32) (a3 : Int32)  (d4 : Value) (d5 : Value) (_ : f_Law_say_l7  n h a0 a1 a2 a3 = some (h', r)), Eb (Ev tb mL d) 4 (7, [.ref a0, .ref a1, .int a2, .int a3, d4, d5], [], h) h' (some (.int r)) := by
  intro n
  induction n with
  | zero => intro h a0 a1 a2 a3 d4 d5 e; exact nomatch e
  | succ n ih =>
    intro h a0 a1 a2 a3 d4 d5 e
    exact f_Law_say_b7_ev d hd _ (fun h a0 a1 a2 a3 d4 d5 e => ih h a0 a1 a2 a3 d4 d5 e) h a0 a1 a2 a3 d4 d5 e
set_option maxRecDepth 100000 in
set_option maxHeartbeats 4000000 in
theorem f_Law_say_ev (d0 : Nat) (hd0 : 68 ≤ d0) {h' : AH} {r : Int32} {h : AH} {a0 : Nat} {a1 : Nat} (e : f_Law_say h a0 a1 = some (h', r)) : Ev tb mL d0 4 [.ref a0, .ref a1] h h' (some (.int r)) := by
  obtain ⟨d, rfl⟩ : ∃ d, d0 = d + 1 := ⟨d0 - 1, by omega⟩
  have hd : 67 ≤ d := by omega
  refine ⟨Nat.le_of_ble_eq_true rfl, ?_⟩
  show Eb (Ev tb mL d) 4 (0, [.ref a0, .ref a1, .retAddr 0, .retAddr 0, .retAddr 0, .retAddr 0], [], h) h' (some (.int r))
  unfold f_Law_say at e
  refine eb_n 1 (1, [.ref a0, .ref a1, .retAddr 0, .retAddr 0, .retAddr 0, .retAddr 0], [.ref a1], h) (rfl) ?_
  obtain ⟨g1, e⟩ := gd_some e
  obtain ⟨h2, r3, eh2, e⟩ := bn_some e
  refine eb_cg (p := hT h a1 = 15) rfl g1 (f_String_length_ev d (Nat.le_trans (by decide) hd) eh2) ?_
  show Eb _ 4 (4, [.ref a0, .ref a1, .retAddr 0, .retAddr 0, .retAddr 0, .retAddr 0], [.int r3], h2) _ _
  refine eb_n 3 (7, [.ref a0, .ref a1, .int r3, .int (nI 0), .retAddr 0, .retAddr 0], [], h2) (rfl) ?_
  exact f_Law_say_l7_ev d hd   FU _ _ _ _ _ _ _ e
set_option maxRecDepth 100000 in
set_option maxHeartbeats 4000000 in
theorem f_Sim_canWhet_ev (d0 : Nat) (hd0 : 1 ≤ d0) {h' : AH} {r : Int32} {h : AH} {a0 : Nat} {a1 : Int32} (e : f_Sim_canWhet h a0 a1 = some (h', r)) : Ev tb mL d0 39 [.ref a0, .int a1] h h' (some (.int r)) := by
  obtain ⟨d, rfl⟩ : ∃ d, d0 = d + 1 := ⟨d0 - 1, by omega⟩
  have hd : 0 ≤ d := by omega
  refine ⟨Nat.le_of_ble_eq_true rfl, ?_⟩
  show Eb (Ev tb mL d) 39 (0, [.ref a0, .int a1], [], h) h' (some (.int r))
  unfold f_Sim_canWhet at e
  refine eb_n 1 (1, [.ref a0, .int a1], [.ref a0], h) (rfl) ?_
  obtain ⟨g1, e⟩ := gd_some e
  refine eb_g (p := hT h a0 = 13) (4, [.ref a0, .int a1], [.ref (hR h a0 15)], h) rfl g1 ?_
  refine eb_n 1 (5, [.ref a0, .int a1], [.int a1, .ref (hR h a0 15)], h) (rfl) ?_
  obtain ⟨g2, e⟩ := gd_some e
  refine eb_g (p := hT h (hR h a0 15) = 109 ∧ inb a1 (hL h (hR h a0 15))) (6, [.ref a0, .int a1], [.ref (hR h (hR h a0 15) (ix a1))], h) rfl g2 ?_
  refine eb_n 1 (7, [.ref a0, .int a1], [.int (nI 3), .ref (hR h (hR h a0 15) (ix a1))], h) (rfl) ?_
  obtain ⟨g3, e⟩ := gd_some e
  refine eb_g (p := hT h (hR h (hR h a0 15) (ix a1)) = 101 ∧ inb (nI 3) (hL h (hR h (hR h a0 15) (ix a1)))) (8, [.ref a0, .int a1], [.int (hI h (hR h (hR h a0 15) (ix a1)) (ix (nI 3)))], h) rfl g3 ?_
  refine eb_n 1 (10, [.ref a0, .int a1], [.int (nI 20), .int (hI h (hR h (hR h a0 15) (ix a1)) (ix (nI 3)))], h) (rfl) ?_
  refine eb_b (c := (nI 20) ≤ (hI h (hR h (hR h a0 15) (ix a1)) (ix (nI 3)))) (25, [.ref a0, .int a1], [], h) (13, [.ref a0, .int a1], [], h) rfl (fun c4 => ?_) (fun c4 => ?_)
  · replace e := ite_t c4 e
    refine eb_n 1 (26, [.ref a0, .int a1], [.int (nI 0)], h) (rfl) ?_
    rw [(sp_inj e).1, (sp_inj e).2]
    exact eb_rg (p := nrm 3 (nI 0)) rfl nrm_30
  · replace e := ite_f c4 e
    refine eb_n 1 (14, [.ref a0, .int a1], [.ref a0], h) (rfl) ?_
    refine eb_g (p := hT h a0 = 13) (17, [.ref a0, .int a1], [.int (hI h a0 1)], h) rfl g1 ?_
    refine eb_n 1 (18, [.ref a0, .int a1], [.int (nI 1), .int (hI h a0 1)], h) (rfl) ?_
    refine eb_b (c := (hI h a0 1) ≤ (nI 1)) (25, [.ref a0, .int a1], [], h) (21, [.ref a0, .int a1], [], h) rfl (fun c5 => ?_) (fun c5 => ?_)
    · replace e := ite_t c5 e
      refine eb_n 1 (26, [.ref a0, .int a1], [.int (nI 0)], h) (rfl) ?_
      rw [(sp_inj e).1, (sp_inj e).2]
      exact eb_rg (p := nrm 3 (nI 0)) rfl nrm_30
    · replace e := ite_f c5 e
      refine eb_n 2 (26, [.ref a0, .int a1], [.int (nI 1)], h) (rfl) ?_
      rw [(sp_inj e).1, (sp_inj e).2]
      exact eb_rg (p := nrm 3 (nI 1)) rfl nrm_31
set_option maxRecDepth 100000 in
set_option maxHeartbeats 4000000 in
theorem f_Sim_whet_ev (d0 : Nat) (hd0 : 1 ≤ d0) {h' : AH} {h : AH} {a0 : Nat} {a1 : Int32} (e : f_Sim_whet h a0 a1 = some h') : Ev tb mL d0 40 [.ref a0, .int a1] h h' none := by
  obtain ⟨d, rfl⟩ : ∃ d, d0 = d + 1 := ⟨d0 - 1, by omega⟩
  have hd : 0 ≤ d := by omega
  refine ⟨Nat.le_of_ble_eq_true rfl, ?_⟩
  show Eb (Ev tb mL d) 40 (0, [.ref a0, .int a1], [], h) h' none
  unfold f_Sim_whet at e
  refine eb_n 2 (2, [.ref a0, .int a1], [.ref a0, .ref a0], h) (rfl) ?_
  obtain ⟨g1, e⟩ := gd_some e
  refine eb_g (p := hT h a0 = 13) (5, [.ref a0, .int a1], [.int (hI h a0 1), .ref a0], h) rfl g1 ?_
  refine eb_n 2 (7, [.ref a0, .int a1], [.int ((hI h a0 1) - (nI 2)), .ref a0], h) (rfl) ?_
  obtain ⟨h2, eh2, e⟩ := lq_some e
  refine eb_g (p := hT h a0 = 13) (10, [.ref a0, .int a1], [], h2) (by rw [eh2]; rfl) g1 ?_
  refine eb_n 1 (11, [.ref a0, .int a1], [.ref a0], h2) (rfl) ?_
  obtain ⟨g3, e⟩ := gd_some e
  refine eb_g (p := hT h2 a0 = 13) (14, [.ref a0, .int a1], [.ref (hR h2 a0 15)], h2) rfl g3 ?_
  refine eb_n 1 (15, [.ref a0, .int a1], [.int a1, .ref (hR h2 a0 15)], h2) (rfl) ?_
  obtain ⟨g4, e⟩ := gd_some e
  refine eb_g (p := hT h2 (hR h2 a0 15) = 109 ∧ inb a1 (hL h2 (hR h2 a0 15))) (16, [.ref a0, .int a1], [.ref (hR h2 (hR h2 a0 15) (ix a1))], h2) rfl g4 ?_
  refine eb_n 2 (19, [.ref a0, .int a1], [.int (nI 20), .int (nI 3), .ref (hR h2 (hR h2 a0 15) (ix a1))], h2) (rfl) ?_
  obtain ⟨g5, e⟩ := gd_some e
  obtain ⟨h6, eh6, e⟩ := lq_some e
  refine eb_g (p := hT h2 (hR h2 (hR h2 a0 15) (ix a1)) = 101 ∧ inb (nI 3) (hL h2 (hR h2 (hR h2 a0 15) (ix a1)))) (20, [.ref a0, .int a1], [], h6) (by rw [eh6]; rfl) g5 ?_
  refine eb_n 1 (21, [.ref a0, .int a1], [.ref a0], h6) (rfl) ?_
  obtain ⟨g7, e⟩ := gd_some e
  refine eb_g (p := hT h6 a0 = 13) (24, [.ref a0, .int a1], [.ref (hR h6 a0 15)], h6) rfl g7 ?_
  refine eb_n 1 (25, [.ref a0, .int a1], [.int a1, .ref (hR h6 a0 15)], h6) (rfl) ?_
  obtain ⟨g8, e⟩ := gd_some e
  refine eb_g (p := hT h6 (hR h6 a0 15) = 109 ∧ inb a1 (hL h6 (hR h6 a0 15))) (26, [.ref a0, .int a1], [.ref (hR h6 (hR h6 a0 15) (ix a1))], h6) rfl g8 ?_
  refine eb_n 2 (28, [.ref a0, .int a1], [.int (nI 5), .ref (hR h6 (hR h6 a0 15) (ix a1)), .int (nI 5), .ref (hR h6 (hR h6 a0 15) (ix a1))], h6) (rfl) ?_
  obtain ⟨g9, e⟩ := gd_some e
  refine eb_g (p := hT h6 (hR h6 (hR h6 a0 15) (ix a1)) = 101 ∧ inb (nI 5) (hL h6 (hR h6 (hR h6 a0 15) (ix a1)))) (29, [.ref a0, .int a1], [.int (hI h6 (hR h6 (hR h6 a0 15) (ix a1)) (ix (nI 5))), .int (nI 5), .ref (hR h6 (hR h6 a0 15) (ix a1))], h6) rfl g9 ?_
  refine eb_n 2 (31, [.ref a0, .int a1], [.int ((hI h6 (hR h6 (hR h6 a0 15) (ix a1)) (ix (nI 5))) + (nI 1)), .int (nI 5), .ref (hR h6 (hR h6 a0 15) (ix a1))], h6) (rfl) ?_
  obtain ⟨h10, eh10, e⟩ := lq_some e
  refine eb_g (p := hT h6 (hR h6 (hR h6 a0 15) (ix a1)) = 101 ∧ inb (nI 5) (hL h6 (hR h6 (hR h6 a0 15) (ix a1)))) (32, [.ref a0, .int a1], [], h10) (by rw [eh10]; rfl) g9 ?_
  rw [sv_inj e]
  exact eb_r rfl
set_option maxRecDepth 100000 in
set_option maxHeartbeats 4000000 in
theorem f_River_whetsKnife_ev (d0 : Nat) (hd0 : 2 ≤ d0) {h' : AH} {r : Int32} {h : AH} {a0 : Nat} {a1 : Int32} (e : f_River_whetsKnife h a0 a1 = some (h', r)) : Ev tb mL d0 102 [.ref a0, .int a1] h h' (some (.int r)) := by
  obtain ⟨d, rfl⟩ : ∃ d, d0 = d + 1 := ⟨d0 - 1, by omega⟩
  have hd : 1 ≤ d := by omega
  refine ⟨Nat.le_of_ble_eq_true rfl, ?_⟩
  show Eb (Ev tb mL d) 102 (0, [.ref a0, .int a1], [], h) h' (some (.int r))
  unfold f_River_whetsKnife at e
  refine eb_n 2 (2, [.ref a0, .int a1], [.int a1, .ref a0], h) (rfl) ?_
  obtain ⟨g1, e⟩ := gd_some e
  obtain ⟨h2, r3, eh2, e⟩ := bn_some e
  refine eb_cg (p := hT h a0 = 3) rfl g1 (f_River_hasPeeler_ev d (Nat.le_trans (by decide) hd) eh2) ?_
  show Eb _ 102 (5, [.ref a0, .int a1], [.int r3], h2) _ _
  refine eb_b (c := r3 = 0) (30, [.ref a0, .int a1], [], h2) (8, [.ref a0, .int a1], [], h2) rfl (fun c4 => ?_) (fun c4 => ?_)
  · replace e := ite_t c4 e
    refine eb_n 1 (31, [.ref a0, .int a1], [.int (nI 0)], h2) (rfl) ?_
    rw [(sp_inj e).1, (sp_inj e).2]
    exact eb_rg (p := nrm 3 (nI 0)) rfl nrm_30
  · replace e := ite_f c4 e
    refine eb_n 1 (9, [.ref a0, .int a1], [.ref a0], h2) (rfl) ?_
    obtain ⟨g5, e⟩ := gd_some e
    refine eb_g (p := hT h2 a0 = 3) (12, [.ref a0, .int a1], [.ref (hR h2 a0 2)], h2) rfl g5 ?_
    refine eb_n 1 (13, [.ref a0, .int a1], [.int a1, .ref (hR h2 a0 2)], h2) (rfl) ?_
    obtain ⟨g6, e⟩ := gd_some e
    refine eb_g (p := hT h2 (hR h2 a0 2) = 106 ∧ inb a1 (hL h2 (hR h2 a0 2))) (14, [.ref a0, .int a1], [.ref (hR h2 (hR h2 a0 2) (ix a1))], h2) rfl g6 ?_
    obtain ⟨g7, e⟩ := gd_some e
    refine eb_g (p := hT h2 (hR h2 (hR h2 a0 2) (ix a1)) = 6) (17, [.ref a0, .int a1], [.int (hI h2 (hR h2 (hR h2 a0 2) (ix a1)) 3)], h2) rfl g7 ?_
    refine eb_n 1 (19, [.ref a0, .int a1], [.int (nI 20), .int (hI h2 (hR h2 (hR h2 a0 2) (ix a1)) 3)], h2) (rfl) ?_
    refine eb_b (c := (nI 20) ≤ (hI h2 (hR h2 (hR h2 a0 2) (ix a1)) 3)) (30, [.ref a0, .int a1], [], h2) (22, [.ref a0, .int a1], [], h2) rfl (fun c8 => ?_) (fun c8 => ?_)
    · replace e := ite_t c8 e
      refine eb_n 1 (31, [.ref a0, .int a1], [.int (nI 0)], h2) (rfl) ?_
      rw [(sp_inj e).1, (sp_inj e).2]
      exact eb_rg (p := nrm 3 (nI 0)) rfl nrm_30
    · replace e := ite_f c8 e
      refine eb_n 1 (23, [.ref a0, .int a1], [.ref a0], h2) (rfl) ?_
      refine eb_g (p := hT h2 a0 = 3) (26, [.ref a0, .int a1], [.int (hI h2 a0 12)], h2) rfl g5 ?_
      refine eb_n 1 (27, [.ref a0, .int a1], [.int (nI 2), .int (hI h2 a0 12)], h2) (rfl) ?_
      refine eb_b (c := (nI 2) ≤ (hI h2 a0 12)) (32, [.ref a0, .int a1], [], h2) (30, [.ref a0, .int a1], [], h2) rfl (fun c9 => ?_) (fun c9 => ?_)
      · replace e := ite_t c9 e
        refine eb_n 2 (34, [.ref a0, .int a1], [.ref a0, .ref a0], h2) (rfl) ?_
        refine eb_g (p := hT h2 a0 = 3) (37, [.ref a0, .int a1], [.int (hI h2 a0 12), .ref a0], h2) rfl g5 ?_
        refine eb_n 2 (39, [.ref a0, .int a1], [.int ((hI h2 a0 12) - (nI 2)), .ref a0], h2) (rfl) ?_
        obtain ⟨h10, eh10, e⟩ := lq_some e
        refine eb_g (p := hT h2 a0 = 3) (42, [.ref a0, .int a1], [], h10) (by rw [eh10]; rfl) g5 ?_
        refine eb_n 1 (43, [.ref a0, .int a1], [.ref a0], h10) (rfl) ?_
        obtain ⟨g11, e⟩ := gd_some e
        refine eb_g (p := hT h10 a0 = 3) (46, [.ref a0, .int a1], [.ref (hR h10 a0 2)], h10) rfl g11 ?_
        refine eb_n 1 (47, [.ref a0, .int a1], [.int a1, .ref (hR h10 a0 2)], h10) (rfl) ?_
        obtain ⟨g12, e⟩ := gd_some e
        refine eb_g (p := hT h10 (hR h10 a0 2) = 106 ∧ inb a1 (hL h10 (hR h10 a0 2))) (48, [.ref a0, .int a1], [.ref (hR h10 (hR h10 a0 2) (ix a1))], h10) rfl g12 ?_
        refine eb_n 1 (50, [.ref a0, .int a1], [.int (nI 20), .ref (hR h10 (hR h10 a0 2) (ix a1))], h10) (rfl) ?_
        obtain ⟨g13, e⟩ := gd_some e
        obtain ⟨h14, eh14, e⟩ := lq_some e
        refine eb_g (p := hT h10 (hR h10 (hR h10 a0 2) (ix a1)) = 6) (53, [.ref a0, .int a1], [], h14) (by rw [eh14]; rfl) g13 ?_
        refine eb_n 1 (54, [.ref a0, .int a1], [.ref a0], h14) (rfl) ?_
        obtain ⟨g15, e⟩ := gd_some e
        refine eb_g (p := hT h14 a0 = 3) (57, [.ref a0, .int a1], [.ref (hR h14 a0 2)], h14) rfl g15 ?_
        refine eb_n 1 (58, [.ref a0, .int a1], [.int a1, .ref (hR h14 a0 2)], h14) (rfl) ?_
        obtain ⟨g16, e⟩ := gd_some e
        refine eb_g (p := hT h14 (hR h14 a0 2) = 106 ∧ inb a1 (hL h14 (hR h14 a0 2))) (59, [.ref a0, .int a1], [.ref (hR h14 (hR h14 a0 2) (ix a1))], h14) rfl g16 ?_
        refine eb_n 1 (60, [.ref a0, .int a1], [.ref (hR h14 (hR h14 a0 2) (ix a1)), .ref (hR h14 (hR h14 a0 2) (ix a1))], h14) (rfl) ?_
        obtain ⟨g17, e⟩ := gd_some e
        refine eb_g (p := hT h14 (hR h14 (hR h14 a0 2) (ix a1)) = 6) (63, [.ref a0, .int a1], [.int (hI h14 (hR h14 (hR h14 a0 2) (ix a1)) 5), .ref (hR h14 (hR h14 a0 2) (ix a1))], h14) rfl g17 ?_
        refine eb_n 2 (65, [.ref a0, .int a1], [.int ((hI h14 (hR h14 (hR h14 a0 2) (ix a1)) 5) + (nI 1)), .ref (hR h14 (hR h14 a0 2) (ix a1))], h14) (rfl) ?_
        obtain ⟨h18, eh18, e⟩ := lq_some e
        refine eb_g (p := hT h14 (hR h14 (hR h14 a0 2) (ix a1)) = 6) (68, [.ref a0, .int a1], [], h18) (by rw [eh18]; rfl) g17 ?_
        refine eb_n 1 (69, [.ref a0, .int a1], [.int (nI 1)], h18) (rfl) ?_
        rw [(sp_inj e).1, (sp_inj e).2]
        exact eb_rg (p := nrm 3 (nI 1)) rfl nrm_31
      · replace e := ite_f c9 e
        refine eb_n 1 (31, [.ref a0, .int a1], [.int (nI 0)], h2) (rfl) ?_
        rw [(sp_inj e).1, (sp_inj e).2]
        exact eb_rg (p := nrm 3 (nI 0)) rfl nrm_30
set_option maxRecDepth 100000 in
set_option maxHeartbeats 4000000 in
theorem f_QuillBoats_whet_ev (d0 : Nat) (hd0 : 3 ≤ d0) {h' : AH} {r : Int32} {h : AH} {a0 : Nat} {a1 : Int32} (e : f_QuillBoats_whet h a0 a1 = some (h', r)) : Ev tb mL d0 41 [.ref a0, .int a1] h h' (some (.int r)) := by
  obtain ⟨d, rfl⟩ : ∃ d, d0 = d + 1 := ⟨d0 - 1, by omega⟩
  have hd : 2 ≤ d := by omega
  refine ⟨Nat.le_of_ble_eq_true rfl, ?_⟩
  show Eb (Ev tb mL d) 41 (0, [.ref a0, .int a1], [], h) h' (some (.int r))
  unfold f_QuillBoats_whet at e
  refine eb_n 1 (1, [.ref a0, .int a1], [.ref a0], h) (rfl) ?_
  obtain ⟨g1, e⟩ := gd_some e
  refine eb_g (p := hT h a0 = 1) (4, [.ref a0, .int a1], [.ref (hR h a0 4)], h) rfl g1 ?_
  refine eb_n 1 (5, [.ref a0, .int a1], [.int a1, .ref (hR h a0 4)], h) (rfl) ?_
  obtain ⟨g2, e⟩ := gd_some e
  obtain ⟨h3, r4, eh3, e⟩ := bn_some e
  refine eb_cg (p := hT h (hR h a0 4) = 3) rfl g2 (f_River_hasPeeler_ev d (Nat.le_trans (by decide) hd) eh3) ?_
  show Eb _ 41 (8, [.ref a0, .int a1], [.int r4], h3) _ _
  refine eb_b (c := ¬ r4 = 0) (21, [.ref a0, .int a1], [], h3) (11, [.ref a0, .int a1], [], h3) rfl (fun c5 => ?_) (fun c5 => ?_)
  · replace e := ite_t c5 e
    refine eb_n 1 (22, [.ref a0, .int a1], [.ref a0], h3) (rfl) ?_
    obtain ⟨g6, e⟩ := gd_some e
    refine eb_g (p := hT h3 a0 = 1) (25, [.ref a0, .int a1], [.ref (hR h3 a0 4)], h3) rfl g6 ?_
    refine eb_n 1 (26, [.ref a0, .int a1], [.int a1, .ref (hR h3 a0 4)], h3) (rfl) ?_
    obtain ⟨g7, e⟩ := gd_some e
    obtain ⟨h8, r9, eh8, e⟩ := bn_some e
    refine eb_cg (p := hT h3 (hR h3 a0 4) = 3) rfl g7 (f_River_whetsKnife_ev d (Nat.le_trans (by decide) hd) eh8) ?_
    show Eb _ 41 (29, [.ref a0, .int a1], [.int r9], h8) _ _
    refine eb_b (c := ¬ r9 = 0) (42, [.ref a0, .int a1], [], h8) (32, [.ref a0, .int a1], [], h8) rfl (fun c10 => ?_) (fun c10 => ?_)
    · replace e := ite_t c10 e
      refine eb_n 1 (43, [.ref a0, .int a1], [.ref a0], h8) (rfl) ?_
      obtain ⟨g11, e⟩ := gd_some e
      refine eb_g (p := hT h8 a0 = 1) (46, [.ref a0, .int a1], [.ref (hR h8 a0 4)], h8) rfl g11 ?_
      obtain ⟨g12, e⟩ := gd_some e
      refine eb_g (p := hT h8 (hR h8 a0 4) = 3) (49, [.ref a0, .int a1], [.int (hI h8 (hR h8 a0 4) 12)], h8) rfl g12 ?_
      rw [(sp_inj e).1, (sp_inj e).2]
      exact eb_rg (p := nrm 0 (hI h8 (hR h8 a0 4) 12)) rfl (nrm_0 _)
    · replace e := ite_f c10 e
      exact nomatch e
  · replace e := ite_f c5 e
    exact nomatch e
set_option maxRecDepth 100000 in
set_option maxHeartbeats 4000000 in
theorem f_River_hasGrade_ev (d0 : Nat) (hd0 : 1 ≤ d0) {h' : AH} {r : Int32} {h : AH} {a0 : Nat} {a1 : Int32} (e : f_River_hasGrade h a0 a1 = some (h', r)) : Ev tb mL d0 64 [.ref a0, .int a1] h h' (some (.int r)) := by
  obtain ⟨d, rfl⟩ : ∃ d, d0 = d + 1 := ⟨d0 - 1, by omega⟩
  have hd : 0 ≤ d := by omega
  refine ⟨Nat.le_of_ble_eq_true rfl, ?_⟩
  show Eb (Ev tb mL d) 64 (0, [.ref a0, .int a1], [], h) h' (some (.int r))
  unfold f_River_hasGrade at e
  refine eb_n 1 (1, [.ref a0, .int a1], [.int a1], h) (rfl) ?_
  refine eb_b (c := a1 < 0) (13, [.ref a0, .int a1], [], h) (4, [.ref a0, .int a1], [], h) rfl (fun c1 => ?_) (fun c1 => ?_)
  · replace e := ite_t c1 e
    refine eb_n 1 (14, [.ref a0, .int a1], [.int (nI 0)], h) (rfl) ?_
    rw [(sp_inj e).1, (sp_inj e).2]
    exact eb_rg (p := nrm 3 (nI 0)) rfl nrm_30
  · replace e := ite_f c1 e
    refine eb_n 2 (6, [.ref a0, .int a1], [.int (nI 4), .int a1], h) (rfl) ?_
    refine eb_b (c := (nI 4) ≤ a1) (13, [.ref a0, .int a1], [], h) (9, [.ref a0, .int a1], [], h) rfl (fun c2 => ?_) (fun c2 => ?_)
    · replace e := ite_t c2 e
      refine eb_n 1 (14, [.ref a0, .int a1], [.int (nI 0)], h) (rfl) ?_
      rw [(sp_inj e).1, (sp_inj e).2]
      exact eb_rg (p := nrm 3 (nI 0)) rfl nrm_30
    · replace e := ite_f c2 e
      refine eb_n 2 (14, [.ref a0, .int a1], [.int (nI 1)], h) (rfl) ?_
      rw [(sp_inj e).1, (sp_inj e).2]
      exact eb_rg (p := nrm 3 (nI 1)) rfl nrm_31
set_option maxRecDepth 100000 in
set_option maxHeartbeats 4000000 in
theorem f_River_loadBoat_ev (d0 : Nat) (hd0 : 2 ≤ d0) {h' : AH} {r : Int32} {h : AH} {a0 : Nat} {a1 : Int32} {a2 : Int32} {a3 : Int32} (e : f_River_loadBoat h a0 a1 a2 a3 = some (h', r)) : Ev tb mL d0 103 [.ref a0, .int a1, .int a2, .int a3] h h' (some (.int r)) := by
  obtain ⟨d, rfl⟩ : ∃ d, d0 = d + 1 := ⟨d0 - 1, by omega⟩
  have hd : 1 ≤ d := by omega
  refine ⟨Nat.le_of_ble_eq_true rfl, ?_⟩
  show Eb (Ev tb mL d) 103 (0, [.ref a0, .int a1, .int a2, .int a3, .retAddr 0], [], h) h' (some (.int r))
  unfold f_River_loadBoat at e
  refine eb_n 2 (2, [.ref a0, .int a1, .int a2, .int a3, .retAddr 0], [.int a1, .ref a0], h) (rfl) ?_
  obtain ⟨g1, e⟩ := gd_some e
  obtain ⟨h2, r3, eh2, e⟩ := bn_some e
  refine eb_cg (p := hT h a0 = 3) rfl g1 (f_River_hasBoat_ev d (Nat.le_trans (by decide) hd) eh2) ?_
  show Eb _ 103 (5, [.ref a0, .int a1, .int a2, .int a3, .retAddr 0], [.int r3], h2) _ _
  refine eb_b (c := r3 = 0) (28, [.ref a0, .int a1, .int a2, .int a3, .retAddr 0], [], h2) (8, [.ref a0, .int a1, .int a2, .int a3, .retAddr 0], [], h2) rfl (fun c4 => ?_) (fun c4 => ?_)
  · replace e := ite_t c4 e
    refine eb_n 1 (29, [.ref a0, .int a1, .int a2, .int a3, .retAddr 0], [.int (nI 0)], h2) (rfl) ?_
    rw [(sp_inj e).1, (sp_inj e).2]
    exact eb_rg (p := nrm 0 (nI 0)) rfl (nrm_0 _)
  · replace e := ite_f c4 e
    refine eb_n 2 (10, [.ref a0, .int a1, .int a2, .int a3, .retAddr 0], [.int a2, .ref a0], h2) (rfl) ?_
    obtain ⟨g5, e⟩ := gd_some e
    obtain ⟨h6, r7, eh6, e⟩ := bn_some e
    refine eb_cg (p := hT h2 a0 = 3) rfl g5 (f_River_hasGrade_ev d (Nat.le_trans (by decide) hd) eh6) ?_
    show Eb _ 103 (13, [.ref a0, .int a1, .int a2, .int a3, .retAddr 0], [.int r7], h6) _ _
    refine eb_b (c := r7 = 0) (28, [.ref a0, .int a1, .int a2, .int a3, .retAddr 0], [], h6) (16, [.ref a0, .int a1, .int a2, .int a3, .retAddr 0], [], h6) rfl (fun c8 => ?_) (fun c8 => ?_)
    · replace e := ite_t c8 e
      refine eb_n 1 (29, [.ref a0, .int a1, .int a2, .int a3, .retAddr 0], [.int (nI 0)], h6) (rfl) ?_
      rw [(sp_inj e).1, (sp_inj e).2]
      exact eb_rg (p := nrm 0 (nI 0)) rfl (nrm_0 _)
    · replace e := ite_f c8 e
      refine eb_n 1 (17, [.ref a0, .int a1, .int a2, .int a3, .retAddr 0], [.ref a0], h6) (rfl) ?_
      obtain ⟨g9, e⟩ := gd_some e
      refine eb_g (p := hT h6 a0 = 3) (20, [.ref a0, .int a1, .int a2, .int a3, .retAddr 0], [.ref (hR h6 a0 3)], h6) rfl g9 ?_
      refine eb_n 1 (21, [.ref a0, .int a1, .int a2, .int a3, .retAddr 0], [.int a1, .ref (hR h6 a0 3)], h6) (rfl) ?_
      obtain ⟨g10, e⟩ := gd_some e
      refine eb_g (p := hT h6 (hR h6 a0 3) = 107 ∧ inb a1 (hL h6 (hR h6 a0 3))) (22, [.ref a0, .int a1, .int a2, .int a3, .retAddr 0], [.ref (hR h6 (hR h6 a0 3) (ix a1))], h6) rfl g10 ?_
      obtain ⟨g11, e⟩ := gd_some e
      refine eb_g (p := hT h6 (hR h6 (hR h6 a0 3) (ix a1)) = 7) (25, [.ref a0, .int a1, .int a2, .int a3, .retAddr 0], [.int (hI h6 (hR h6 (hR h6 a0 3) (ix a1)) 3)], h6) rfl g11 ?_
      refine eb_b (c := (hI h6 (hR h6 (hR h6 a0 3) (ix a1)) 3) = 0) (30, [.ref a0, .int a1, .int a2, .int a3, .retAddr 0], [], h6) (28, [.ref a0, .int a1, .int a2, .int a3, .retAddr 0], [], h6) rfl (fun c12 => ?_) (fun c12 => ?_)
      · replace e := ite_t c12 e
        refine eb_n 2 (32, [.ref a0, .int a1, .int a2, .int a3, .retAddr 0], [.ref a0, .int a3], h6) (rfl) ?_
        refine eb_g (p := hT h6 a0 = 3) (35, [.ref a0, .int a1, .int a2, .int a3, .retAddr 0], [.ref (hR h6 a0 3), .int a3], h6) rfl g9 ?_
        refine eb_n 1 (36, [.ref a0, .int a1, .int a2, .int a3, .retAddr 0], [.int a1, .ref (hR h6 a0 3), .int a3], h6) (rfl) ?_
        refine eb_g (p := hT h6 (hR h6 a0 3) = 107 ∧ inb a1 (hL h6 (hR h6 a0 3))) (37, [.ref a0, .int a1, .int a2, .int a3, .retAddr 0], [.ref (hR h6 (hR h6 a0 3) (ix a1)), .int a3], h6) rfl g10 ?_
        refine eb_g (p := hT h6 (hR h6 (hR h6 a0 3) (ix a1)) = 7) (40, [.ref a0, .int a1, .int a2, .int a3, .retAddr 0], [.int (hI h6 (hR h6 (hR h6 a0 3) (ix a1)) 0), .int a3], h6) rfl g11 ?_
        obtain ⟨h13, r14, eh13, e⟩ := bn_some e
        refine eb_c rfl (f_Math_min_ev d (Nat.le_trans (by decide) hd) eh13) ?_
        show Eb _ 103 (43, [.ref a0, .int a1, .int a2, .int a3, .retAddr 0], [.int r14], h13) _ _
        refine eb_n 1 (44, [.ref a0, .int a1, .int a2, .int a3, .retAddr 0], [.ref a0, .int r14], h13) (rfl) ?_
        obtain ⟨g15, e⟩ := gd_some e
        refine eb_g (p := hT h13 a0 = 3) (47, [.ref a0, .int a1, .int a2, .int a3, .retAddr 0], [.ref (hR h13 a0 4), .int r14], h13) rfl g15 ?_
        refine eb_n 1 (48, [.ref a0, .int a1, .int a2, .int a3, .retAddr 0], [.int a2, .ref (hR h13 a0 4), .int r14], h13) (rfl) ?_
        obtain ⟨g16, e⟩ := gd_some e
        refine eb_g (p := hT h13 (hR h13 a0 4) = 108 ∧ inb a2 (hL h13 (hR h13 a0 4))) (49, [.ref a0, .int a1, .int a2, .int a3, .retAddr 0], [.ref (hR h13 (hR h13 a0 4) (ix a2)), .int r14], h13) rfl g16 ?_
        obtain ⟨g17, e⟩ := gd_some e
        refine eb_g (p := hT h13 (hR h13 (hR h13 a0 4) (ix a2)) = 8) (52, [.ref a0, .int a1, .int a2, .int a3, .retAddr 0], [.int (hI h13 (hR h13 (hR h13 a0 4) (ix a2)) 0), .int r14], h13) rfl g17 ?_
        obtain ⟨h18, r19, eh18, e⟩ := bn_some e
        refine eb_c rfl (f_Math_min_ev d (Nat.le_trans (by decide) hd) eh18) ?_
        show Eb _ 103 (55, [.ref a0, .int a1, .int a2, .int a3, .retAddr 0], [.int r19], h18) _ _
        refine eb_n 3 (60, [.ref a0, .int a1, .int a2, .int a3, .int r19], [.int (nI 1), .int r19], h18) (rfl) ?_
        refine eb_b (c := (nI 1) ≤ r19) (65, [.ref a0, .int a1, .int a2, .int a3, .int r19], [], h18) (63, [.ref a0, .int a1, .int a2, .int a3, .int r19], [], h18) rfl (fun c20 => ?_) (fun c20 => ?_)
        · replace e := ite_t c20 e
          refine eb_n 1 (66, [.ref a0, .int a1, .int a2, .int a3, .int r19], [.ref a0], h18) (rfl) ?_
          obtain ⟨g21, e⟩ := gd_some e
          refine eb_g (p := hT h18 a0 = 3) (69, [.ref a0, .int a1, .int a2, .int a3, .int r19], [.ref (hR h18 a0 4)], h18) rfl g21 ?_
          refine eb_n 1 (70, [.ref a0, .int a1, .int a2, .int a3, .int r19], [.int a2, .ref (hR h18 a0 4)], h18) (rfl) ?_
          obtain ⟨g22, e⟩ := gd_some e
          refine eb_g (p := hT h18 (hR h18 a0 4) = 108 ∧ inb a2 (hL h18 (hR h18 a0 4))) (71, [.ref a0, .int a1, .int a2, .int a3, .int r19], [.ref (hR h18 (hR h18 a0 4) (ix a2))], h18) rfl g22 ?_
          refine eb_n 1 (72, [.ref a0, .int a1, .int a2, .int a3, .int r19], [.ref (hR h18 (hR h18 a0 4) (ix a2)), .ref (hR h18 (hR h18 a0 4) (ix a2))], h18) (rfl) ?_
          obtain ⟨g23, e⟩ := gd_some e
          refine eb_g (p := hT h18 (hR h18 (hR h18 a0 4) (ix a2)) = 8) (75, [.ref a0, .int a1, .int a2, .int a3, .int r19], [.int (hI h18 (hR h18 (hR h18 a0 4) (ix a2)) 0), .ref (hR h18 (hR h18 a0 4) (ix a2))], h18) rfl g23 ?_
          refine eb_n 2 (78, [.ref a0, .int a1, .int a2, .int a3, .int r19], [.int ((hI h18 (hR h18 (hR h18 a0 4) (ix a2)) 0) - r19), .ref (hR h18 (hR h18 a0 4) (ix a2))], h18) (rfl) ?_
          obtain ⟨h24, eh24, e⟩ := lq_some e
          refine eb_g (p := hT h18 (hR h18 (hR h18 a0 4) (ix a2)) = 8) (81, [.ref a0, .int a1, .int a2, .int a3, .int r19], [], h24) (by rw [eh24]; rfl) g23 ?_
          refine eb_n 1 (82, [.ref a0, .int a1, .int a2, .int a3, .int r19], [.ref a0], h24) (rfl) ?_
          obtain ⟨g25, e⟩ := gd_some e
          refine eb_g (p := hT h24 a0 = 3) (85, [.ref a0, .int a1, .int a2, .int a3, .int r19], [.ref (hR h24 a0 3)], h24) rfl g25 ?_
          refine eb_n 1 (86, [.ref a0, .int a1, .int a2, .int a3, .int r19], [.int a1, .ref (hR h24 a0 3)], h24) (rfl) ?_
          obtain ⟨g26, e⟩ := gd_some e
          refine eb_g (p := hT h24 (hR h24 a0 3) = 107 ∧ inb a1 (hL h24 (hR h24 a0 3))) (87, [.ref a0, .int a1, .int a2, .int a3, .int r19], [.ref (hR h24 (hR h24 a0 3) (ix a1))], h24) rfl g26 ?_
          refine eb_n 1 (89, [.ref a0, .int a1, .int a2, .int a3, .int r19], [.int r19, .ref (hR h24 (hR h24 a0 3) (ix a1))], h24) (rfl) ?_
          obtain ⟨g27, e⟩ := gd_some e
          obtain ⟨h28, eh28, e⟩ := lq_some e
          refine eb_g (p := hT h24 (hR h24 (hR h24 a0 3) (ix a1)) = 7) (92, [.ref a0, .int a1, .int a2, .int a3, .int r19], [], h28) (by rw [eh28]; rfl) g27 ?_
          refine eb_n 1 (93, [.ref a0, .int a1, .int a2, .int a3, .int r19], [.ref a0], h28) (rfl) ?_
          obtain ⟨g29, e⟩ := gd_some e
          refine eb_g (p := hT h28 a0 = 3) (96, [.ref a0, .int a1, .int a2, .int a3, .int r19], [.ref (hR h28 a0 3)], h28) rfl g29 ?_
          refine eb_n 1 (97, [.ref a0, .int a1, .int a2, .int a3, .int r19], [.int a1, .ref (hR h28 a0 3)], h28) (rfl) ?_
          obtain ⟨g30, e⟩ := gd_some e
          refine eb_g (p := hT h28 (hR h28 a0 3) = 107 ∧ inb a1 (hL h28 (hR h28 a0 3))) (98, [.ref a0, .int a1, .int a2, .int a3, .int r19], [.ref (hR h28 (hR h28 a0 3) (ix a1))], h28) rfl g30 ?_
          refine eb_n 1 (99, [.ref a0, .int a1, .int a2, .int a3, .int r19], [.int a2, .ref (hR h28 (hR h28 a0 3) (ix a1))], h28) (rfl) ?_
          obtain ⟨g31, e⟩ := gd_some e
          obtain ⟨h32, eh32, e⟩ := lq_some e
          refine eb_g (p := hT h28 (hR h28 (hR h28 a0 3) (ix a1)) = 7) (102, [.ref a0, .int a1, .int a2, .int a3, .int r19], [], h32) (by rw [eh32]; rfl) g31 ?_
          refine eb_n 1 (103, [.ref a0, .int a1, .int a2, .int a3, .int r19], [.ref a0], h32) (rfl) ?_
          obtain ⟨g33, e⟩ := gd_some e
          refine eb_g (p := hT h32 a0 = 3) (106, [.ref a0, .int a1, .int a2, .int a3, .int r19], [.ref (hR h32 a0 3)], h32) rfl g33 ?_
          refine eb_n 1 (107, [.ref a0, .int a1, .int a2, .int a3, .int r19], [.int a1, .ref (hR h32 a0 3)], h32) (rfl) ?_
          obtain ⟨g34, e⟩ := gd_some e
          refine eb_g (p := hT h32 (hR h32 a0 3) = 107 ∧ inb a1 (hL h32 (hR h32 a0 3))) (108, [.ref a0, .int a1, .int a2, .int a3, .int r19], [.ref (hR h32 (hR h32 a0 3) (ix a1))], h32) rfl g34 ?_
          refine eb_n 1 (109, [.ref a0, .int a1, .int a2, .int a3, .int r19], [.int (nI 1), .ref (hR h32 (hR h32 a0 3) (ix a1))], h32) (rfl) ?_
          obtain ⟨g35, e⟩ := gd_some e
          obtain ⟨h36, eh36, e⟩ := lq_some e
          refine eb_g (p := hT h32 (hR h32 (hR h32 a0 3) (ix a1)) = 7) (112, [.ref a0, .int a1, .int a2, .int a3, .int r19], [], h36) (by rw [eh36]; rfl) g35 ?_
          refine eb_n 1 (114, [.ref a0, .int a1, .int a2, .int a3, .int r19], [.int r19], h36) (rfl) ?_
          rw [(sp_inj e).1, (sp_inj e).2]
          exact eb_rg (p := nrm 0 r19) rfl (nrm_0 _)
        · replace e := ite_f c20 e
          refine eb_n 1 (64, [.ref a0, .int a1, .int a2, .int a3, .int r19], [.int (nI 0)], h18) (rfl) ?_
          rw [(sp_inj e).1, (sp_inj e).2]
          exact eb_rg (p := nrm 0 (nI 0)) rfl (nrm_0 _)
      · replace e := ite_f c12 e
        refine eb_n 1 (29, [.ref a0, .int a1, .int a2, .int a3, .retAddr 0], [.int (nI 0)], h6) (rfl) ?_
        rw [(sp_inj e).1, (sp_inj e).2]
        exact eb_rg (p := nrm 0 (nI 0)) rfl (nrm_0 _)
set_option maxRecDepth 100000 in
set_option maxHeartbeats 4000000 in
theorem f_QuillBoats_load_b22_ev {h' : AH} {r : Int32} (d : Nat) (hd : 2 ≤ d)  (h : AH)   (d0 : Value) (d1 : Value) (d2 : Value) (d3 : Value) (d4 : Value) (e : f_QuillBoats_load_b22  h  = some (h', r)) : Eb (Ev tb mL d) 42 (22, [d0, d1, d2, d3, d4], [], h) h' (some (.int r)) := by
  unfold f_QuillBoats_load_b22 at e
  exact nomatch e
set_option maxRecDepth 100000 in
set_option maxHeartbeats 4000000 in
theorem f_QuillBoats_load_ev (d0 : Nat) (hd0 : 3 ≤ d0) {h' : AH} {r : Int32} {h : AH} {a0 : Nat} {a1 : Int32} {a2 : Int32} {a3 : Int32} (e : f_QuillBoats_load h a0 a1 a2 a3 = some (h', r)) : Ev tb mL d0 42 [.ref a0, .int a1, .int a2, .int a3] h h' (some (.int r)) := by
  obtain ⟨d, rfl⟩ : ∃ d, d0 = d + 1 := ⟨d0 - 1, by omega⟩
  have hd : 2 ≤ d := by omega
  refine ⟨Nat.le_of_ble_eq_true rfl, ?_⟩
  show Eb (Ev tb mL d) 42 (0, [.ref a0, .int a1, .int a2, .int a3, .retAddr 0], [], h) h' (some (.int r))
  unfold f_QuillBoats_load at e
  refine eb_n 1 (1, [.ref a0, .int a1, .int a2, .int a3, .retAddr 0], [.ref a0], h) (rfl) ?_
  obtain ⟨g1, e⟩ := gd_some e
  refine eb_g (p := hT h a0 = 1) (4, [.ref a0, .int a1, .int a2, .int a3, .retAddr 0], [.ref (hR h a0 4)], h) rfl g1 ?_
  refine eb_n 1 (5, [.ref a0, .int a1, .int a2, .int a3, .retAddr 0], [.int a1, .ref (hR h a0 4)], h) (rfl) ?_
  obtain ⟨g2, e⟩ := gd_some e
  obtain ⟨h3, r4, eh3, e⟩ := bn_some e
  refine eb_cg (p := hT h (hR h a0 4) = 3) rfl g2 (f_River_hasBoat_ev d (Nat.le_trans (by decide) hd) eh3) ?_
  show Eb _ 42 (8, [.ref a0, .int a1, .int a2, .int a3, .retAddr 0], [.int r4], h3) _ _
  refine eb_b (c := r4 = 0) (22, [.ref a0, .int a1, .int a2, .int a3, .retAddr 0], [], h3) (11, [.ref a0, .int a1, .int a2, .int a3, .retAddr 0], [], h3) rfl (fun c5 => ?_) (fun c5 => ?_)
  · replace e := ite_t c5 e
    exact f_QuillBoats_load_b22_ev d hd   _  _ _ _ _ _ e
  · replace e := ite_f c5 e
    refine eb_n 1 (12, [.ref a0, .int a1, .int a2, .int a3, .retAddr 0], [.ref a0], h3) (rfl) ?_
    obtain ⟨g6, e⟩ := gd_some e
    refine eb_g (p := hT h3 a0 = 1) (15, [.ref a0, .int a1, .int a2, .int a3, .retAddr 0], [.ref (hR h3 a0 4)], h3) rfl g6 ?_
    refine eb_n 1 (16, [.ref a0, .int a1, .int a2, .int a3, .retAddr 0], [.int a2, .ref (hR h3 a0 4)], h3) (rfl) ?_
    obtain ⟨g7, e⟩ := gd_some e
    obtain ⟨h8, r9, eh8, e⟩ := bn_some e
    refine eb_cg (p := hT h3 (hR h3 a0 4) = 3) rfl g7 (f_River_hasGrade_ev d (Nat.le_trans (by decide) hd) eh8) ?_
    show Eb _ 42 (19, [.ref a0, .int a1, .int a2, .int a3, .retAddr 0], [.int r9], h8) _ _
    refine eb_b (c := ¬ r9 = 0) (32, [.ref a0, .int a1, .int a2, .int a3, .retAddr 0], [], h8) (22, [.ref a0, .int a1, .int a2, .int a3, .retAddr 0], [], h8) rfl (fun c10 => ?_) (fun c10 => ?_)
    · replace e := ite_t c10 e
      refine eb_n 3 (35, [.ref a0, .int a1, .int a2, .int a3, .retAddr 0], [.ref a0, .int (nI 1), .int a3], h8) (rfl) ?_
      obtain ⟨g11, e⟩ := gd_some e
      refine eb_g (p := hT h8 a0 = 1) (38, [.ref a0, .int a1, .int a2, .int a3, .retAddr 0], [.ref (hR h8 a0 4), .int (nI 1), .int a3], h8) rfl g11 ?_
      obtain ⟨g12, e⟩ := gd_some e
      refine eb_g (p := hT h8 (hR h8 a0 4) = 3) (41, [.ref a0, .int a1, .int a2, .int a3, .retAddr 0], [.ref (hR h8 (hR h8 a0 4) 3), .int (nI 1), .int a3], h8) rfl g12 ?_
      refine eb_n 1 (42, [.ref a0, .int a1, .int a2, .int a3, .retAddr 0], [.int a1, .ref (hR h8 (hR h8 a0 4) 3), .int (nI 1), .int a3], h8) (rfl) ?_
      obtain ⟨g13, e⟩ := gd_some e
      refine eb_g (p := hT h8 (hR h8 (hR h8 a0 4) 3) = 107 ∧ inb a1 (hL h8 (hR h8 (hR h8 a0 4) 3))) (43, [.ref a0, .int a1, .int a2, .int a3, .retAddr 0], [.ref (hR h8 (hR h8 (hR h8 a0 4) 3) (ix a1)), .int (nI 1), .int a3], h8) rfl g13 ?_
      obtain ⟨g14, e⟩ := gd_some e
      refine eb_g (p := hT h8 (hR h8 (hR h8 (hR h8 a0 4) 3) (ix a1)) = 7) (46, [.ref a0, .int a1, .int a2, .int a3, .retAddr 0], [.int (hI h8 (hR h8 (hR h8 (hR h8 a0 4) 3) (ix a1)) 0), .int (nI 1), .int a3], h8) rfl g14 ?_
      obtain ⟨h15, r16, eh15, e⟩ := bn_some e
      refine eb_c rfl (f_QuillBoats_isWithin_ev d (Nat.le_trans (by decide) hd) eh15) ?_
      show Eb _ 42 (49, [.ref a0, .int a1, .int a2, .int a3, .retAddr 0], [.int r16], h15) _ _
      refine eb_b (c := ¬ r16 = 0) (62, [.ref a0, .int a1, .int a2, .int a3, .retAddr 0], [], h15) (52, [.ref a0, .int a1, .int a2, .int a3, .retAddr 0], [], h15) rfl (fun c17 => ?_) (fun c17 => ?_)
      · replace e := ite_t c17 e
        refine eb_n 1 (63, [.ref a0, .int a1, .int a2, .int a3, .retAddr 0], [.ref a0], h15) (rfl) ?_
        obtain ⟨g18, e⟩ := gd_some e
        refine eb_g (p := hT h15 a0 = 1) (66, [.ref a0, .int a1, .int a2, .int a3, .retAddr 0], [.ref (hR h15 a0 4)], h15) rfl g18 ?_
        refine eb_n 3 (69, [.ref a0, .int a1, .int a2, .int a3, .retAddr 0], [.int a3, .int a2, .int a1, .ref (hR h15 a0 4)], h15) (rfl) ?_
        obtain ⟨g19, e⟩ := gd_some e
        obtain ⟨h20, r21, eh20, e⟩ := bn_some e
        refine eb_cg (p := hT h15 (hR h15 a0 4) = 3) rfl g19 (f_River_loadBoat_ev d (Nat.le_trans (by decide) hd) eh20) ?_
        show Eb _ 42 (72, [.ref a0, .int a1, .int a2, .int a3, .retAddr 0], [.int r21], h20) _ _
        refine eb_n 3 (77, [.ref a0, .int a1, .int a2, .int a3, .int r21], [.int (nI 1), .int r21], h20) (rfl) ?_
        refine eb_b (c := (nI 1) ≤ r21) (90, [.ref a0, .int a1, .int a2, .int a3, .int r21], [], h20) (80, [.ref a0, .int a1, .int a2, .int a3, .int r21], [], h20) rfl (fun c22 => ?_) (fun c22 => ?_)
        · replace e := ite_t c22 e
          refine eb_n 1 (92, [.ref a0, .int a1, .int a2, .int a3, .int r21], [.int r21], h20) (rfl) ?_
          rw [(sp_inj e).1, (sp_inj e).2]
          exact eb_rg (p := nrm 0 r21) rfl (nrm_0 _)
        · replace e := ite_f c22 e
          exact nomatch e
      · replace e := ite_f c17 e
        exact nomatch e
    · replace e := ite_f c10 e
      exact f_QuillBoats_load_b22_ev d hd   _  _ _ _ _ _ e
set_option maxRecDepth 100000 in
set_option maxHeartbeats 4000000 in
theorem f_Sim_load_b53_ev {h' : AH} {r : Int32} (d : Nat) (hd : 0 ≤ d)  (h : AH) (a0 : Nat) (a2 : Int32) (a4 : Nat) (a5 : Int32)  (d1 : Value) (d3 : Value) (e : f_Sim_load_b53  h a0 a2 a4 a5 = some (h', r)) : Eb (Ev tb mL d) 43 (53, [.ref a0, d1, .int a2, d3, .ref a4, .int a5], [], h) h' (some (.int r)) := by
  unfold f_Sim_load_b53 at e
  refine eb_n 2 (56, [.ref a0, d1, .int a2, d3, .ref a4, .int a5], [.int (nI 3), .ref a4], h) (rfl) ?_
  obtain ⟨g1, e⟩ := gd_some e
  refine eb_g (p := hT h a4 = 101 ∧ inb (nI 3) (hL h a4)) (57, [.ref a0, d1, .int a2, d3, .ref a4, .int a5], [.int (hI h a4 (ix (nI 3)))], h) rfl g1 ?_
  refine eb_b (c := ¬ (hI h a4 (ix (nI 3))) = 0) (65, [.ref a0, d1, .int a2, d3, .ref a4, .int a5], [], h) (60, [.ref a0, d1, .int a2, d3, .ref a4, .int a5], [], h) rfl (fun c2 => ?_) (fun c2 => ?_)
  · replace e := ite_t c2 e
    refine eb_n 1 (66, [.ref a0, d1, .int a2, d3, .ref a4, .int a5], [.int (nI 0)], h) (rfl) ?_
    rw [(sp_inj e).1, (sp_inj e).2]
    exact eb_rg (p := nrm 0 (nI 0)) rfl (nrm_0 _)
  · replace e := ite_f c2 e
    refine eb_n 1 (62, [.ref a0, d1, .int a2, d3, .ref a4, .int a5], [.int a5], h) (rfl) ?_
    refine eb_b (c := ¬ a5 = 0) (67, [.ref a0, d1, .int a2, d3, .ref a4, .int a5], [], h) (65, [.ref a0, d1, .int a2, d3, .ref a4, .int a5], [], h) rfl (fun c3 => ?_) (fun c3 => ?_)
    · replace e := ite_t c3 e
      refine eb_n 1 (68, [.ref a0, d1, .int a2, d3, .ref a4, .int a5], [.ref a0], h) (rfl) ?_
      obtain ⟨g4, e⟩ := gd_some e
      refine eb_g (p := hT h a0 = 13) (71, [.ref a0, d1, .int a2, d3, .ref a4, .int a5], [.ref (hR h a0 9)], h) rfl g4 ?_
      refine eb_n 2 (73, [.ref a0, d1, .int a2, d3, .ref a4, .int a5], [.int a2, .ref (hR h a0 9), .int a2, .ref (hR h a0 9)], h) (rfl) ?_
      obtain ⟨g5, e⟩ := gd_some e
      refine eb_g (p := hT h (hR h a0 9) = 101 ∧ inb a2 (hL h (hR h a0 9))) (74, [.ref a0, d1, .int a2, d3, .ref a4, .int a5], [.int (hI h (hR h a0 9) (ix a2)), .int a2, .ref (hR h a0 9)], h) rfl g5 ?_
      refine eb_n 2 (77, [.ref a0, d1, .int a2, d3, .ref a4, .int a5], [.int ((hI h (hR h a0 9) (ix a2)) - a5), .int a2, .ref (hR h a0 9)], h) (rfl) ?_
      obtain ⟨h6, eh6, e⟩ := lq_some e
      refine eb_g (p := hT h (hR h a0 9) = 101 ∧ inb a2 (hL h (hR h a0 9))) (78, [.ref a0, d1, .int a2, d3, .ref a4, .int a5], [], h6) (by rw [eh6]; rfl) g5 ?_
      refine eb_n 3 (82, [.ref a0, d1, .int a2, d3, .ref a4, .int a5], [.int (nI 0), .int (nI 2), .ref a4], h6) (rfl) ?_
      obtain ⟨g7, e⟩ := gd_some e
      obtain ⟨h8, eh8, e⟩ := lq_some e
      refine eb_g (p := hT h6 a4 = 101 ∧ inb (nI 2) (hL h6 a4)) (83, [.ref a0, d1, .int a2, d3, .ref a4, .int a5], [], h8) (by rw [eh8]; rfl) g7 ?_
      refine eb_n 3 (87, [.ref a0, d1, .int a2, d3, .ref a4, .int a5], [.int (nI 1), .int (nI 3), .ref a4], h8) (rfl) ?_
      obtain ⟨g9, e⟩ := gd_some e
      obtain ⟨h10, eh10, e⟩ := lq_some e
      refine eb_g (p := hT h8 a4 = 101 ∧ inb (nI 3) (hL h8 a4)) (88, [.ref a0, d1, .int a2, d3, .ref a4, .int a5], [], h10) (by rw [eh10]; rfl) g9 ?_
      refine eb_n 3 (93, [.ref a0, d1, .int a2, d3, .ref a4, .int a5], [.int a5, .int (nI 4), .ref a4], h10) (rfl) ?_
      obtain ⟨g11, e⟩ := gd_some e
      obtain ⟨h12, eh12, e⟩ := lq_some e
      refine eb_g (p := hT h10 a4 = 101 ∧ inb (nI 4) (hL h10 a4)) (94, [.ref a0, d1, .int a2, d3, .ref a4, .int a5], [], h12) (by rw [eh12]; rfl) g11 ?_
      refine eb_n 3 (98, [.ref a0, d1, .int a2, d3, .ref a4, .int a5], [.int a2, .int (nI 5), .ref a4], h12) (rfl) ?_
      obtain ⟨g13, e⟩ := gd_some e
      obtain ⟨h14, eh14, e⟩ := lq_some e
      refine eb_g (p := hT h12 a4 = 101 ∧ inb (nI 5) (hL h12 a4)) (99, [.ref a0, d1, .int a2, d3, .ref a4, .int a5], [], h14) (by rw [eh14]; rfl) g13 ?_
      refine eb_n 1 (101, [.ref a0, d1, .int a2, d3, .ref a4, .int a5], [.int a5], h14) (rfl) ?_
      rw [(sp_inj e).1, (sp_inj e).2]
      exact eb_rg (p := nrm 0 a5) rfl (nrm_0 _)
    · replace e := ite_f c3 e
      refine eb_n 1 (66, [.ref a0, d1, .int a2, d3, .ref a4, .int a5], [.int (nI 0)], h) (rfl) ?_
      rw [(sp_inj e).1, (sp_inj e).2]
      exact eb_rg (p := nrm 0 (nI 0)) rfl (nrm_0 _)
set_option maxRecDepth 100000 in
set_option maxHeartbeats 4000000 in
theorem f_Sim_load_b32_ev {h' : AH} {r : Int32} (d : Nat) (hd : 0 ≤ d)  (h : AH) (a0 : Nat) (a2 : Int32) (a4 : Nat) (s0 : Int32) (d1 : Value) (d3 : Value) (d5 : Value) (e : f_Sim_load_b32  h a0 a2 a4 s0 = some (h', r)) : Eb (Ev tb mL d) 43 (32, [.ref a0, d1, .int a2, d3, .ref a4, d5], [.int s0], h) h' (some (.int r)) := by
  unfold f_Sim_load_b32 at e
  refine eb_n 3 (37, [.ref a0, d1, .int a2, d3, .ref a4, .int s0], [.ref a0, .int s0], h) (rfl) ?_
  obtain ⟨g1, e⟩ := gd_some e
  refine eb_g (p := hT h a0 = 13) (40, [.ref a0, d1, .int a2, d3, .ref a4, .int s0], [.ref (hR h a0 9), .int s0], h) rfl g1 ?_
  refine eb_n 1 (41, [.ref a0, d1, .int a2, d3, .ref a4, .int s0], [.int a2, .ref (hR h a0 9), .int s0], h) (rfl) ?_
  obtain ⟨g2, e⟩ := gd_some e
  refine eb_g (p := hT h (hR h a0 9) = 101 ∧ inb a2 (hL h (hR h a0 9))) (42, [.ref a0, d1, .int a2, d3, .ref a4, .int s0], [.int (hI h (hR h a0 9) (ix a2)), .int s0], h) rfl g2 ?_
  refine eb_b (c := s0 ≤ (hI h (hR h a0 9) (ix a2))) (53, [.ref a0, d1, .int a2, d3, .ref a4, .int s0], [], h) (45, [.ref a0, d1, .int a2, d3, .ref a4, .int s0], [], h) rfl (fun c3 => ?_) (fun c3 => ?_)
  · replace e := ite_t c3 e
    exact f_Sim_load_b53_ev d hd   _ _ _ _ _ _ _ e
  · replace e := ite_f c3 e
    refine eb_n 1 (46, [.ref a0, d1, .int a2, d3, .ref a4, .int s0], [.ref a0], h) (rfl) ?_
    refine eb_g (p := hT h a0 = 13) (49, [.ref a0, d1, .int a2, d3, .ref a4, .int s0], [.ref (hR h a0 9)], h) rfl g1 ?_
    refine eb_n 1 (50, [.ref a0, d1, .int a2, d3, .ref a4, .int s0], [.int a2, .ref (hR h a0 9)], h) (rfl) ?_
    refine eb_g (p := hT h (hR h a0 9) = 101 ∧ inb a2 (hL h (hR h a0 9))) (51, [.ref a0, d1, .int a2, d3, .ref a4, .int s0], [.int (hI h (hR h a0 9) (ix a2))], h) rfl g2 ?_
    obtain ⟨x4, hx4, e⟩ := lq_some e
    refine eb_n 1 (53, [.ref a0, d1, .int a2, d3, .ref a4, .int x4], [], h) (by subst hx4; rfl) ?_
    exact f_Sim_load_b53_ev d hd   _ _ _ _ _ _ _ e
set_option maxRecDepth 100000 in
set_option maxHeartbeats 4000000 in
theorem f_Sim_load_ev (d0 : Nat) (hd0 : 1 ≤ d0) {h' : AH} {r : Int32} {h : AH} {a0 : Nat} {a1 : Int32} {a2 : Int32} {a3 : Int32} (e : f_Sim_load h a0 a1 a2 a3 = some (h', r)) : Ev tb mL d0 43 [.ref a0, .int a1, .int a2, .int a3] h h' (some (.int r)) := by
  obtain ⟨d, rfl⟩ : ∃ d, d0 = d + 1 := ⟨d0 - 1, by omega⟩
  have hd : 0 ≤ d := by omega
  refine ⟨Nat.le_of_ble_eq_true rfl, ?_⟩
  show Eb (Ev tb mL d) 43 (0, [.ref a0, .int a1, .int a2, .int a3, .retAddr 0, .retAddr 0], [], h) h' (some (.int r))
  unfold f_Sim_load at e
  refine eb_n 1 (1, [.ref a0, .int a1, .int a2, .int a3, .retAddr 0, .retAddr 0], [.ref a0], h) (rfl) ?_
  obtain ⟨g1, e⟩ := gd_some e
  refine eb_g (p := hT h a0 = 13) (4, [.ref a0, .int a1, .int a2, .int a3, .retAddr 0, .retAddr 0], [.ref (hR h a0 16)], h) rfl g1 ?_
  refine eb_n 1 (5, [.ref a0, .int a1, .int a2, .int a3, .retAddr 0, .retAddr 0], [.int a1, .ref (hR h a0 16)], h) (rfl) ?_
  obtain ⟨g2, e⟩ := gd_some e
  refine eb_g (p := hT h (hR h a0 16) = 109 ∧ inb a1 (hL h (hR h a0 16))) (6, [.ref a0, .int a1, .int a2, .int a3, .retAddr 0, .retAddr 0], [.ref (hR h (hR h a0 16) (ix a1))], h) rfl g2 ?_
  obtain ⟨x3, hx3, e⟩ := lq_some e
  refine eb_n 1 (8, [.ref a0, .int a1, .int a2, .int a3, .ref x3, .retAddr 0], [], h) (by subst hx3; rfl) ?_
  refine eb_n 1 (9, [.ref a0, .int a1, .int a2, .int a3, .ref x3, .retAddr 0], [.int a3], h) (rfl) ?_
  refine eb_b (c := 0 ≤ a3) (16, [.ref a0, .int a1, .int a2, .int a3, .ref x3, .retAddr 0], [], h) (12, [.ref a0, .int a1, .int a2, .int a3, .ref x3, .retAddr 0], [], h) rfl (fun c4 => ?_) (fun c4 => ?_)
  · replace e := ite_t c4 e
    refine eb_n 3 (20, [.ref a0, .int a1, .int a2, .int a3, .ref x3, .retAddr 0], [.int (nI 0), .ref x3, .int a3], h) (rfl) ?_
    obtain ⟨g5, e⟩ := gd_some e
    refine eb_g (p := hT h x3 = 101 ∧ inb (nI 0) (hL h x3)) (21, [.ref a0, .int a1, .int a2, .int a3, .ref x3, .retAddr 0], [.int (hI h x3 (ix (nI 0))), .int a3], h) rfl g5 ?_
    refine eb_b (c := a3 ≤ (hI h x3 (ix (nI 0)))) (31, [.ref a0, .int a1, .int a2, .int a3, .ref x3, .retAddr 0], [], h) (24, [.ref a0, .int a1, .int a2, .int a3, .ref x3, .retAddr 0], [], h) rfl (fun c6 => ?_) (fun c6 => ?_)
    · replace e := ite_t c6 e
      refine eb_n 1 (32, [.ref a0, .int a1, .int a2, .int a3, .ref x3, .retAddr 0], [.int a3], h) (rfl) ?_
      exact f_Sim_load_b32_ev d hd   _ _ _ _ _ _ _ _ e
    · replace e := ite_f c6 e
      refine eb_n 2 (27, [.ref a0, .int a1, .int a2, .int a3, .ref x3, .retAddr 0], [.int (nI 0), .ref x3], h) (rfl) ?_
      refine eb_g (p := hT h x3 = 101 ∧ inb (nI 0) (hL h x3)) (28, [.ref a0, .int a1, .int a2, .int a3, .ref x3, .retAddr 0], [.int (hI h x3 (ix (nI 0)))], h) rfl g5 ?_
      refine eb_n 1 (32, [.ref a0, .int a1, .int a2, .int a3, .ref x3, .retAddr 0], [.int (hI h x3 (ix (nI 0)))], h) (rfl) ?_
      exact f_Sim_load_b32_ev d hd   _ _ _ _ _ _ _ _ e
  · replace e := ite_f c4 e
    refine eb_n 2 (32, [.ref a0, .int a1, .int a2, .int a3, .ref x3, .retAddr 0], [.int (nI 0)], h) (rfl) ?_
    exact f_Sim_load_b32_ev d hd   _ _ _ _ _ _ _ _ e
set_option maxRecDepth 100000 in
set_option maxHeartbeats 4000000 in
theorem f_QuillBoats_setShade_ev (d0 : Nat) (hd0 : 2 ≤ d0) {h' : AH} {r : Int32} {h : AH} {a0 : Nat} {a1 : Int32} {a2 : Int32} (e : f_QuillBoats_setShade h a0 a1 a2 = some (h', r)) : Ev tb mL d0 44 [.ref a0, .int a1, .int a2] h h' (some (.int r)) := by
  obtain ⟨d, rfl⟩ : ∃ d, d0 = d + 1 := ⟨d0 - 1, by omega⟩
  have hd : 1 ≤ d := by omega
  refine ⟨Nat.le_of_ble_eq_true rfl, ?_⟩
  show Eb (Ev tb mL d) 44 (0, [.ref a0, .int a1, .int a2, .retAddr 0], [], h) h' (some (.int r))
  unfold f_QuillBoats_setShade at e
  refine eb_n 3 (4, [.ref a0, .int a1, .int a2, .retAddr 0], [.int (nI 11), .int (nI 0), .int a1], h) (rfl) ?_
  obtain ⟨h1, r2, eh1, e⟩ := bn_some e
  refine eb_c rfl (f_QuillBoats_isWithin_ev d (Nat.le_trans (by decide) hd) eh1) ?_
  show Eb _ 44 (7, [.ref a0, .int a1, .int a2, .retAddr 0], [.int r2], h1) _ _
  refine eb_b (c := ¬ r2 = 0) (20, [.ref a0, .int a1, .int a2, .retAddr 0], [], h1) (10, [.ref a0, .int a1, .int a2, .retAddr 0], [], h1) rfl (fun c3 => ?_) (fun c3 => ?_)
  · replace e := ite_t c3 e
    refine eb_n 3 (23, [.ref a0, .int a1, .int a2, .retAddr 0], [.int (nI 3), .int (nI 0), .int a2], h1) (rfl) ?_
    obtain ⟨h4, r5, eh4, e⟩ := bn_some e
    refine eb_c rfl (f_QuillBoats_isWithin_ev d (Nat.le_trans (by decide) hd) eh4) ?_
    show Eb _ 44 (26, [.ref a0, .int a1, .int a2, .retAddr 0], [.int r5], h4) _ _
    refine eb_b (c := ¬ r5 = 0) (39, [.ref a0, .int a1, .int a2, .retAddr 0], [], h4) (29, [.ref a0, .int a1, .int a2, .retAddr 0], [], h4) rfl (fun c6 => ?_) (fun c6 => ?_)
    · replace e := ite_t c6 e
      refine eb_n 1 (40, [.ref a0, .int a1, .int a2, .retAddr 0], [.ref a0], h4) (rfl) ?_
      obtain ⟨g7, e⟩ := gd_some e
      refine eb_g (p := hT h4 a0 = 1) (43, [.ref a0, .int a1, .int a2, .retAddr 0], [.ref (hR h4 a0 4)], h4) rfl g7 ?_
      obtain ⟨g8, e⟩ := gd_some e
      refine eb_g (p := hT h4 (hR h4 a0 4) = 3) (46, [.ref a0, .int a1, .int a2, .retAddr 0], [.ref (hR h4 (hR h4 a0 4) 5)], h4) rfl g8 ?_
      refine eb_n 1 (47, [.ref a0, .int a1, .int a2, .retAddr 0], [.int a1, .ref (hR h4 (hR h4 a0 4) 5)], h4) (rfl) ?_
      obtain ⟨g9, e⟩ := gd_some e
      refine eb_g (p := hT h4 (hR h4 (hR h4 a0 4) 5) = 101 ∧ inb a1 (hL h4 (hR h4 (hR h4 a0 4) 5))) (48, [.ref a0, .int a1, .int a2, .retAddr 0], [.int (hI h4 (hR h4 (hR h4 a0 4) 5) (ix a1))], h4) rfl g9 ?_
      obtain ⟨x10, hx10, e⟩ := lq_some e
      refine eb_n 1 (49, [.ref a0, .int a1, .int a2, .int x10], [], h4) (by subst hx10; rfl) ?_
      refine eb_n 1 (50, [.ref a0, .int a1, .int a2, .int x10], [.ref a0], h4) (rfl) ?_
      refine eb_g (p := hT h4 a0 = 1) (53, [.ref a0, .int a1, .int a2, .int x10], [.ref (hR h4 a0 4)], h4) rfl g7 ?_
      refine eb_g (p := hT h4 (hR h4 a0 4) = 3) (56, [.ref a0, .int a1, .int a2, .int x10], [.ref (hR h4 (hR h4 a0 4) 5)], h4) rfl g8 ?_
      refine eb_n 2 (58, [.ref a0, .int a1, .int a2, .int x10], [.int a2, .int a1, .ref (hR h4 (hR h4 a0 4) 5)], h4) (rfl) ?_
      obtain ⟨h11, eh11, e⟩ := lq_some e
      refine eb_g (p := hT h4 (hR h4 (hR h4 a0 4) 5) = 101 ∧ inb a1 (hL h4 (hR h4 (hR h4 a0 4) 5))) (59, [.ref a0, .int a1, .int a2, .int x10], [], h11) (by rw [eh11]; rfl) g9 ?_
      refine eb_n 1 (60, [.ref a0, .int a1, .int a2, .int x10], [.int x10], h11) (rfl) ?_
      rw [(sp_inj e).1, (sp_inj e).2]
      exact eb_rg (p := nrm 0 x10) rfl (nrm_0 _)
    · replace e := ite_f c6 e
      exact nomatch e
  · replace e := ite_f c3 e
    exact nomatch e
set_option maxRecDepth 100000 in
set_option maxHeartbeats 4000000 in
theorem f_QuillBoats_setCurrent_ev (d0 : Nat) (hd0 : 2 ≤ d0) {h' : AH} {r : Int32} {h : AH} {a0 : Nat} {a1 : Int32} (e : f_QuillBoats_setCurrent h a0 a1 = some (h', r)) : Ev tb mL d0 45 [.ref a0, .int a1] h h' (some (.int r)) := by
  obtain ⟨d, rfl⟩ : ∃ d, d0 = d + 1 := ⟨d0 - 1, by omega⟩
  have hd : 1 ≤ d := by omega
  refine ⟨Nat.le_of_ble_eq_true rfl, ?_⟩
  show Eb (Ev tb mL d) 45 (0, [.ref a0, .int a1, .retAddr 0], [], h) h' (some (.int r))
  unfold f_QuillBoats_setCurrent at e
  refine eb_n 3 (3, [.ref a0, .int a1, .retAddr 0], [.int (nI 5), .int (nI 0), .int a1], h) (rfl) ?_
  obtain ⟨h1, r2, eh1, e⟩ := bn_some e
  refine eb_c rfl (f_QuillBoats_isWithin_ev d (Nat.le_trans (by decide) hd) eh1) ?_
  show Eb _ 45 (6, [.ref a0, .int a1, .retAddr 0], [.int r2], h1) _ _
  refine eb_b (c := ¬ r2 = 0) (19, [.ref a0, .int a1, .retAddr 0], [], h1) (9, [.ref a0, .int a1, .retAddr 0], [], h1) rfl (fun c3 => ?_) (fun c3 => ?_)
  · replace e := ite_t c3 e
    refine eb_n 1 (20, [.ref a0, .int a1, .retAddr 0], [.ref a0], h1) (rfl) ?_
    obtain ⟨g4, e⟩ := gd_some e
    refine eb_g (p := hT h1 a0 = 1) (23, [.ref a0, .int a1, .retAddr 0], [.ref (hR h1 a0 4)], h1) rfl g4 ?_
    obtain ⟨g5, e⟩ := gd_some e
    refine eb_g (p := hT h1 (hR h1 a0 4) = 3) (26, [.ref a0, .int a1, .retAddr 0], [.int (hI h1 (hR h1 a0 4) 14)], h1) rfl g5 ?_
    obtain ⟨x6, hx6, e⟩ := lq_some e
    refine eb_n 1 (27, [.ref a0, .int a1, .int x6], [], h1) (by subst hx6; rfl) ?_
    refine eb_n 1 (28, [.ref a0, .int a1, .int x6], [.ref a0], h1) (rfl) ?_
    refine eb_g (p := hT h1 a0 = 1) (31, [.ref a0, .int a1, .int x6], [.ref (hR h1 a0 4)], h1) rfl g4 ?_
    refine eb_n 1 (32, [.ref a0, .int a1, .int x6], [.int a1, .ref (hR h1 a0 4)], h1) (rfl) ?_
    obtain ⟨h7, eh7, e⟩ := lq_some e
    refine eb_g (p := hT h1 (hR h1 a0 4) = 3) (35, [.ref a0, .int a1, .int x6], [], h7) (by rw [eh7]; rfl) g5 ?_
    refine eb_n 1 (36, [.ref a0, .int a1, .int x6], [.int x6], h7) (rfl) ?_
    rw [(sp_inj e).1, (sp_inj e).2]
    exact eb_rg (p := nrm 0 x6) rfl (nrm_0 _)
  · replace e := ite_f c3 e
    exact nomatch e
set_option maxRecDepth 100000 in
set_option maxHeartbeats 4000000 in
theorem f_QuillBoats_grant_ev (d0 : Nat) (hd0 : 2 ≤ d0) {h' : AH} {r : Int32} {h : AH} {a0 : Nat} {a1 : Int32} (e : f_QuillBoats_grant h a0 a1 = some (h', r)) : Ev tb mL d0 47 [.ref a0, .int a1] h h' (some (.int r)) := by
  obtain ⟨d, rfl⟩ : ∃ d, d0 = d + 1 := ⟨d0 - 1, by omega⟩
  have hd : 1 ≤ d := by omega
  refine ⟨Nat.le_of_ble_eq_true rfl, ?_⟩
  show Eb (Ev tb mL d) 47 (0, [.ref a0, .int a1], [], h) h' (some (.int r))
  unfold f_QuillBoats_grant at e
  refine eb_n 3 (5, [.ref a0, .int a1], [.int (nI 9999), .int (nI 1), .int a1], h) (rfl) ?_
  obtain ⟨h1, r2, eh1, e⟩ := bn_some e
  refine eb_c rfl (f_QuillBoats_isWithin_ev d (Nat.le_trans (by decide) hd) eh1) ?_
  show Eb _ 47 (8, [.ref a0, .int a1], [.int r2], h1) _ _
  refine eb_b (c := ¬ r2 = 0) (21, [.ref a0, .int a1], [], h1) (11, [.ref a0, .int a1], [], h1) rfl (fun c3 => ?_) (fun c3 => ?_)
  · replace e := ite_t c3 e
    refine eb_n 1 (22, [.ref a0, .int a1], [.ref a0], h1) (rfl) ?_
    obtain ⟨g4, e⟩ := gd_some e
    refine eb_g (p := hT h1 a0 = 1) (25, [.ref a0, .int a1], [.ref (hR h1 a0 4)], h1) rfl g4 ?_
    refine eb_n 2 (28, [.ref a0, .int a1], [.ref a0, .int (nI 99999), .ref (hR h1 a0 4)], h1) (rfl) ?_
    refine eb_g (p := hT h1 a0 = 1) (31, [.ref a0, .int a1], [.ref (hR h1 a0 4), .int (nI 99999), .ref (hR h1 a0 4)], h1) rfl g4 ?_
    obtain ⟨g5, e⟩ := gd_some e
    refine eb_g (p := hT h1 (hR h1 a0 4) = 3) (34, [.ref a0, .int a1], [.int (hI h1 (hR h1 a0 4) 12), .int (nI 99999), .ref (hR h1 a0 4)], h1) rfl g5 ?_
    refine eb_n 2 (36, [.ref a0, .int a1], [.int ((hI h1 (hR h1 a0 4) 12) + a1), .int (nI 99999), .ref (hR h1 a0 4)], h1) (rfl) ?_
    obtain ⟨h6, r7, eh6, e⟩ := bn_some e
    refine eb_c rfl (f_Math_min_ev d (Nat.le_trans (by decide) hd) eh6) ?_
    show Eb _ 47 (39, [.ref a0, .int a1], [.int r7, .ref (hR h1 a0 4)], h6) _ _
    obtain ⟨g8, e⟩ := gd_some e
    obtain ⟨h9, eh9, e⟩ := lq_some e
    refine eb_g (p := hT h6 (hR h1 a0 4) = 3) (42, [.ref a0, .int a1], [], h9) (by rw [eh9]; rfl) g8 ?_
    refine eb_n 1 (43, [.ref a0, .int a1], [.ref a0], h9) (rfl) ?_
    obtain ⟨g10, e⟩ := gd_some e
    refine eb_g (p := hT h9 a0 = 1) (46, [.ref a0, .int a1], [.ref (hR h9 a0 4)], h9) rfl g10 ?_
    obtain ⟨g11, e⟩ := gd_some e
    refine eb_g (p := hT h9 (hR h9 a0 4) = 3) (49, [.ref a0, .int a1], [.int (hI h9 (hR h9 a0 4) 12)], h9) rfl g11 ?_
    rw [(sp_inj e).1, (sp_inj e).2]
    exact eb_rg (p := nrm 0 (hI h9 (hR h9 a0 4) 12)) rfl (nrm_0 _)
  · replace e := ite_f c3 e
    exact nomatch e
set_option maxRecDepth 100000 in
set_option maxHeartbeats 4000000 in
theorem f_Sim_room_b21_ev {h' : AH} {r : Int32} (d : Nat) (hd : 0 ≤ d) (k21 : AH → Int32 → Nat → Int32 → Int32 → Option (AH × Int32)) (hk21 : ∀ (h : AH) (a2 : Int32) (a3 : Nat) (a4 : Int32) (a5 : Int32)  (d0 : Value) (d1 : Value) (d6 : Value), k21 h a2 a3 a4 a5 = some (h', r) → Eb (Ev tb mL d) 72 (21, [d0, d1, .int a2, .ref a3, .int a4, .int a5, d6], [], h) h' (some (.int r)))  (h : AH) (a2 : Int32) (a3 : Nat) (a4 : Int32) (a5 : Int32)  (d0 : Value) (d1 : Value) (d6 : Value) (e : f_Sim_room_b21 k21 h a2 a3 a4 a5 = some (h', r)) : Eb (Ev tb mL d) 72 (21, [d0, d1, .int a2, .ref a3, .int a4, .int a5, d6], [], h) h' (some (.int r)) := by
  unfold f_Sim_room_b21 at e
  refine eb_n 2 (25, [d0, d1, .int a2, .ref a3, .int a4, .int a5, d6], [.int a4, .int a5], h) (rfl) ?_
  refine eb_b (c := a4 ≤ a5) (47, [d0, d1, .int a2, .ref a3, .int a4, .int a5, d6], [], h) (28, [d0, d1, .int a2, .ref a3, .int a4, .int a5, d6], [], h) rfl (fun c1 => ?_) (fun c1 => ?_)
  · replace e := ite_t c1 e
    refine eb_n 1 (48, [d0, d1, .int a2, .ref a3, .int a4, .int a5, d6], [.int a2], h) (rfl) ?_
    rw [(sp_inj e).1, (sp_inj e).2]
    exact eb_rg (p := nrm 0 a2) rfl (nrm_0 _)
  · replace e := ite_f c1 e
    refine eb_n 2 (31, [d0, d1, .int a2, .ref a3, .int a4, .int a5, d6], [.int a5, .ref a3], h) (rfl) ?_
    obtain ⟨g2, e⟩ := gd_some e
    refine eb_g (p := hT h a3 = 109 ∧ inb a5 (hL h a3)) (32, [d0, d1, .int a2, .ref a3, .int a4, .int a5, d6], [.ref (hR h a3 (ix a5))], h) rfl g2 ?_
    obtain ⟨x3, hx3, e⟩ := lq_some e
    refine eb_n 1 (34, [d0, d1, .int a2, .ref a3, .int a4, .int a5, .ref x3], [], h) (by subst hx3; rfl) ?_
    refine eb_n 3 (38, [d0, d1, .int a2, .ref a3, .int a4, .int a5, .ref x3], [.int (nI 0), .ref x3, .int a2], h) (rfl) ?_
    obtain ⟨g4, e⟩ := gd_some e
    refine eb_g (p := hT h x3 = 101 ∧ inb (nI 0) (hL h x3)) (39, [d0, d1, .int a2, .ref a3, .int a4, .int a5, .ref x3], [.int (hI h x3 (ix (nI 0))), .int a2], h) rfl g4 ?_
    obtain ⟨x5, hx5, e⟩ := lq_some e
    refine eb_n 2 (41, [d0, d1, .int x5, .ref a3, .int a4, .int a5, .ref x3], [], h) (by subst hx5; rfl) ?_
    obtain ⟨x6, hx6, e⟩ := lq_some e
    refine eb_n 1 (44, [d0, d1, .int x5, .ref a3, .int a4, .int x6, .ref x3], [], h) (by subst hx6; rfl) ?_
    refine eb_n 1 (21, [d0, d1, .int x5, .ref a3, .int a4, .int x6, .ref x3], [], h) (rfl) ?_
    exact hk21 _ _ _ _ _ _ _ _ e
set_option maxRecDepth 100000 in
set_option maxHeartbeats 4000000 in
theorem f_Sim_room_l21_ev {h' : AH} {r : Int32} (d : Nat) (hd : 0 ≤ d)  : ∀ (n : Nat) (h : AH) (a2 : Int32) (a3 : Nat) (a4 : Int32) (a5 : Int32)  (d0 : Value) (d1 : Value) (d6 : Value) (_ : f_Sim_room_l21  n h a2 a3 a4 a5 = some (h', r)), Eb (Ev tb mL d) 72 (21, [d0, d1, .int a2, .ref a3, .int a4, .int a5, d6], [], h) h' (some (.int r)) := by
  intro n
  induction n with
  | zero => intro h a2 a3 a4 a5 d0 d1 d6 e; exact nomatch e
  | succ n ih =>
    intro h a2 a3 a4 a5 d0 d1 d6 e
    exact f_Sim_room_b21_ev d hd _ (fun h a2 a3 a4 a5 d0 d1 d6 e => ih h a2 a3 a4 a5 d0 d1 d6 e) h a2 a3 a4 a5 d0 d1 d6 e
set_option maxRecDepth 100000 in
set_option maxHeartbeats 4000000 in
theorem f_Sim_room_ev (d0 : Nat) (hd0 : 1 ≤ d0) {h' : AH} {r : Int32} {h : AH} {a0 : Nat} {a1 : Int32} (e : f_Sim_room h a0 a1 = some (h', r)) : Ev tb mL d0 72 [.ref a0, .int a1] h h' (some (.int r)) := by
  obtain ⟨d, rfl⟩ : ∃ d, d0 = d + 1 := ⟨d0 - 1, by omega⟩
  have hd : 0 ≤ d := by omega
  refine ⟨Nat.le_of_ble_eq_true rfl, ?_⟩
  show Eb (Ev tb mL d) 72 (0, [.ref a0, .int a1, .retAddr 0, .retAddr 0, .retAddr 0, .retAddr 0, .retAddr 0], [], h) h' (some (.int r))
  unfold f_Sim_room at e
  refine eb_n 1 (1, [.ref a0, .int a1, .retAddr 0, .retAddr 0, .retAddr 0, .retAddr 0, .retAddr 0], [.ref a0], h) (rfl) ?_
  obtain ⟨g1, e⟩ := gd_some e
  refine eb_g (p := hT h a0 = 13) (4, [.ref a0, .int a1, .retAddr 0, .retAddr 0, .retAddr 0, .retAddr 0, .retAddr 0], [.ref (hR h a0 13)], h) rfl g1 ?_
  refine eb_n 1 (5, [.ref a0, .int a1, .retAddr 0, .retAddr 0, .retAddr 0, .retAddr 0, .retAddr 0], [.int a1, .ref (hR h a0 13)], h) (rfl) ?_
  obtain ⟨g2, e⟩ := gd_some e
  refine eb_g (p := hT h (hR h a0 13) = 101 ∧ inb a1 (hL h (hR h a0 13))) (6, [.ref a0, .int a1, .retAddr 0, .retAddr 0, .retAddr 0, .retAddr 0, .retAddr 0], [.int (hI h (hR h a0 13) (ix a1))], h) rfl g2 ?_
  obtain ⟨x3, hx3, e⟩ := lq_some e
  refine eb_n 1 (7, [.ref a0, .int a1, .int x3, .retAddr 0, .retAddr 0, .retAddr 0, .retAddr 0], [], h) (by subst hx3; rfl) ?_
  refine eb_n 1 (8, [.ref a0, .int a1, .int x3, .retAddr 0, .retAddr 0, .retAddr 0, .retAddr 0], [.ref a0], h) (rfl) ?_
  refine eb_g (p := hT h a0 = 13) (11, [.ref a0, .int a1, .int x3, .retAddr 0, .retAddr 0, .retAddr 0, .retAddr 0], [.ref (hR h a0 14)], h) rfl g1 ?_
  refine eb_n 1 (12, [.ref a0, .int a1, .int x3, .retAddr 0, .retAddr 0, .retAddr 0, .retAddr 0], [.int a1, .ref (hR h a0 14)], h) (rfl) ?_
  obtain ⟨g4, e⟩ := gd_some e
  refine eb_g (p := hT h (hR h a0 14) = 110 ∧ inb a1 (hL h (hR h a0 14))) (13, [.ref a0, .int a1, .int x3, .retAddr 0, .retAddr 0, .retAddr 0, .retAddr 0], [.ref (hR h (hR h a0 14) (ix a1))], h) rfl g4 ?_
  obtain ⟨x5, hx5, e⟩ := lq_some e
  refine eb_n 1 (14, [.ref a0, .int a1, .int x3, .ref x5, .retAddr 0, .retAddr 0, .retAddr 0], [], h) (by subst hx5; rfl) ?_
  refine eb_n 1 (15, [.ref a0, .int a1, .int x3, .ref x5, .retAddr 0, .retAddr 0, .retAddr 0], [.ref x5], h) (rfl) ?_
  obtain ⟨g6, e⟩ := gd_some e
  refine eb_g (p := hT h x5 = 109) (16, [.ref a0, .int a1, .int x3, .ref x5, .retAddr 0, .retAddr 0, .retAddr 0], [.int (nI (hL h x5))], h) rfl g6 ?_
  obtain ⟨x7, hx7, e⟩ := lq_some e
  refine eb_n 1 (18, [.ref a0, .int a1, .int x3, .ref x5, .int x7, .retAddr 0, .retAddr 0], [], h) (by subst hx7; rfl) ?_
  refine eb_n 2 (21, [.ref a0, .int a1, .int x3, .ref x5, .int x7, .int (nI 0), .retAddr 0], [], h) (rfl) ?_
  exact f_Sim_room_l21_ev d hd   FU _ _ _ _ _ _ _ _ e
set_option maxRecDepth 100000 in
set_option maxHeartbeats 4000000 in
theorem f_Sim_priceOf_ev (d0 : Nat) (hd0 : 1 ≤ d0) {h' : AH} {r : Int32} {h : AH} {a0 : Nat} {a1 : Int32} (e : f_Sim_priceOf h a0 a1 = some (h', r)) : Ev tb mL d0 74 [.ref a0, .int a1] h h' (some (.int r)) := by
  obtain ⟨d, rfl⟩ : ∃ d, d0 = d + 1 := ⟨d0 - 1, by omega⟩
  have hd : 0 ≤ d := by omega
  refine ⟨Nat.le_of_ble_eq_true rfl, ?_⟩
  show Eb (Ev tb mL d) 74 (0, [.ref a0, .int a1, .retAddr 0], [], h) h' (some (.int r))
  unfold f_Sim_priceOf at e
  refine eb_n 1 (1, [.ref a0, .int a1, .retAddr 0], [.ref a0], h) (rfl) ?_
  obtain ⟨g1, e⟩ := gd_some e
  refine eb_g (p := hT h a0 = 13) (4, [.ref a0, .int a1, .retAddr 0], [.ref (hR h a0 8)], h) rfl g1 ?_
  refine eb_n 1 (5, [.ref a0, .int a1, .retAddr 0], [.int a1, .ref (hR h a0 8)], h) (rfl) ?_
  obtain ⟨g2, e⟩ := gd_some e
  refine eb_g (p := hT h (hR h a0 8) = 101 ∧ inb a1 (hL h (hR h a0 8))) (6, [.ref a0, .int a1, .retAddr 0], [.int (hI h (hR h a0 8) (ix a1))], h) rfl g2 ?_
  refine eb_n 1 (7, [.ref a0, .int a1, .retAddr 0], [.ref a0, .int (hI h (hR h a0 8) (ix a1))], h) (rfl) ?_
  refine eb_g (p := hT h a0 = 13) (10, [.ref a0, .int a1, .retAddr 0], [.ref (hR h a0 10), .int (hI h (hR h a0 8) (ix a1))], h) rfl g1 ?_
  refine eb_n 1 (11, [.ref a0, .int a1, .retAddr 0], [.int a1, .ref (hR h a0 10), .int (hI h (hR h a0 8) (ix a1))], h) (rfl) ?_
  obtain ⟨g3, e⟩ := gd_some e
  refine eb_g (p := hT h (hR h a0 10) = 101 ∧ inb a1 (hL h (hR h a0 10))) (12, [.ref a0, .int a1, .retAddr 0], [.int (hI h (hR h a0 10) (ix a1)), .int (hI h (hR h a0 8) (ix a1))], h) rfl g3 ?_
  refine eb_n 1 (13, [.ref a0, .int a1, .retAddr 0], [.int (nI 4), .int (hI h (hR h a0 10) (ix a1)), .int (hI h (hR h a0 8) (ix a1))], h) (rfl) ?_
  refine eb_g (p := ¬ (nI 4) = 0) (14, [.ref a0, .int a1, .retAddr 0], [.int ((hI h (hR h a0 10) (ix a1)) / (nI 4)), .int (hI h (hR h a0 8) (ix a1))], h) rfl (by decide) ?_
  obtain ⟨x4, hx4, e⟩ := lq_some e
  refine eb_n 2 (16, [.ref a0, .int a1, .int x4], [], h) (by subst hx4; rfl) ?_
  refine eb_n 1 (17, [.ref a0, .int a1, .int x4], [.int x4], h) (rfl) ?_
  refine eb_b (c := 0 ≤ x4) (24, [.ref a0, .int a1, .int x4], [], h) (20, [.ref a0, .int a1, .int x4], [], h) rfl (fun c5 => ?_) (fun c5 => ?_)
  · replace e := ite_t c5 e
    refine eb_n 1 (25, [.ref a0, .int a1, .int x4], [.int x4], h) (rfl) ?_
    rw [(sp_inj e).1, (sp_inj e).2]
    exact eb_rg (p := nrm 0 x4) rfl (nrm_0 _)
  · replace e := ite_f c5 e
    refine eb_n 2 (25, [.ref a0, .int a1, .int x4], [.int (nI 0)], h) (rfl) ?_
    rw [(sp_inj e).1, (sp_inj e).2]
    exact eb_rg (p := nrm 0 (nI 0)) rfl (nrm_0 _)
set_option maxRecDepth 100000 in
set_option maxHeartbeats 4000000 in
theorem f_Sim_holds_b200_ev {h' : AH} {r : Int32} (d : Nat) (hd : 1 ≤ d)  (h : AH)   (d0 : Value) (d1 : Value) (d2 : Value) (d3 : Value) (e : f_Sim_holds_b200  h  = some (h', r)) : Eb (Ev tb mL d) 70 (200, [d0, d1, d2, d3], [], h) h' (some (.int r)) := by
  unfold f_Sim_holds_b200 at e
  refine eb_n 2 (205, [d0, d1, d2, d3], [.int (nI 1)], h) (rfl) ?_
  rw [(sp_inj e).1, (sp_inj e).2]
  exact eb_rg (p := nrm 3 (nI 1)) rfl nrm_31
set_option maxRecDepth 100000 in
set_option maxHeartbeats 4000000 in
theorem f_Sim_holds_ev (d0 : Nat) (hd0 : 2 ≤ d0) {h' : AH} {r : Int32} {h : AH} {a0 : Nat} {a1 : Nat} (e : f_Sim_holds h a0 a1 = some (h', r)) : Ev tb mL d0 70 [.ref a0, .ref a1] h h' (some (.int r)) := by
  obtain ⟨d, rfl⟩ : ∃ d, d0 = d + 1 := ⟨d0 - 1, by omega⟩
  have hd : 1 ≤ d := by omega
  refine ⟨Nat.le_of_ble_eq_true rfl, ?_⟩
  show Eb (Ev tb mL d) 70 (0, [.ref a0, .ref a1, .retAddr 0, .retAddr 0], [], h) h' (some (.int r))
  unfold f_Sim_holds at e
  refine eb_n 2 (3, [.ref a0, .ref a1, .retAddr 0, .retAddr 0], [.int (nI 6), .ref a1], h) (rfl) ?_
  obtain ⟨g1, e⟩ := gd_some e
  refine eb_g (p := hT h a1 = 101 ∧ inb (nI 6) (hL h a1)) (4, [.ref a0, .ref a1, .retAddr 0, .retAddr 0], [.int (hI h a1 (ix (nI 6)))], h) rfl g1 ?_
  obtain ⟨x2, hx2, e⟩ := lq_some e
  refine eb_n 1 (5, [.ref a0, .ref a1, .int x2, .retAddr 0], [], h) (by subst hx2; rfl) ?_
  refine eb_n 2 (8, [.ref a0, .ref a1, .int x2, .retAddr 0], [.int (nI 7), .ref a1], h) (rfl) ?_
  obtain ⟨g3, e⟩ := gd_some e
  refine eb_g (p := hT h a1 = 101 ∧ inb (nI 7) (hL h a1)) (9, [.ref a0, .ref a1, .int x2, .retAddr 0], [.int (hI h a1 (ix (nI 7)))], h) rfl g3 ?_
  obtain ⟨x4, hx4, e⟩ := lq_some e
  refine eb_n 1 (10, [.ref a0, .ref a1, .int x2, .int x4], [], h) (by subst hx4; rfl) ?_
  refine eb_n 2 (12, [.ref a0, .ref a1, .int x2, .int x4], [.int (nI 5), .ref a1], h) (rfl) ?_
  obtain ⟨g5, e⟩ := gd_some e
  refine eb_g (p := hT h a1 = 101 ∧ inb (nI 5) (hL h a1)) (13, [.ref a0, .ref a1, .int x2, .int x4], [.int (hI h a1 (ix (nI 5)))], h) rfl g5 ?_
  obtain ⟨x6, hx6, e⟩ := lq_some e
  rw [← hx6]
  by_cases c7 : x6 = nI 0
  · replace e := ite_t c7 e
    refine eb_n 1 (60, [.ref a0, .ref a1, .int x2, .int x4], [], h) (by rw [c7]; rfl) ?_
    refine eb_n 1 (61, [.ref a0, .ref a1, .int x2, .int x4], [.ref a0], h) (rfl) ?_
    obtain ⟨g8, e⟩ := gd_some e
    refine eb_g (p := hT h a0 = 13) (64, [.ref a0, .ref a1, .int x2, .int x4], [.int (hI h a0 0)], h) rfl g8 ?_
    refine eb_n 1 (66, [.ref a0, .ref a1, .int x2, .int x4], [.int (nI 12), .int (hI h a0 0)], h) (rfl) ?_
    refine eb_g (p := ¬ (nI 12) = 0) (67, [.ref a0, .ref a1, .int x2, .int x4], [.int ((hI h a0 0) - (hI h a0 0) / (nI 12) * (nI 12))], h) rfl (by decide) ?_
    refine eb_n 2 (70, [.ref a0, .ref a1, .int x2, .int x4], [.int (nI 12), .int x4, .int ((hI h a0 0) - (hI h a0 0) / (nI 12) * (nI 12))], h) (rfl) ?_
    refine eb_g (p := ¬ (nI 12) = 0) (71, [.ref a0, .ref a1, .int x2, .int x4], [.int (x4 - x4 / (nI 12) * (nI 12)), .int ((hI h a0 0) - (hI h a0 0) / (nI 12) * (nI 12))], h) rfl (by decide) ?_
    refine eb_b (c := ((hI h a0 0) - (hI h a0 0) / (nI 12) * (nI 12)) < (x4 - x4 / (nI 12) * (nI 12))) (78, [.ref a0, .ref a1, .int x2, .int x4], [], h) (74, [.ref a0, .ref a1, .int x2, .int x4], [], h) rfl (fun c9 => ?_) (fun c9 => ?_)
    · replace e := ite_t c9 e
      refine eb_n 1 (79, [.ref a0, .ref a1, .int x2, .int x4], [.int (nI 0)], h) (rfl) ?_
      rw [(sp_inj e).1, (sp_inj e).2]
      exact eb_rg (p := nrm 3 (nI 0)) rfl nrm_30
    · replace e := ite_f c9 e
      refine eb_n 2 (79, [.ref a0, .ref a1, .int x2, .int x4], [.int (nI 1)], h) (rfl) ?_
      rw [(sp_inj e).1, (sp_inj e).2]
      exact eb_rg (p := nrm 3 (nI 1)) rfl nrm_31
  replace e := ite_f c7 e
  by_cases c10 : x6 = nI 1
  · replace e := ite_t c10 e
    refine eb_n 1 (80, [.ref a0, .ref a1, .int x2, .int x4], [], h) (by rw [c10]; rfl) ?_
    refine eb_n 1 (81, [.ref a0, .ref a1, .int x2, .int x4], [.ref a0], h) (rfl) ?_
    obtain ⟨g11, e⟩ := gd_some e
    refine eb_g (p := hT h a0 = 13) (84, [.ref a0, .ref a1, .int x2, .int x4], [.ref (hR h a0 15)], h) rfl g11 ?_
    refine eb_n 2 (86, [.ref a0, .ref a1, .int x2, .int x4], [.ref a0, .int x2, .ref (hR h a0 15)], h) (rfl) ?_
    refine eb_g (p := hT h a0 = 13) (89, [.ref a0, .ref a1, .int x2, .int x4], [.ref (hR h a0 15), .int x2, .ref (hR h a0 15)], h) rfl g11 ?_
    obtain ⟨g12, e⟩ := gd_some e
    refine eb_g (p := hT h (hR h a0 15) = 109) (90, [.ref a0, .ref a1, .int x2, .int x4], [.int (nI (hL h (hR h a0 15))), .int x2, .ref (hR h a0 15)], h) rfl g12 ?_
    obtain ⟨g13, e⟩ := gd_some e
    refine eb_g (p := ¬ (nI (hL h (hR h a0 15))) = 0) (91, [.ref a0, .ref a1, .int x2, .int x4], [.int (x2 - x2 / (nI (hL h (hR h a0 15))) * (nI (hL h (hR h a0 15)))), .ref (hR h a0 15)], h) rfl g13 ?_
    obtain ⟨g14, e⟩ := gd_some e
    refine eb_g (p := hT h (hR h a0 15) = 109 ∧ inb (x2 - x2 / (nI (hL h (hR h a0 15))) * (nI (hL h (hR h a0 15)))) (hL h (hR h a0 15))) (92, [.ref a0, .ref a1, .int x2, .int x4], [.ref (hR h (hR h a0 15) (ix (x2 - x2 / (nI (hL h (hR h a0 15))) * (nI (hL h (hR h a0 15))))))], h) rfl g14 ?_
    refine eb_n 1 (93, [.ref a0, .ref a1, .int x2, .int x4], [.int (nI 3), .ref (hR h (hR h a0 15) (ix (x2 - x2 / (nI (hL h (hR h a0 15))) * (nI (hL h (hR h a0 15))))))], h) (rfl) ?_
    obtain ⟨g15, e⟩ := gd_some e
    refine eb_g (p := hT h (hR h (hR h a0 15) (ix (x2 - x2 / (nI (hL h (hR h a0 15))) * (nI (hL h (hR h a0 15)))))) = 101 ∧ inb (nI 3) (hL h (hR h (hR h a0 15) (ix (x2 - x2 / (nI (hL h (hR h a0 15))) * (nI (hL h (hR h a0 15)))))))) (94, [.ref a0, .ref a1, .int x2, .int x4], [.int (hI h (hR h (hR h a0 15) (ix (x2 - x2 / (nI (hL h (hR h a0 15))) * (nI (hL h (hR h a0 15)))))) (ix (nI 3)))], h) rfl g15 ?_
    refine eb_n 2 (97, [.ref a0, .ref a1, .int x2, .int x4], [.int (nI 21), .int x4, .int (hI h (hR h (hR h a0 15) (ix (x2 - x2 / (nI (hL h (hR h a0 15))) * (nI (hL h (hR h a0 15)))))) (ix (nI 3)))], h) (rfl) ?_
    refine eb_g (p := ¬ (nI 21) = 0) (98, [.ref a0, .ref a1, .int x2, .int x4], [.int (x4 - x4 / (nI 21) * (nI 21)), .int (hI h (hR h (hR h a0 15) (ix (x2 - x2 / (nI (hL h (hR h a0 15))) * (nI (hL h (hR h a0 15)))))) (ix (nI 3)))], h) rfl (by decide) ?_
    refine eb_b (c := (x4 - x4 / (nI 21) * (nI 21)) ≤ (hI h (hR h (hR h a0 15) (ix (x2 - x2 / (nI (hL h (hR h a0 15))) * (nI (hL h (hR h a0 15)))))) (ix (nI 3)))) (105, [.ref a0, .ref a1, .int x2, .int x4], [], h) (101, [.ref a0, .ref a1, .int x2, .int x4], [], h) rfl (fun c16 => ?_) (fun c16 => ?_)
    · replace e := ite_t c16 e
      refine eb_n 1 (106, [.ref a0, .ref a1, .int x2, .int x4], [.int (nI 0)], h) (rfl) ?_
      rw [(sp_inj e).1, (sp_inj e).2]
      exact eb_rg (p := nrm 3 (nI 0)) rfl nrm_30
    · replace e := ite_f c16 e
      refine eb_n 2 (106, [.ref a0, .ref a1, .int x2, .int x4], [.int (nI 1)], h) (rfl) ?_
      rw [(sp_inj e).1, (sp_inj e).2]
      exact eb_rg (p := nrm 3 (nI 1)) rfl nrm_31
  replace e := ite_f c10 e
  by_cases c17 : x6 = nI 2
  · replace e := ite_t c17 e
    refine eb_n 1 (107, [.ref a0, .ref a1, .int x2, .int x4], [], h) (by rw [c17]; rfl) ?_
    refine eb_n 1 (108, [.ref a0, .ref a1, .int x2, .int x4], [.ref a0], h) (rfl) ?_
    obtain ⟨g18, e⟩ := gd_some e
    refine eb_g (p := hT h a0 = 13) (111, [.ref a0, .ref a1, .int x2, .int x4], [.ref (hR h a0 15)], h) rfl g18 ?_
    refine eb_n 2 (113, [.ref a0, .ref a1, .int x2, .int x4], [.ref a0, .int x2, .ref (hR h a0 15)], h) (rfl) ?_
    refine eb_g (p := hT h a0 = 13) (116, [.ref a0, .ref a1, .int x2, .int x4], [.ref (hR h a0 15), .int x2, .ref (hR h a0 15)], h) rfl g18 ?_
    obtain ⟨g19, e⟩ := gd_some e
    refine eb_g (p := hT h (hR h a0 15) = 109) (117, [.ref a0, .ref a1, .int x2, .int x4], [.int (nI (hL h (hR h a0 15))), .int x2, .ref (hR h a0 15)], h) rfl g19 ?_
    obtain ⟨g20, e⟩ := gd_some e
    refine eb_g (p := ¬ (nI (hL h (hR h a0 15))) = 0) (118, [.ref a0, .ref a1, .int x2, .int x4], [.int (x2 - x2 / (nI (hL h (hR h a0 15))) * (nI (hL h (hR h a0 15)))), .ref (hR h a0 15)], h) rfl g20 ?_
    obtain ⟨g21, e⟩ := gd_some e
    refine eb_g (p := hT h (hR h a0 15) = 109 ∧ inb (x2 - x2 / (nI (hL h (hR h a0 15))) * (nI (hL h (hR h a0 15)))) (hL h (hR h a0 15))) (119, [.ref a0, .ref a1, .int x2, .int x4], [.ref (hR h (hR h a0 15) (ix (x2 - x2 / (nI (hL h (hR h a0 15))) * (nI (hL h (hR h a0 15))))))], h) rfl g21 ?_
    refine eb_n 1 (120, [.ref a0, .ref a1, .int x2, .int x4], [.int (nI 3), .ref (hR h (hR h a0 15) (ix (x2 - x2 / (nI (hL h (hR h a0 15))) * (nI (hL h (hR h a0 15))))))], h) (rfl) ?_
    obtain ⟨g22, e⟩ := gd_some e
    refine eb_g (p := hT h (hR h (hR h a0 15) (ix (x2 - x2 / (nI (hL h (hR h a0 15))) * (nI (hL h (hR h a0 15)))))) = 101 ∧ inb (nI 3) (hL h (hR h (hR h a0 15) (ix (x2 - x2 / (nI (hL h (hR h a0 15))) * (nI (hL h (hR h a0 15)))))))) (121, [.ref a0, .ref a1, .int x2, .int x4], [.int (hI h (hR h (hR h a0 15) (ix (x2 - x2 / (nI (hL h (hR h a0 15))) * (nI (hL h (hR h a0 15)))))) (ix (nI 3)))], h) rfl g22 ?_
    refine eb_b (c := ¬ (hI h (hR h (hR h a0 15) (ix (x2 - x2 / (nI (hL h (hR h a0 15))) * (nI (hL h (hR h a0 15)))))) (ix (nI 3))) = 0) (128, [.ref a0, .ref a1, .int x2, .int x4], [], h) (124, [.ref a0, .ref a1, .int x2, .int x4], [], h) rfl (fun c23 => ?_) (fun c23 => ?_)
    · replace e := ite_t c23 e
      refine eb_n 1 (129, [.ref a0, .ref a1, .int x2, .int x4], [.int (nI 0)], h) (rfl) ?_
      rw [(sp_inj e).1, (sp_inj e).2]
      exact eb_rg (p := nrm 3 (nI 0)) rfl nrm_30
    · replace e := ite_f c23 e
      refine eb_n 2 (129, [.ref a0, .ref a1, .int x2, .int x4], [.int (nI 1)], h) (rfl) ?_
      rw [(sp_inj e).1, (sp_inj e).2]
      exact eb_rg (p := nrm 3 (nI 1)) rfl nrm_31
  replace e := ite_f c17 e
  by_cases c24 : x6 = nI 3
  · replace e := ite_t c24 e
    refine eb_n 1 (130, [.ref a0, .ref a1, .int x2, .int x4], [], h) (by rw [c24]; rfl) ?_
    refine eb_n 1 (131, [.ref a0, .ref a1, .int x2, .int x4], [.ref a0], h) (rfl) ?_
    obtain ⟨g25, e⟩ := gd_some e
    refine eb_g (p := hT h a0 = 13) (134, [.ref a0, .ref a1, .int x2, .int x4], [.ref (hR h a0 16)], h) rfl g25 ?_
    refine eb_n 2 (136, [.ref a0, .ref a1, .int x2, .int x4], [.ref a0, .int x2, .ref (hR h a0 16)], h) (rfl) ?_
    refine eb_g (p := hT h a0 = 13) (139, [.ref a0, .ref a1, .int x2, .int x4], [.ref (hR h a0 16), .int x2, .ref (hR h a0 16)], h) rfl g25 ?_
    obtain ⟨g26, e⟩ := gd_some e
    refine eb_g (p := hT h (hR h a0 16) = 109) (140, [.ref a0, .ref a1, .int x2, .int x4], [.int (nI (hL h (hR h a0 16))), .int x2, .ref (hR h a0 16)], h) rfl g26 ?_
    obtain ⟨g27, e⟩ := gd_some e
    refine eb_g (p := ¬ (nI (hL h (hR h a0 16))) = 0) (141, [.ref a0, .ref a1, .int x2, .int x4], [.int (x2 - x2 / (nI (hL h (hR h a0 16))) * (nI (hL h (hR h a0 16)))), .ref (hR h a0 16)], h) rfl g27 ?_
    obtain ⟨g28, e⟩ := gd_some e
    refine eb_g (p := hT h (hR h a0 16) = 109 ∧ inb (x2 - x2 / (nI (hL h (hR h a0 16))) * (nI (hL h (hR h a0 16)))) (hL h (hR h a0 16))) (142, [.ref a0, .ref a1, .int x2, .int x4], [.ref (hR h (hR h a0 16) (ix (x2 - x2 / (nI (hL h (hR h a0 16))) * (nI (hL h (hR h a0 16))))))], h) rfl g28 ?_
    refine eb_n 1 (143, [.ref a0, .ref a1, .int x2, .int x4], [.int (nI 3), .ref (hR h (hR h a0 16) (ix (x2 - x2 / (nI (hL h (hR h a0 16))) * (nI (hL h (hR h a0 16))))))], h) (rfl) ?_
    obtain ⟨g29, e⟩ := gd_some e
    refine eb_g (p := hT h (hR h (hR h a0 16) (ix (x2 - x2 / (nI (hL h (hR h a0 16))) * (nI (hL h (hR h a0 16)))))) = 101 ∧ inb (nI 3) (hL h (hR h (hR h a0 16) (ix (x2 - x2 / (nI (hL h (hR h a0 16))) * (nI (hL h (hR h a0 16)))))))) (144, [.ref a0, .ref a1, .int x2, .int x4], [.int (hI h (hR h (hR h a0 16) (ix (x2 - x2 / (nI (hL h (hR h a0 16))) * (nI (hL h (hR h a0 16)))))) (ix (nI 3)))], h) rfl g29 ?_
    refine eb_b (c := ¬ (hI h (hR h (hR h a0 16) (ix (x2 - x2 / (nI (hL h (hR h a0 16))) * (nI (hL h (hR h a0 16)))))) (ix (nI 3))) = 0) (151, [.ref a0, .ref a1, .int x2, .int x4], [], h) (147, [.ref a0, .ref a1, .int x2, .int x4], [], h) rfl (fun c30 => ?_) (fun c30 => ?_)
    · replace e := ite_t c30 e
      refine eb_n 1 (152, [.ref a0, .ref a1, .int x2, .int x4], [.int (nI 0)], h) (rfl) ?_
      rw [(sp_inj e).1, (sp_inj e).2]
      exact eb_rg (p := nrm 3 (nI 0)) rfl nrm_30
    · replace e := ite_f c30 e
      refine eb_n 2 (152, [.ref a0, .ref a1, .int x2, .int x4], [.int (nI 1)], h) (rfl) ?_
      rw [(sp_inj e).1, (sp_inj e).2]
      exact eb_rg (p := nrm 3 (nI 1)) rfl nrm_31
  replace e := ite_f c24 e
  by_cases c31 : x6 = nI 4
  · replace e := ite_t c31 e
    refine eb_n 1 (153, [.ref a0, .ref a1, .int x2, .int x4], [], h) (by rw [c31]; rfl) ?_
    refine eb_n 1 (154, [.ref a0, .ref a1, .int x2, .int x4], [.ref a0], h) (rfl) ?_
    obtain ⟨g32, e⟩ := gd_some e
    refine eb_g (p := hT h a0 = 13) (157, [.ref a0, .ref a1, .int x2, .int x4], [.int (hI h a0 1)], h) rfl g32 ?_
    refine eb_n 1 (158, [.ref a0, .ref a1, .int x2, .int x4], [.int x4, .int (hI h a0 1)], h) (rfl) ?_
    refine eb_b (c := (hI h a0 1) ≤ x4) (165, [.ref a0, .ref a1, .int x2, .int x4], [], h) (161, [.ref a0, .ref a1, .int x2, .int x4], [], h) rfl (fun c33 => ?_) (fun c33 => ?_)
    · replace e := ite_t c33 e
      refine eb_n 1 (166, [.ref a0, .ref a1, .int x2, .int x4], [.int (nI 0)], h) (rfl) ?_
      rw [(sp_inj e).1, (sp_inj e).2]
      exact eb_rg (p := nrm 3 (nI 0)) rfl nrm_30
    · replace e := ite_f c33 e
      refine eb_n 2 (166, [.ref a0, .ref a1, .int x2, .int x4], [.int (nI 1)], h) (rfl) ?_
      rw [(sp_inj e).1, (sp_inj e).2]
      exact eb_rg (p := nrm 3 (nI 1)) rfl nrm_31
  replace e := ite_f c31 e
  by_cases c34 : x6 = nI 5
  · replace e := ite_t c34 e
    refine eb_n 1 (167, [.ref a0, .ref a1, .int x2, .int x4], [], h) (by rw [c34]; rfl) ?_
    refine eb_n 3 (170, [.ref a0, .ref a1, .int x2, .int x4], [.ref a0, .int x2, .ref a0], h) (rfl) ?_
    obtain ⟨g35, e⟩ := gd_some e
    refine eb_g (p := hT h a0 = 13) (173, [.ref a0, .ref a1, .int x2, .int x4], [.ref (hR h a0 14), .int x2, .ref a0], h) rfl g35 ?_
    obtain ⟨g36, e⟩ := gd_some e
    refine eb_g (p := hT h (hR h a0 14) = 110) (174, [.ref a0, .ref a1, .int x2, .int x4], [.int (nI (hL h (hR h a0 14))), .int x2, .ref a0], h) rfl g36 ?_
    obtain ⟨g37, e⟩ := gd_some e
    refine eb_g (p := ¬ (nI (hL h (hR h a0 14))) = 0) (175, [.ref a0, .ref a1, .int x2, .int x4], [.int (x2 - x2 / (nI (hL h (hR h a0 14))) * (nI (hL h (hR h a0 14)))), .ref a0], h) rfl g37 ?_
    obtain ⟨h38, r39, eh38, e⟩ := bn_some e
    refine eb_cg (p := hT h a0 = 13) rfl g35 (f_Sim_room_ev d (Nat.le_trans (by decide) hd) eh38) ?_
    show Eb _ 70 (178, [.ref a0, .ref a1, .int x2, .int x4], [.int r39], h38) _ _
    refine eb_n 2 (181, [.ref a0, .ref a1, .int x2, .int x4], [.int (nI 30), .int x4, .int r39], h38) (rfl) ?_
    refine eb_g (p := ¬ (nI 30) = 0) (182, [.ref a0, .ref a1, .int x2, .int x4], [.int (x4 - x4 / (nI 30) * (nI 30)), .int r39], h38) rfl (by decide) ?_
    refine eb_b (c := (x4 - x4 / (nI 30) * (nI 30)) < r39) (200, [.ref a0, .ref a1, .int x2, .int x4], [], h38) (185, [.ref a0, .ref a1, .int x2, .int x4], [], h38) rfl (fun c40 => ?_) (fun c40 => ?_)
    · replace e := ite_t c40 e
      exact f_Sim_holds_b200_ev d hd   _  _ _ _ _ e
    · replace e := ite_f c40 e
      refine eb_n 1 (186, [.ref a0, .ref a1, .int x2, .int x4], [.ref a0], h38) (rfl) ?_
      obtain ⟨g41, e⟩ := gd_some e
      refine eb_g (p := hT h38 a0 = 13) (189, [.ref a0, .ref a1, .int x2, .int x4], [.ref (hR h38 a0 9)], h38) rfl g41 ?_
      refine eb_n 2 (191, [.ref a0, .ref a1, .int x2, .int x4], [.int (nI 4), .int x2, .ref (hR h38 a0 9)], h38) (rfl) ?_
      refine eb_g (p := ¬ (nI 4) = 0) (192, [.ref a0, .ref a1, .int x2, .int x4], [.int (x2 - x2 / (nI 4) * (nI 4)), .ref (hR h38 a0 9)], h38) rfl (by decide) ?_
      obtain ⟨g42, e⟩ := gd_some e
      refine eb_g (p := hT h38 (hR h38 a0 9) = 101 ∧ inb (x2 - x2 / (nI 4) * (nI 4)) (hL h38 (hR h38 a0 9))) (193, [.ref a0, .ref a1, .int x2, .int x4], [.int (hI h38 (hR h38 a0 9) (ix (x2 - x2 / (nI 4) * (nI 4))))], h38) rfl g42 ?_
      refine eb_n 2 (196, [.ref a0, .ref a1, .int x2, .int x4], [.int (nI 9), .int x4, .int (hI h38 (hR h38 a0 9) (ix (x2 - x2 / (nI 4) * (nI 4))))], h38) (rfl) ?_
      refine eb_g (p := ¬ (nI 9) = 0) (197, [.ref a0, .ref a1, .int x2, .int x4], [.int (x4 - x4 / (nI 9) * (nI 9)), .int (hI h38 (hR h38 a0 9) (ix (x2 - x2 / (nI 4) * (nI 4))))], h38) rfl (by decide) ?_
      refine eb_b (c := (x4 - x4 / (nI 9) * (nI 9)) ≤ (hI h38 (hR h38 a0 9) (ix (x2 - x2 / (nI 4) * (nI 4))))) (204, [.ref a0, .ref a1, .int x2, .int x4], [], h38) (200, [.ref a0, .ref a1, .int x2, .int x4], [], h38) rfl (fun c43 => ?_) (fun c43 => ?_)
      · replace e := ite_t c43 e
        refine eb_n 1 (205, [.ref a0, .ref a1, .int x2, .int x4], [.int (nI 0)], h38) (rfl) ?_
        rw [(sp_inj e).1, (sp_inj e).2]
        exact eb_rg (p := nrm 3 (nI 0)) rfl nrm_30
      · replace e := ite_f c43 e
        exact f_Sim_holds_b200_ev d hd   _  _ _ _ _ e
  replace e := ite_f c34 e
  by_cases c44 : x6 = nI 6
  · replace e := ite_t c44 e
    refine eb_n 1 (206, [.ref a0, .ref a1, .int x2, .int x4], [], h) (by rw [c44]; rfl) ?_
    refine eb_n 1 (207, [.ref a0, .ref a1, .int x2, .int x4], [.ref a0], h) (rfl) ?_
    obtain ⟨g45, e⟩ := gd_some e
    refine eb_g (p := hT h a0 = 13) (210, [.ref a0, .ref a1, .int x2, .int x4], [.ref (hR h a0 12)], h) rfl g45 ?_
    refine eb_n 2 (212, [.ref a0, .ref a1, .int x2, .int x4], [.ref a0, .int x2, .ref (hR h a0 12)], h) (rfl) ?_
    refine eb_g (p := hT h a0 = 13) (215, [.ref a0, .ref a1, .int x2, .int x4], [.ref (hR h a0 12), .int x2, .ref (hR h a0 12)], h) rfl g45 ?_
    obtain ⟨g46, e⟩ := gd_some e
    refine eb_g (p := hT h (hR h a0 12) = 109) (216, [.ref a0, .ref a1, .int x2, .int x4], [.int (nI (hL h (hR h a0 12))), .int x2, .ref (hR h a0 12)], h) rfl g46 ?_
    obtain ⟨g47, e⟩ := gd_some e
    refine eb_g (p := ¬ (nI (hL h (hR h a0 12))) = 0) (217, [.ref a0, .ref a1, .int x2, .int x4], [.int (x2 - x2 / (nI (hL h (hR h a0 12))) * (nI (hL h (hR h a0 12)))), .ref (hR h a0 12)], h) rfl g47 ?_
    obtain ⟨g48, e⟩ := gd_some e
    refine eb_g (p := hT h (hR h a0 12) = 109 ∧ inb (x2 - x2 / (nI (hL h (hR h a0 12))) * (nI (hL h (hR h a0 12)))) (hL h (hR h a0 12))) (218, [.ref a0, .ref a1, .int x2, .int x4], [.ref (hR h (hR h a0 12) (ix (x2 - x2 / (nI (hL h (hR h a0 12))) * (nI (hL h (hR h a0 12))))))], h) rfl g48 ?_
    refine eb_n 1 (219, [.ref a0, .ref a1, .int x2, .int x4], [.int (nI 0), .ref (hR h (hR h a0 12) (ix (x2 - x2 / (nI (hL h (hR h a0 12))) * (nI (hL h (hR h a0 12))))))], h) (rfl) ?_
    obtain ⟨g49, e⟩ := gd_some e
    refine eb_g (p := hT h (hR h (hR h a0 12) (ix (x2 - x2 / (nI (hL h (hR h a0 12))) * (nI (hL h (hR h a0 12)))))) = 101 ∧ inb (nI 0) (hL h (hR h (hR h a0 12) (ix (x2 - x2 / (nI (hL h (hR h a0 12))) * (nI (hL h (hR h a0 12)))))))) (220, [.ref a0, .ref a1, .int x2, .int x4], [.int (hI h (hR h (hR h a0 12) (ix (x2 - x2 / (nI (hL h (hR h a0 12))) * (nI (hL h (hR h a0 12)))))) (ix (nI 0)))], h) rfl g49 ?_
    refine eb_n 2 (223, [.ref a0, .ref a1, .int x2, .int x4], [.int (nI 60), .int x4, .int (hI h (hR h (hR h a0 12) (ix (x2 - x2 / (nI (hL h (hR h a0 12))) * (nI (hL h (hR h a0 12)))))) (ix (nI 0)))], h) (rfl) ?_
    refine eb_g (p := ¬ (nI 60) = 0) (224, [.ref a0, .ref a1, .int x2, .int x4], [.int (x4 - x4 / (nI 60) * (nI 60)), .int (hI h (hR h (hR h a0 12) (ix (x2 - x2 / (nI (hL h (hR h a0 12))) * (nI (hL h (hR h a0 12)))))) (ix (nI 0)))], h) rfl (by decide) ?_
    refine eb_b (c := (hI h (hR h (hR h a0 12) (ix (x2 - x2 / (nI (hL h (hR h a0 12))) * (nI (hL h (hR h a0 12)))))) (ix (nI 0))) < (x4 - x4 / (nI 60) * (nI 60))) (242, [.ref a0, .ref a1, .int x2, .int x4], [], h) (227, [.ref a0, .ref a1, .int x2, .int x4], [], h) rfl (fun c50 => ?_) (fun c50 => ?_)
    · replace e := ite_t c50 e
      refine eb_n 1 (243, [.ref a0, .ref a1, .int x2, .int x4], [.int (nI 0)], h) (rfl) ?_
      rw [(sp_inj e).1, (sp_inj e).2]
      exact eb_rg (p := nrm 3 (nI 0)) rfl nrm_30
    · replace e := ite_f c50 e
      refine eb_n 3 (230, [.ref a0, .ref a1, .int x2, .int x4], [.int (nI 4), .int x2, .ref a0], h) (rfl) ?_
      refine eb_g (p := ¬ (nI 4) = 0) (231, [.ref a0, .ref a1, .int x2, .int x4], [.int (x2 - x2 / (nI 4) * (nI 4)), .ref a0], h) rfl (by decide) ?_
      obtain ⟨h51, r52, eh51, e⟩ := bn_some e
      refine eb_cg (p := hT h a0 = 13) rfl g45 (f_Sim_priceOf_ev d (Nat.le_trans (by decide) hd) eh51) ?_
      show Eb _ 70 (234, [.ref a0, .ref a1, .int x2, .int x4], [.int r52], h51) _ _
      refine eb_n 1 (235, [.ref a0, .ref a1, .int x2, .int x4], [.int (nI 1), .int r52], h51) (rfl) ?_
      refine eb_b (c := r52 < (nI 1)) (242, [.ref a0, .ref a1, .int x2, .int x4], [], h51) (238, [.ref a0, .ref a1, .int x2, .int x4], [], h51) rfl (fun c53 => ?_) (fun c53 => ?_)
      · replace e := ite_t c53 e
        refine eb_n 1 (243, [.ref a0, .ref a1, .int x2, .int x4], [.int (nI 0)], h51) (rfl) ?_
        rw [(sp_inj e).1, (sp_inj e).2]
        exact eb_rg (p := nrm 3 (nI 0)) rfl nrm_30
      · replace e := ite_f c53 e
        refine eb_n 2 (243, [.ref a0, .ref a1, .int x2, .int x4], [.int (nI 1)], h51) (rfl) ?_
        rw [(sp_inj e).1, (sp_inj e).2]
        exact eb_rg (p := nrm 3 (nI 1)) rfl nrm_31
  replace e := ite_f c44 e
  by_cases c54 : x6 = nI 7
  · replace e := ite_t c54 e
    refine eb_n 1 (244, [.ref a0, .ref a1, .int x2, .int x4], [], h) (by rw [c54]; rfl) ?_
    refine eb_n 1 (245, [.ref a0, .ref a1, .int x2, .int x4], [.ref a0], h) (rfl) ?_
    obtain ⟨g55, e⟩ := gd_some e
    refine eb_g (p := hT h a0 = 13) (248, [.ref a0, .ref a1, .int x2, .int x4], [.ref (hR h a0 16)], h) rfl g55 ?_
    refine eb_n 2 (250, [.ref a0, .ref a1, .int x2, .int x4], [.ref a0, .int x2, .ref (hR h a0 16)], h) (rfl) ?_
    refine eb_g (p := hT h a0 = 13) (253, [.ref a0, .ref a1, .int x2, .int x4], [.ref (hR h a0 16), .int x2, .ref (hR h a0 16)], h) rfl g55 ?_
    obtain ⟨g56, e⟩ := gd_some e
    refine eb_g (p := hT h (hR h a0 16) = 109) (254, [.ref a0, .ref a1, .int x2, .int x4], [.int (nI (hL h (hR h a0 16))), .int x2, .ref (hR h a0 16)], h) rfl g56 ?_
    obtain ⟨g57, e⟩ := gd_some e
    refine eb_g (p := ¬ (nI (hL h (hR h a0 16))) = 0) (255, [.ref a0, .ref a1, .int x2, .int x4], [.int (x2 - x2 / (nI (hL h (hR h a0 16))) * (nI (hL h (hR h a0 16)))), .ref (hR h a0 16)], h) rfl g57 ?_
    obtain ⟨g58, e⟩ := gd_some e
    refine eb_g (p := hT h (hR h a0 16) = 109 ∧ inb (x2 - x2 / (nI (hL h (hR h a0 16))) * (nI (hL h (hR h a0 16)))) (hL h (hR h a0 16))) (256, [.ref a0, .ref a1, .int x2, .int x4], [.ref (hR h (hR h a0 16) (ix (x2 - x2 / (nI (hL h (hR h a0 16))) * (nI (hL h (hR h a0 16))))))], h) rfl g58 ?_
    refine eb_n 1 (257, [.ref a0, .ref a1, .int x2, .int x4], [.int (nI 2), .ref (hR h (hR h a0 16) (ix (x2 - x2 / (nI (hL h (hR h a0 16))) * (nI (hL h (hR h a0 16))))))], h) (rfl) ?_
    obtain ⟨g59, e⟩ := gd_some e
    refine eb_g (p := hT h (hR h (hR h a0 16) (ix (x2 - x2 / (nI (hL h (hR h a0 16))) * (nI (hL h (hR h a0 16)))))) = 101 ∧ inb (nI 2) (hL h (hR h (hR h a0 16) (ix (x2 - x2 / (nI (hL h (hR h a0 16))) * (nI (hL h (hR h a0 16)))))))) (258, [.ref a0, .ref a1, .int x2, .int x4], [.int (hI h (hR h (hR h a0 16) (ix (x2 - x2 / (nI (hL h (hR h a0 16))) * (nI (hL h (hR h a0 16)))))) (ix (nI 2)))], h) rfl g59 ?_
    refine eb_n 2 (261, [.ref a0, .ref a1, .int x2, .int x4], [.int (nI 20), .int x4, .int (hI h (hR h (hR h a0 16) (ix (x2 - x2 / (nI (hL h (hR h a0 16))) * (nI (hL h (hR h a0 16)))))) (ix (nI 2)))], h) (rfl) ?_
    refine eb_g (p := ¬ (nI 20) = 0) (262, [.ref a0, .ref a1, .int x2, .int x4], [.int (x4 - x4 / (nI 20) * (nI 20)), .int (hI h (hR h (hR h a0 16) (ix (x2 - x2 / (nI (hL h (hR h a0 16))) * (nI (hL h (hR h a0 16)))))) (ix (nI 2)))], h) rfl (by decide) ?_
    refine eb_b (c := (x4 - x4 / (nI 20) * (nI 20)) < (hI h (hR h (hR h a0 16) (ix (x2 - x2 / (nI (hL h (hR h a0 16))) * (nI (hL h (hR h a0 16)))))) (ix (nI 2)))) (269, [.ref a0, .ref a1, .int x2, .int x4], [], h) (265, [.ref a0, .ref a1, .int x2, .int x4], [], h) rfl (fun c60 => ?_) (fun c60 => ?_)
    · replace e := ite_t c60 e
      refine eb_n 1 (270, [.ref a0, .ref a1, .int x2, .int x4], [.int (nI 0)], h) (rfl) ?_
      rw [(sp_inj e).1, (sp_inj e).2]
      exact eb_rg (p := nrm 3 (nI 0)) rfl nrm_30
    · replace e := ite_f c60 e
      refine eb_n 2 (270, [.ref a0, .ref a1, .int x2, .int x4], [.int (nI 1)], h) (rfl) ?_
      rw [(sp_inj e).1, (sp_inj e).2]
      exact eb_rg (p := nrm 3 (nI 1)) rfl nrm_31
  replace e := ite_f c54 e
  refine eb_1 (f' := (271, [.ref a0, .ref a1, .int x2, .int x4], [], h)) (tsw_d (tsw_out (x := x6) (lo := 0) (n := 8) (by decide) (by decide) (fun k hk => match k, hk with | 0, _ => c7 | 1, _ => c10 | 2, _ => c17 | 3, _ => c24 | 4, _ => c31 | 5, _ => c34 | 6, _ => c44 | 7, _ => c54 | k + 8, hk => absurd hk (by omega))) rfl rfl) ?_
  refine eb_n 1 (272, [.ref a0, .ref a1, .int x2, .int x4], [.int (nI 1)], h) (rfl) ?_
  rw [(sp_inj e).1, (sp_inj e).2]
  exact eb_rg (p := nrm 3 (nI 1)) rfl nrm_31
set_option maxRecDepth 100000 in
set_option maxHeartbeats 4000000 in
theorem f_Sim_sum_ev (d0 : Nat) (hd0 : 2 ≤ d0) {h' : AH} {r : Int32} {h : AH} {a0 : Nat} {a1 : Nat} (e : f_Sim_sum h a0 a1 = some (h', r)) : Ev tb mL d0 71 [.ref a0, .ref a1] h h' (some (.int r)) := by
  obtain ⟨d, rfl⟩ : ∃ d, d0 = d + 1 := ⟨d0 - 1, by omega⟩
  have hd : 1 ≤ d := by omega
  refine ⟨Nat.le_of_ble_eq_true rfl, ?_⟩
  show Eb (Ev tb mL d) 71 (0, [.ref a0, .ref a1, .retAddr 0], [], h) h' (some (.int r))
  unfold f_Sim_sum at e
  refine eb_n 2 (2, [.ref a0, .ref a1, .retAddr 0], [.int (nI 2), .ref a1], h) (rfl) ?_
  obtain ⟨g1, e⟩ := gd_some e
  refine eb_g (p := hT h a1 = 101 ∧ inb (nI 2) (hL h a1)) (3, [.ref a0, .ref a1, .retAddr 0], [.int (hI h a1 (ix (nI 2)))], h) rfl g1 ?_
  obtain ⟨x2, hx2, e⟩ := lq_some e
  refine eb_n 1 (4, [.ref a0, .ref a1, .int x2], [], h) (by subst hx2; rfl) ?_
  refine eb_n 2 (6, [.ref a0, .ref a1, .int x2], [.int (nI 3), .ref a1], h) (rfl) ?_
  obtain ⟨g3, e⟩ := gd_some e
  refine eb_g (p := hT h a1 = 101 ∧ inb (nI 3) (hL h a1)) (7, [.ref a0, .ref a1, .int x2], [.int (hI h a1 (ix (nI 3)))], h) rfl g3 ?_
  refine eb_b (c := ¬ (hI h a1 (ix (nI 3))) = 0) (19, [.ref a0, .ref a1, .int x2], [], h) (10, [.ref a0, .ref a1, .int x2], [], h) rfl (fun c4 => ?_) (fun c4 => ?_)
  · replace e := ite_t c4 e
    refine eb_n 2 (21, [.ref a0, .ref a1, .int x2], [.int (nI 3), .ref a1], h) (rfl) ?_
    refine eb_g (p := hT h a1 = 101 ∧ inb (nI 3) (hL h a1)) (22, [.ref a0, .ref a1, .int x2], [.int (hI h a1 (ix (nI 3)))], h) rfl g3 ?_
    refine eb_n 1 (23, [.ref a0, .ref a1, .int x2], [.int (nI 1), .int (hI h a1 (ix (nI 3)))], h) (rfl) ?_
    refine eb_b (c := ¬ (hI h a1 (ix (nI 3))) = (nI 1)) (42, [.ref a0, .ref a1, .int x2], [], h) (26, [.ref a0, .ref a1, .int x2], [], h) rfl (fun c5 => ?_) (fun c5 => ?_)
    · replace e := ite_t c5 e
      refine eb_n 2 (44, [.ref a0, .ref a1, .int x2], [.int (nI 3), .ref a1], h) (rfl) ?_
      refine eb_g (p := hT h a1 = 101 ∧ inb (nI 3) (hL h a1)) (45, [.ref a0, .ref a1, .int x2], [.int (hI h a1 (ix (nI 3)))], h) rfl g3 ?_
      refine eb_n 1 (46, [.ref a0, .ref a1, .int x2], [.int (nI 2), .int (hI h a1 (ix (nI 3)))], h) (rfl) ?_
      refine eb_b (c := ¬ (hI h a1 (ix (nI 3))) = (nI 2)) (69, [.ref a0, .ref a1, .int x2], [], h) (49, [.ref a0, .ref a1, .int x2], [], h) rfl (fun c6 => ?_) (fun c6 => ?_)
      · replace e := ite_t c6 e
        refine eb_n 2 (71, [.ref a0, .ref a1, .int x2], [.int x2, .ref a0], h) (rfl) ?_
        obtain ⟨g7, e⟩ := gd_some e
        obtain ⟨h8, r9, eh8, e⟩ := bn_some e
        refine eb_cg (p := hT h a0 = 13) rfl g7 (f_Sim_priceOf_ev d (Nat.le_trans (by decide) hd) eh8) ?_
        show Eb _ 71 (74, [.ref a0, .ref a1, .int x2], [.int r9], h8) _ _
        refine eb_n 4 (78, [.ref a0, .ref a1, .int x2], [.int (nI 4), .ref a1, .int (r9 * (nI 2))], h8) (rfl) ?_
        obtain ⟨g10, e⟩ := gd_some e
        refine eb_g (p := hT h8 a1 = 101 ∧ inb (nI 4) (hL h8 a1)) (79, [.ref a0, .ref a1, .int x2], [.int (hI h8 a1 (ix (nI 4))), .int (r9 * (nI 2))], h8) rfl g10 ?_
        refine eb_n 1 (80, [.ref a0, .ref a1, .int x2], [.int (nI 5), .int (hI h8 a1 (ix (nI 4))), .int (r9 * (nI 2))], h8) (rfl) ?_
        refine eb_g (p := ¬ (nI 5) = 0) (81, [.ref a0, .ref a1, .int x2], [.int ((hI h8 a1 (ix (nI 4))) - (hI h8 a1 (ix (nI 4))) / (nI 5) * (nI 5)), .int (r9 * (nI 2))], h8) rfl (by decide) ?_
        refine eb_n 1 (82, [.ref a0, .ref a1, .int x2], [.int ((r9 * (nI 2)) + ((hI h8 a1 (ix (nI 4))) - (hI h8 a1 (ix (nI 4))) / (nI 5) * (nI 5)))], h8) (rfl) ?_
        rw [(sp_inj e).1, (sp_inj e).2]
        exact eb_rg (p := nrm 0 ((r9 * (nI 2)) + ((hI h8 a1 (ix (nI 4))) - (hI h8 a1 (ix (nI 4))) / (nI 5) * (nI 5)))) rfl (nrm_0 _)
      · replace e := ite_f c6 e
        refine eb_n 1 (50, [.ref a0, .ref a1, .int x2], [.ref a0], h) (rfl) ?_
        obtain ⟨g11, e⟩ := gd_some e
        refine eb_g (p := hT h a0 = 13) (53, [.ref a0, .ref a1, .int x2], [.ref (hR h a0 9)], h) rfl g11 ?_
        refine eb_n 1 (54, [.ref a0, .ref a1, .int x2], [.int x2, .ref (hR h a0 9)], h) (rfl) ?_
        obtain ⟨g12, e⟩ := gd_some e
        refine eb_g (p := hT h (hR h a0 9) = 101 ∧ inb x2 (hL h (hR h a0 9))) (55, [.ref a0, .ref a1, .int x2], [.int (hI h (hR h a0 9) (ix x2))], h) rfl g12 ?_
        refine eb_n 1 (56, [.ref a0, .ref a1, .int x2], [.int (nI 2), .int (hI h (hR h a0 9) (ix x2))], h) (rfl) ?_
        refine eb_g (p := ¬ (nI 2) = 0) (57, [.ref a0, .ref a1, .int x2], [.int ((hI h (hR h a0 9) (ix x2)) / (nI 2))], h) rfl (by decide) ?_
        refine eb_n 2 (59, [.ref a0, .ref a1, .int x2], [.int (nI 4), .ref a1, .int ((hI h (hR h a0 9) (ix x2)) / (nI 2))], h) (rfl) ?_
        obtain ⟨g13, e⟩ := gd_some e
        refine eb_g (p := hT h a1 = 101 ∧ inb (nI 4) (hL h a1)) (60, [.ref a0, .ref a1, .int x2], [.int (hI h a1 (ix (nI 4))), .int ((hI h (hR h a0 9) (ix x2)) / (nI 2))], h) rfl g13 ?_
        refine eb_n 1 (62, [.ref a0, .ref a1, .int x2], [.int (nI 9), .int (hI h a1 (ix (nI 4))), .int ((hI h (hR h a0 9) (ix x2)) / (nI 2))], h) (rfl) ?_
        refine eb_g (p := ¬ (nI 9) = 0) (63, [.ref a0, .ref a1, .int x2], [.int ((hI h a1 (ix (nI 4))) - (hI h a1 (ix (nI 4))) / (nI 9) * (nI 9)), .int ((hI h (hR h a0 9) (ix x2)) / (nI 2))], h) rfl (by decide) ?_
        obtain ⟨h14, r15, eh14, e⟩ := bn_some e
        refine eb_c rfl (f_Math_max_ev d (Nat.le_trans (by decide) hd) eh14) ?_
        show Eb _ 71 (66, [.ref a0, .ref a1, .int x2], [.int r15], h14) _ _
        refine eb_n 1 (82, [.ref a0, .ref a1, .int x2], [.int r15], h14) (rfl) ?_
        rw [(sp_inj e).1, (sp_inj e).2]
        exact eb_rg (p := nrm 0 r15) rfl (nrm_0 _)
    · replace e := ite_f c5 e
      refine eb_n 1 (27, [.ref a0, .ref a1, .int x2], [.ref a0], h) (rfl) ?_
      obtain ⟨g16, e⟩ := gd_some e
      refine eb_g (p := hT h a0 = 13) (30, [.ref a0, .ref a1, .int x2], [.ref (hR h a0 9)], h) rfl g16 ?_
      refine eb_n 1 (31, [.ref a0, .ref a1, .int x2], [.int x2, .ref (hR h a0 9)], h) (rfl) ?_
      obtain ⟨g17, e⟩ := gd_some e
      refine eb_g (p := hT h (hR h a0 9) = 101 ∧ inb x2 (hL h (hR h a0 9))) (32, [.ref a0, .ref a1, .int x2], [.int (hI h (hR h a0 9) (ix x2))], h) rfl g17 ?_
      refine eb_n 2 (34, [.ref a0, .ref a1, .int x2], [.int (nI 4), .ref a1, .int (hI h (hR h a0 9) (ix x2))], h) (rfl) ?_
      obtain ⟨g18, e⟩ := gd_some e
      refine eb_g (p := hT h a1 = 101 ∧ inb (nI 4) (hL h a1)) (35, [.ref a0, .ref a1, .int x2], [.int (hI h a1 (ix (nI 4))), .int (hI h (hR h a0 9) (ix x2))], h) rfl g18 ?_
      refine eb_n 1 (37, [.ref a0, .ref a1, .int x2], [.int (nI 7), .int (hI h a1 (ix (nI 4))), .int (hI h (hR h a0 9) (ix x2))], h) (rfl) ?_
      refine eb_g (p := ¬ (nI 7) = 0) (38, [.ref a0, .ref a1, .int x2], [.int ((hI h a1 (ix (nI 4))) - (hI h a1 (ix (nI 4))) / (nI 7) * (nI 7)), .int (hI h (hR h a0 9) (ix x2))], h) rfl (by decide) ?_
      refine eb_n 2 (82, [.ref a0, .ref a1, .int x2], [.int ((hI h (hR h a0 9) (ix x2)) - ((hI h a1 (ix (nI 4))) - (hI h a1 (ix (nI 4))) / (nI 7) * (nI 7)))], h) (rfl) ?_
      rw [(sp_inj e).1, (sp_inj e).2]
      exact eb_rg (p := nrm 0 ((hI h (hR h a0 9) (ix x2)) - ((hI h a1 (ix (nI 4))) - (hI h a1 (ix (nI 4))) / (nI 7) * (nI 7)))) rfl (nrm_0 _)
  · replace e := ite_f c4 e
    refine eb_n 2 (12, [.ref a0, .ref a1, .int x2], [.int (nI 4), .ref a1], h) (rfl) ?_
    obtain ⟨g19, e⟩ := gd_some e
    refine eb_g (p := hT h a1 = 101 ∧ inb (nI 4) (hL h a1)) (13, [.ref a0, .ref a1, .int x2], [.int (hI h a1 (ix (nI 4)))], h) rfl g19 ?_
    refine eb_n 1 (15, [.ref a0, .ref a1, .int x2], [.int (nI 50), .int (hI h a1 (ix (nI 4)))], h) (rfl) ?_
    refine eb_g (p := ¬ (nI 50) = 0) (16, [.ref a0, .ref a1, .int x2], [.int ((hI h a1 (ix (nI 4))) - (hI h a1 (ix (nI 4))) / (nI 50) * (nI 50))], h) rfl (by decide) ?_
    refine eb_n 1 (82, [.ref a0, .ref a1, .int x2], [.int ((hI h a1 (ix (nI 4))) - (hI h a1 (ix (nI 4))) / (nI 50) * (nI 50))], h) (rfl) ?_
    rw [(sp_inj e).1, (sp_inj e).2]
    exact eb_rg (p := nrm 0 ((hI h a1 (ix (nI 4))) - (hI h a1 (ix (nI 4))) / (nI 50) * (nI 50))) rfl (nrm_0 _)
set_option maxRecDepth 100000 in
set_option maxHeartbeats 4000000 in
theorem f_Sim_grade_ev (d0 : Nat) (hd0 : 1 ≤ d0) {h' : AH} {r : Int32} {h : AH} {a0 : Nat} (e : f_Sim_grade h a0 = some (h', r)) : Ev tb mL d0 73 [.ref a0] h h' (some (.int r)) := by
  obtain ⟨d, rfl⟩ : ∃ d, d0 = d + 1 := ⟨d0 - 1, by omega⟩
  have hd : 0 ≤ d := by omega
  refine ⟨Nat.le_of_ble_eq_true rfl, ?_⟩
  show Eb (Ev tb mL d) 73 (0, [.ref a0, .retAddr 0], [], h) h' (some (.int r))
  unfold f_Sim_grade at e
  refine eb_n 2 (2, [.ref a0, .retAddr 0], [.int (nI 1), .ref a0], h) (rfl) ?_
  obtain ⟨g1, e⟩ := gd_some e
  refine eb_g (p := hT h a0 = 101 ∧ inb (nI 1) (hL h a0)) (3, [.ref a0, .retAddr 0], [.int (hI h a0 (ix (nI 1)))], h) rfl g1 ?_
  refine eb_n 3 (6, [.ref a0, .retAddr 0], [.int (nI 3), .int ((hI h a0 (ix (nI 1))) - (nI 1))], h) (rfl) ?_
  refine eb_g (p := ¬ (nI 3) = 0) (7, [.ref a0, .retAddr 0], [.int (((hI h a0 (ix (nI 1))) - (nI 1)) / (nI 3))], h) rfl (by decide) ?_
  refine eb_n 2 (9, [.ref a0, .retAddr 0], [.int (nI 3), .ref a0, .int (((hI h a0 (ix (nI 1))) - (nI 1)) / (nI 3))], h) (rfl) ?_
  obtain ⟨g2, e⟩ := gd_some e
  refine eb_g (p := hT h a0 = 101 ∧ inb (nI 3) (hL h a0)) (10, [.ref a0, .retAddr 0], [.int (hI h a0 (ix (nI 3))), .int (((hI h a0 (ix (nI 1))) - (nI 1)) / (nI 3))], h) rfl g2 ?_
  refine eb_n 1 (11, [.ref a0, .retAddr 0], [.int (nI 3), .int (hI h a0 (ix (nI 3))), .int (((hI h a0 (ix (nI 1))) - (nI 1)) / (nI 3))], h) (rfl) ?_
  refine eb_g (p := ¬ (nI 3) = 0) (12, [.ref a0, .retAddr 0], [.int ((hI h a0 (ix (nI 3))) / (nI 3)), .int (((hI h a0 (ix (nI 1))) - (nI 1)) / (nI 3))], h) rfl (by decide) ?_
  obtain ⟨x3, hx3, e⟩ := lq_some e
  refine eb_n 2 (14, [.ref a0, .int x3], [], h) (by subst hx3; rfl) ?_
  refine eb_n 2 (16, [.ref a0, .int x3], [.int (nI 3), .int x3], h) (rfl) ?_
  refine eb_b (c := x3 ≤ (nI 3)) (23, [.ref a0, .int x3], [], h) (19, [.ref a0, .int x3], [], h) rfl (fun c4 => ?_) (fun c4 => ?_)
  · replace e := ite_t c4 e
    refine eb_n 1 (24, [.ref a0, .int x3], [.int x3], h) (rfl) ?_
    rw [(sp_inj e).1, (sp_inj e).2]
    exact eb_rg (p := nrm 0 x3) rfl (nrm_0 _)
  · replace e := ite_f c4 e
    refine eb_n 2 (24, [.ref a0, .int x3], [.int (nI 3)], h) (rfl) ?_
    rw [(sp_inj e).1, (sp_inj e).2]
    exact eb_rg (p := nrm 0 (nI 3)) rfl (nrm_0 _)
set_option maxRecDepth 100000 in
set_option maxHeartbeats 4000000 in
theorem f_Sim_pass_b929_ev {h' : AH} (d : Nat) (hd : 2 ≤ d) (k905 : AH → Nat → Int32 → Option AH) (hk905 : ∀ (h : AH) (a0 : Nat) (a2 : Int32)  (d1 : Value) (d3 : Value) (d4 : Value) (d5 : Value) (d6 : Value) (d7 : Value) (d8 : Value) (d9 : Value), k905 h a0 a2 = some h' → Eb (Ev tb mL d) 20 (905, [.ref a0, d1, .int a2, d3, d4, d5, d6, d7, d8, d9], [], h) h' none)  (h : AH) (a0 : Nat) (a2 : Int32)  (d1 : Value) (d3 : Value) (d4 : Value) (d5 : Value) (d6 : Value) (d7 : Value) (d8 : Value) (d9 : Value) (e : f_Sim_pass_b929 k905 h a0 a2 = some h') : Eb (Ev tb mL d) 20 (929, [.ref a0, d1, .int a2, d3, d4, d5, d6, d7, d8, d9], [], h) h' none := by
  unfold f_Sim_pass_b929 at e
  obtain ⟨x1, hx1, e⟩ := lq_some e
  refine eb_n 1 (932, [.ref a0, d1, .int x1, d3, d4, d5, d6, d7, d8, d9], [], h) (by subst hx1; rfl) ?_
  refine eb_n 1 (905, [.ref a0, d1, .int x1, d3, d4, d5, d6, d7, d8, d9], [], h) (rfl) ?_
  exact hk905 _ _ _ _ _ _ _ _ _ _ _ e
set_option maxRecDepth 100000 in
set_option maxHeartbeats 4000000 in
theorem f_Sim_pass_b905_ev {h' : AH} (d : Nat) (hd : 2 ≤ d) (k905 : AH → Nat → Int32 → Option AH) (hk905 : ∀ (h : AH) (a0 : Nat) (a2 : Int32)  (d1 : Value) (d3 : Value) (d4 : Value) (d5 : Value) (d6 : Value) (d7 : Value) (d8 : Value) (d9 : Value), k905 h a0 a2 = some h' → Eb (Ev tb mL d) 20 (905, [.ref a0, d1, .int a2, d3, d4, d5, d6, d7, d8, d9], [], h) h' none)  (h : AH) (a0 : Nat) (a2 : Int32)  (d1 : Value) (d3 : Value) (d4 : Value) (d5 : Value) (d6 : Value) (d7 : Value) (d8 : Value) (d9 : Value) (e : f_Sim_pass_b905 k905 h a0 a2 = some h') : Eb (Ev tb mL d) 20 (905, [.ref a0, d1, .int a2, d3, d4, d5, d6, d7, d8, d9], [], h) h' none := by
  unfold f_Sim_pass_b905 at e
  refine eb_n 2 (907, [.ref a0, d1, .int a2, d3, d4, d5, d6, d7, d8, d9], [.int (nI 4), .int a2], h) (rfl) ?_
  refine eb_b (c := (nI 4) ≤ a2) (935, [.ref a0, d1, .int a2, d3, d4, d5, d6, d7, d8, d9], [], h) (910, [.ref a0, d1, .int a2, d3, d4, d5, d6, d7, d8, d9], [], h) rfl (fun c1 => ?_) (fun c1 => ?_)
  · replace e := ite_t c1 e
    refine eb_n 2 (937, [.ref a0, d1, .int a2, d3, d4, d5, d6, d7, d8, d9], [.ref a0, .ref a0], h) (rfl) ?_
    obtain ⟨g2, e⟩ := gd_some e
    refine eb_g (p := hT h a0 = 13) (940, [.ref a0, d1, .int a2, d3, d4, d5, d6, d7, d8, d9], [.int (hI h a0 0), .ref a0], h) rfl g2 ?_
    refine eb_n 2 (942, [.ref a0, d1, .int a2, d3, d4, d5, d6, d7, d8, d9], [.int ((hI h a0 0) + (nI 1)), .ref a0], h) (rfl) ?_
    obtain ⟨h3, eh3, e⟩ := lq_some e
    refine eb_g (p := hT h a0 = 13) (945, [.ref a0, d1, .int a2, d3, d4, d5, d6, d7, d8, d9], [], h3) (by rw [eh3]; rfl) g2 ?_
    refine eb_n 1 (946, [.ref a0, d1, .int a2, d3, d4, d5, d6, d7, d8, d9], [.ref a0], h3) (rfl) ?_
    obtain ⟨g4, e⟩ := gd_some e
    refine eb_g (p := hT h3 a0 = 13) (949, [.ref a0, d1, .int a2, d3, d4, d5, d6, d7, d8, d9], [.int (hI h3 a0 1)], h3) rfl g4 ?_
    refine eb_n 1 (951, [.ref a0, d1, .int a2, d3, d4, d5, d6, d7, d8, d9], [.int (nI 99999), .int (hI h3 a0 1)], h3) (rfl) ?_
    refine eb_b (c := (hI h3 a0 1) ≤ (nI 99999)) (960, [.ref a0, d1, .int a2, d3, d4, d5, d6, d7, d8, d9], [], h3) (954, [.ref a0, d1, .int a2, d3, d4, d5, d6, d7, d8, d9], [], h3) rfl (fun c5 => ?_) (fun c5 => ?_)
    · replace e := ite_t c5 e
      rw [sv_inj e]
      exact eb_r rfl
    · replace e := ite_f c5 e
      refine eb_n 2 (957, [.ref a0, d1, .int a2, d3, d4, d5, d6, d7, d8, d9], [.int (nI 99999), .ref a0], h3) (rfl) ?_
      obtain ⟨h6, eh6, e⟩ := lq_some e
      refine eb_g (p := hT h3 a0 = 13) (960, [.ref a0, d1, .int a2, d3, d4, d5, d6, d7, d8, d9], [], h6) (by rw [eh6]; rfl) g4 ?_
      rw [sv_inj e]
      exact eb_r rfl
  · replace e := ite_f c1 e
    refine eb_n 1 (911, [.ref a0, d1, .int a2, d3, d4, d5, d6, d7, d8, d9], [.ref a0], h) (rfl) ?_
    obtain ⟨g7, e⟩ := gd_some e
    refine eb_g (p := hT h a0 = 13) (914, [.ref a0, d1, .int a2, d3, d4, d5, d6, d7, d8, d9], [.ref (hR h a0 10)], h) rfl g7 ?_
    refine eb_n 1 (915, [.ref a0, d1, .int a2, d3, d4, d5, d6, d7, d8, d9], [.int a2, .ref (hR h a0 10)], h) (rfl) ?_
    obtain ⟨g8, e⟩ := gd_some e
    refine eb_g (p := hT h (hR h a0 10) = 101 ∧ inb a2 (hL h (hR h a0 10))) (916, [.ref a0, d1, .int a2, d3, d4, d5, d6, d7, d8, d9], [.int (hI h (hR h a0 10) (ix a2))], h) rfl g8 ?_
    refine eb_b (c := (hI h (hR h a0 10) (ix a2)) ≤ 0) (929, [.ref a0, d1, .int a2, d3, d4, d5, d6, d7, d8, d9], [], h) (919, [.ref a0, d1, .int a2, d3, d4, d5, d6, d7, d8, d9], [], h) rfl (fun c9 => ?_) (fun c9 => ?_)
    · replace e := ite_t c9 e
      exact f_Sim_pass_b929_ev d hd k905 hk905 _ _ _ _ _ _ _ _ _ _ _ e
    · replace e := ite_f c9 e
      refine eb_n 1 (920, [.ref a0, d1, .int a2, d3, d4, d5, d6, d7, d8, d9], [.ref a0], h) (rfl) ?_
      refine eb_g (p := hT h a0 = 13) (923, [.ref a0, d1, .int a2, d3, d4, d5, d6, d7, d8, d9], [.ref (hR h a0 10)], h) rfl g7 ?_
      refine eb_n 2 (925, [.ref a0, d1, .int a2, d3, d4, d5, d6, d7, d8, d9], [.int a2, .ref (hR h a0 10), .int a2, .ref (hR h a0 10)], h) (rfl) ?_
      refine eb_g (p := hT h (hR h a0 10) = 101 ∧ inb a2 (hL h (hR h a0 10))) (926, [.ref a0, d1, .int a2, d3, d4, d5, d6, d7, d8, d9], [.int (hI h (hR h a0 10) (ix a2)), .int a2, .ref (hR h a0 10)], h) rfl g8 ?_
      refine eb_n 2 (928, [.ref a0, d1, .int a2, d3, d4, d5, d6, d7, d8, d9], [.int ((hI h (hR h a0 10) (ix a2)) - (nI 1)), .int a2, .ref (hR h a0 10)], h) (rfl) ?_
      obtain ⟨h10, eh10, e⟩ := lq_some e
      refine eb_g (p := hT h (hR h a0 10) = 101 ∧ inb a2 (hL h (hR h a0 10))) (929, [.ref a0, d1, .int a2, d3, d4, d5, d6, d7, d8, d9], [], h10) (by rw [eh10]; rfl) g8 ?_
      exact f_Sim_pass_b929_ev d hd k905 hk905 _ _ _ _ _ _ _ _ _ _ _ e
set_option maxRecDepth 100000 in
set_option maxHeartbeats 4000000 in
theorem f_Sim_pass_l905_ev {h' : AH} (d : Nat) (hd : 2 ≤ d)  : ∀ (n : Nat) (h : AH) (a0 : Nat) (a2 : Int32)  (d1 : Value) (d3 : Value) (d4 : Value) (d5 : Value) (d6 : Value) (d7 : Value) (d8 : Value) (d9 : Value) (_ : f_Sim_pass_l905  n h a0 a2 = some h'), Eb (Ev tb mL d) 20 (905, [.ref a0, d1, .int a2, d3, d4, d5, d6, d7, d8, d9], [], h) h' none := by
  intro n
  induction n with
  | zero => intro h a0 a2 d1 d3 d4 d5 d6 d7 d8 d9 e; exact nomatch e
  | succ n ih =>
    intro h a0 a2 d1 d3 d4 d5 d6 d7 d8 d9 e
    exact f_Sim_pass_b905_ev d hd _ (fun h a0 a2 d1 d3 d4 d5 d6 d7 d8 d9 e => ih h a0 a2 d1 d3 d4 d5 d6 d7 d8 d9 e) h a0 a2 d1 d3 d4 d5 d6 d7 d8 d9 e
set_option maxRecDepth 100000 in
set_option maxHeartbeats 4000000 in
theorem f_Sim_pass_b897_ev {h' : AH} (d : Nat) (hd : 2 ≤ d) (k688 : AH → Nat → Nat → Int32 → Int32 → Option AH) (hk688 : ∀ (h : AH) (a0 : Nat) (a2 : Nat) (a3 : Int32) (a4 : Int32)  (d1 : Value) (d5 : Value) (d6 : Value) (d7 : Value) (d8 : Value) (d9 : Value), k688 h a0 a2 a3 a4 = some h' → Eb (Ev tb mL d) 20 (688, [.ref a0, d1, .ref a2, .int a3, .int a4, d5, d6, d7, d8, d9], [], h) h' none)  (h : AH) (a0 : Nat) (a2 : Nat) (a3 : Int32) (a4 : Int32)  (d1 : Value) (d5 : Value) (d6 : Value) (d7 : Value) (d8 : Value) (d9 : Value) (e : f_Sim_pass_b897 k688 h a0 a2 a3 a4 = some h') : Eb (Ev tb mL d) 20 (897, [.ref a0, d1, .ref a2, .int a3, .int a4, d5, d6, d7, d8, d9], [], h) h' none := by
  unfold f_Sim_pass_b897 at e
  obtain ⟨x1, hx1, e⟩ := lq_some e
  refine eb_n 1 (900, [.ref a0, d1, .ref a2, .int a3, .int x1, d5, d6, d7, d8, d9], [], h) (by subst hx1; rfl) ?_
  refine eb_n 1 (688, [.ref a0, d1, .ref a2, .int a3, .int x1, d5, d6, d7, d8, d9], [], h) (rfl) ?_
  exact hk688 _ _ _ _ _ _ _ _ _ _ _ e
set_option maxRecDepth 100000 in
set_option maxHeartbeats 4000000 in
theorem f_Sim_pass_b766_ev {h' : AH} (d : Nat) (hd : 2 ≤ d) (k688 : AH → Nat → Nat → Int32 → Int32 → Option AH) (k766 : AH → Nat → Nat → Int32 → Int32 → Nat → Option AH) (hk688 : ∀ (h : AH) (a0 : Nat) (a2 : Nat) (a3 : Int32) (a4 : Int32)  (d1 : Value) (d5 : Value) (d6 : Value) (d7 : Value) (d8 : Value) (d9 : Value), k688 h a0 a2 a3 a4 = some h' → Eb (Ev tb mL d) 20 (688, [.ref a0, d1, .ref a2, .int a3, .int a4, d5, d6, d7, d8, d9], [], h) h' none) (hk766 : ∀ (h : AH) (a0 : Nat) (a2 : Nat) (a3 : Int32) (a4 : Int32) (a5 : Nat)  (d1 : Value) (d6 : Value) (d7 : Value) (d8 : Value) (d9 : Value), k766 h a0 a2 a3 a4 a5 = some h' → Eb (Ev tb mL d) 20 (766, [.ref a0, d1, .ref a2, .int a3, .int a4, .ref a5, d6, d7, d8, d9], [], h) h' none)  (h : AH) (a0 : Nat) (a2 : Nat) (a3 : Int32) (a4 : Int32) (a5 : Nat)  (d1 : Value) (d6 : Value) (d7 : Value) (d8 : Value) (d9 : Value) (e : f_Sim_pass_b766 k688 k766 h a0 a2 a3 a4 a5 = some h') : Eb (Ev tb mL d) 20 (766, [.ref a0, d1, .ref a2, .int a3, .int a4, .ref a5, d6, d7, d8, d9], [], h) h' none := by
  unfold f_Sim_pass_b766 at e
  refine eb_n 2 (769, [.ref a0, d1, .ref a2, .int a3, .int a4, .ref a5, d6, d7, d8, d9], [.int (nI 4), .ref a5], h) (rfl) ?_
  obtain ⟨g1, e⟩ := gd_some e
  refine eb_g (p := hT h a5 = 101 ∧ inb (nI 4) (hL h a5)) (770, [.ref a0, d1, .ref a2, .int a3, .int a4, .ref a5, d6, d7, d8, d9], [.int (hI h a5 (ix (nI 4)))], h) rfl g1 ?_
  refine eb_b (c := (hI h a5 (ix (nI 4))) ≤ 0) (897, [.ref a0, d1, .ref a2, .int a3, .int a4, .ref a5, d6, d7, d8, d9], [], h) (773, [.ref a0, d1, .ref a2, .int a3, .int a4, .ref a5, d6, d7, d8, d9], [], h) rfl (fun c2 => ?_) (fun c2 => ?_)
  · replace e := ite_t c2 e
    exact f_Sim_pass_b897_ev d hd k688 hk688 _ _ _ _ _ _ _ _ _ _ _ e
  · replace e := ite_f c2 e
    refine eb_n 3 (778, [.ref a0, d1, .ref a2, .int a3, .int a4, .ref a5, d6, d7, d8, d9], [.int (nI 6), .ref a5, .int (nI 6), .ref a5], h) (rfl) ?_
    obtain ⟨g3, e⟩ := gd_some e
    refine eb_g (p := hT h a5 = 101 ∧ inb (nI 6) (hL h a5)) (779, [.ref a0, d1, .ref a2, .int a3, .int a4, .ref a5, d6, d7, d8, d9], [.int (hI h a5 (ix (nI 6))), .int (nI 6), .ref a5], h) rfl g3 ?_
    refine eb_n 3 (783, [.ref a0, d1, .ref a2, .int a3, .int a4, .ref a5, d6, d7, d8, d9], [.int (nI 5), .ref a5, .ref a0, .int (hI h a5 (ix (nI 6))), .int (nI 6), .ref a5], h) (rfl) ?_
    obtain ⟨g4, e⟩ := gd_some e
    refine eb_g (p := hT h a5 = 101 ∧ inb (nI 5) (hL h a5)) (784, [.ref a0, d1, .ref a2, .int a3, .int a4, .ref a5, d6, d7, d8, d9], [.int (hI h a5 (ix (nI 5))), .ref a0, .int (hI h a5 (ix (nI 6))), .int (nI 6), .ref a5], h) rfl g4 ?_
    obtain ⟨g5, e⟩ := gd_some e
    obtain ⟨h6, r7, eh6, e⟩ := bn_some e
    refine eb_cg (p := hT h a0 = 13) rfl g5 (f_Sim_priceOf_ev d (Nat.le_trans (by decide) hd) eh6) ?_
    show Eb _ 20 (787, [.ref a0, d1, .ref a2, .int a3, .int a4, .ref a5, d6, d7, d8, d9], [.int r7, .int (hI h a5 (ix (nI 6))), .int (nI 6), .ref a5], h6) _ _
    refine eb_n 1 (788, [.ref a0, d1, .ref a2, .int a3, .int a4, .ref a5, d6, d7, d8, d9], [.int ((hI h a5 (ix (nI 6))) + r7), .int (nI 6), .ref a5], h6) (rfl) ?_
    obtain ⟨g8, e⟩ := gd_some e
    obtain ⟨h9, eh9, e⟩ := lq_some e
    refine eb_g (p := hT h6 a5 = 101 ∧ inb (nI 6) (hL h6 a5)) (789, [.ref a0, d1, .ref a2, .int a3, .int a4, .ref a5, d6, d7, d8, d9], [], h9) (by rw [eh9]; rfl) g8 ?_
    refine eb_n 2 (791, [.ref a0, d1, .ref a2, .int a3, .int a4, .ref a5, d6, d7, d8, d9], [.ref a0, .ref a0], h9) (rfl) ?_
    obtain ⟨g10, e⟩ := gd_some e
    refine eb_g (p := hT h9 a0 = 13) (794, [.ref a0, d1, .ref a2, .int a3, .int a4, .ref a5, d6, d7, d8, d9], [.int (hI h9 a0 1), .ref a0], h9) rfl g10 ?_
    refine eb_n 3 (798, [.ref a0, d1, .ref a2, .int a3, .int a4, .ref a5, d6, d7, d8, d9], [.int (nI 5), .ref a5, .ref a0, .int (hI h9 a0 1), .ref a0], h9) (rfl) ?_
    obtain ⟨g11, e⟩ := gd_some e
    refine eb_g (p := hT h9 a5 = 101 ∧ inb (nI 5) (hL h9 a5)) (799, [.ref a0, d1, .ref a2, .int a3, .int a4, .ref a5, d6, d7, d8, d9], [.int (hI h9 a5 (ix (nI 5))), .ref a0, .int (hI h9 a0 1), .ref a0], h9) rfl g11 ?_
    obtain ⟨h12, r13, eh12, e⟩ := bn_some e
    refine eb_cg (p := hT h9 a0 = 13) rfl g10 (f_Sim_priceOf_ev d (Nat.le_trans (by decide) hd) eh12) ?_
    show Eb _ 20 (802, [.ref a0, d1, .ref a2, .int a3, .int a4, .ref a5, d6, d7, d8, d9], [.int r13, .int (hI h9 a0 1), .ref a0], h12) _ _
    refine eb_n 1 (803, [.ref a0, d1, .ref a2, .int a3, .int a4, .ref a5, d6, d7, d8, d9], [.int ((hI h9 a0 1) + r13), .ref a0], h12) (rfl) ?_
    obtain ⟨g14, e⟩ := gd_some e
    obtain ⟨h15, eh15, e⟩ := lq_some e
    refine eb_g (p := hT h12 a0 = 13) (806, [.ref a0, d1, .ref a2, .int a3, .int a4, .ref a5, d6, d7, d8, d9], [], h15) (by rw [eh15]; rfl) g14 ?_
    refine eb_n 1 (807, [.ref a0, d1, .ref a2, .int a3, .int a4, .ref a5, d6, d7, d8, d9], [.ref a0], h15) (rfl) ?_
    obtain ⟨g16, e⟩ := gd_some e
    refine eb_g (p := hT h15 a0 = 13) (810, [.ref a0, d1, .ref a2, .int a3, .int a4, .ref a5, d6, d7, d8, d9], [.ref (hR h15 a0 10)], h15) rfl g16 ?_
    refine eb_n 2 (813, [.ref a0, d1, .ref a2, .int a3, .int a4, .ref a5, d6, d7, d8, d9], [.int (nI 5), .ref a5, .ref (hR h15 a0 10)], h15) (rfl) ?_
    obtain ⟨g17, e⟩ := gd_some e
    refine eb_g (p := hT h15 a5 = 101 ∧ inb (nI 5) (hL h15 a5)) (814, [.ref a0, d1, .ref a2, .int a3, .int a4, .ref a5, d6, d7, d8, d9], [.int (hI h15 a5 (ix (nI 5))), .ref (hR h15 a0 10)], h15) rfl g17 ?_
    refine eb_n 1 (815, [.ref a0, d1, .ref a2, .int a3, .int a4, .ref a5, d6, d7, d8, d9], [.int (hI h15 a5 (ix (nI 5))), .ref (hR h15 a0 10), .int (hI h15 a5 (ix (nI 5))), .ref (hR h15 a0 10)], h15) (rfl) ?_
    obtain ⟨g18, e⟩ := gd_some e
    refine eb_g (p := hT h15 (hR h15 a0 10) = 101 ∧ inb (hI h15 a5 (ix (nI 5))) (hL h15 (hR h15 a0 10))) (816, [.ref a0, d1, .ref a2, .int a3, .int a4, .ref a5, d6, d7, d8, d9], [.int (hI h15 (hR h15 a0 10) (ix (hI h15 a5 (ix (nI 5))))), .int (hI h15 a5 (ix (nI 5))), .ref (hR h15 a0 10)], h15) rfl g18 ?_
    refine eb_n 2 (818, [.ref a0, d1, .ref a2, .int a3, .int a4, .ref a5, d6, d7, d8, d9], [.int ((hI h15 (hR h15 a0 10) (ix (hI h15 a5 (ix (nI 5))))) + (nI 1)), .int (hI h15 a5 (ix (nI 5))), .ref (hR h15 a0 10)], h15) (rfl) ?_
    obtain ⟨h19, eh19, e⟩ := lq_some e
    refine eb_g (p := hT h15 (hR h15 a0 10) = 101 ∧ inb (hI h15 a5 (ix (nI 5))) (hL h15 (hR h15 a0 10))) (819, [.ref a0, d1, .ref a2, .int a3, .int a4, .ref a5, d6, d7, d8, d9], [], h19) (by rw [eh19]; rfl) g18 ?_
    refine eb_n 1 (820, [.ref a0, d1, .ref a2, .int a3, .int a4, .ref a5, d6, d7, d8, d9], [.ref a0], h19) (rfl) ?_
    obtain ⟨g20, e⟩ := gd_some e
    refine eb_g (p := hT h19 a0 = 13) (823, [.ref a0, d1, .ref a2, .int a3, .int a4, .ref a5, d6, d7, d8, d9], [.ref (hR h19 a0 11)], h19) rfl g20 ?_
    refine eb_n 2 (826, [.ref a0, d1, .ref a2, .int a3, .int a4, .ref a5, d6, d7, d8, d9], [.int (nI 5), .ref a5, .ref (hR h19 a0 11)], h19) (rfl) ?_
    obtain ⟨g21, e⟩ := gd_some e
    refine eb_g (p := hT h19 a5 = 101 ∧ inb (nI 5) (hL h19 a5)) (827, [.ref a0, d1, .ref a2, .int a3, .int a4, .ref a5, d6, d7, d8, d9], [.int (hI h19 a5 (ix (nI 5))), .ref (hR h19 a0 11)], h19) rfl g21 ?_
    refine eb_n 1 (828, [.ref a0, d1, .ref a2, .int a3, .int a4, .ref a5, d6, d7, d8, d9], [.int (hI h19 a5 (ix (nI 5))), .ref (hR h19 a0 11), .int (hI h19 a5 (ix (nI 5))), .ref (hR h19 a0 11)], h19) (rfl) ?_
    obtain ⟨g22, e⟩ := gd_some e
    refine eb_g (p := hT h19 (hR h19 a0 11) = 101 ∧ inb (hI h19 a5 (ix (nI 5))) (hL h19 (hR h19 a0 11))) (829, [.ref a0, d1, .ref a2, .int a3, .int a4, .ref a5, d6, d7, d8, d9], [.int (hI h19 (hR h19 a0 11) (ix (hI h19 a5 (ix (nI 5))))), .int (hI h19 a5 (ix (nI 5))), .ref (hR h19 a0 11)], h19) rfl g22 ?_
    refine eb_n 2 (831, [.ref a0, d1, .ref a2, .int a3, .int a4, .ref a5, d6, d7, d8, d9], [.int ((hI h19 (hR h19 a0 11) (ix (hI h19 a5 (ix (nI 5))))) + (nI 1)), .int (hI h19 a5 (ix (nI 5))), .ref (hR h19 a0 11)], h19) (rfl) ?_
    obtain ⟨h23, eh23, e⟩ := lq_some e
    refine eb_g (p := hT h19 (hR h19 a0 11) = 101 ∧ inb (hI h19 a5 (ix (nI 5))) (hL h19 (hR h19 a0 11))) (832, [.ref a0, d1, .ref a2, .int a3, .int a4, .ref a5, d6, d7, d8, d9], [], h23) (by rw [eh23]; rfl) g22 ?_
    refine eb_n 2 (834, [.ref a0, d1, .ref a2, .int a3, .int a4, .ref a5, d6, d7, d8, d9], [.ref a0, .ref a0], h23) (rfl) ?_
    obtain ⟨g24, e⟩ := gd_some e
    refine eb_g (p := hT h23 a0 = 13) (837, [.ref a0, d1, .ref a2, .int a3, .int a4, .ref a5, d6, d7, d8, d9], [.int (hI h23 a0 3), .ref a0], h23) rfl g24 ?_
    refine eb_n 2 (839, [.ref a0, d1, .ref a2, .int a3, .int a4, .ref a5, d6, d7, d8, d9], [.int ((hI h23 a0 3) + (nI 1)), .ref a0], h23) (rfl) ?_
    obtain ⟨h25, eh25, e⟩ := lq_some e
    refine eb_g (p := hT h23 a0 = 13) (842, [.ref a0, d1, .ref a2, .int a3, .int a4, .ref a5, d6, d7, d8, d9], [], h25) (by rw [eh25]; rfl) g24 ?_
    refine eb_n 3 (846, [.ref a0, d1, .ref a2, .int a3, .int a4, .ref a5, d6, d7, d8, d9], [.int (nI 4), .ref a5, .int (nI 4), .ref a5], h25) (rfl) ?_
    obtain ⟨g26, e⟩ := gd_some e
    refine eb_g (p := hT h25 a5 = 101 ∧ inb (nI 4) (hL h25 a5)) (847, [.ref a0, d1, .ref a2, .int a3, .int a4, .ref a5, d6, d7, d8, d9], [.int (hI h25 a5 (ix (nI 4))), .int (nI 4), .ref a5], h25) rfl g26 ?_
    refine eb_n 2 (849, [.ref a0, d1, .ref a2, .int a3, .int a4, .ref a5, d6, d7, d8, d9], [.int ((hI h25 a5 (ix (nI 4))) - (nI 1)), .int (nI 4), .ref a5], h25) (rfl) ?_
    obtain ⟨h27, eh27, e⟩ := lq_some e
    refine eb_g (p := hT h25 a5 = 101 ∧ inb (nI 4) (hL h25 a5)) (850, [.ref a0, d1, .ref a2, .int a3, .int a4, .ref a5, d6, d7, d8, d9], [], h27) (by rw [eh27]; rfl) g26 ?_
    refine eb_n 1 (766, [.ref a0, d1, .ref a2, .int a3, .int a4, .ref a5, d6, d7, d8, d9], [], h27) (rfl) ?_
    exact hk766 _ _ _ _ _ _ _ _ _ _ _ e
set_option maxRecDepth 100000 in
set_option maxHeartbeats 4000000 in
theorem f_Sim_pass_l766_ev {h' : AH} (d : Nat) (hd : 2 ≤ d) (k688 : AH → Nat → Nat → Int32 → Int32 → Option AH) (hk688 : ∀ (h : AH) (a0 : Nat) (a2 : Nat) (a3 : Int32) (a4 : Int32)  (d1 : Value) (d5 : Value) (d6 : Value) (d7 : Value) (d8 : Value) (d9 : Value), k688 h a0 a2 a3 a4 = some h' → Eb (Ev tb mL d) 20 (688, [.ref a0, d1, .ref a2, .int a3, .int a4, d5, d6, d7, d8, d9], [], h) h' none)  : ∀ (n : Nat) (h : AH) (a0 : Nat) (a2 : Nat) (a3 : Int32) (a4 : Int32) (a5 : Nat)  (d1 : Value) (d6 : Value) (d7 : Value) (d8 : Value) (d9 : Value) (_ : f_Sim_pass_l766 k688 n h a0 a2 a3 a4 a5 = some h'), Eb (Ev tb mL d) 20 (766, [.ref a0, d1, .ref a2, .int a3, .int a4, .ref a5, d6, d7, d8, d9], [], h) h' none := by
  intro n
  induction n with
  | zero => intro h a0 a2 a3 a4 a5 d1 d6 d7 d8 d9 e; exact nomatch e
  | succ n ih =>
    intro h a0 a2 a3 a4 a5 d1 d6 d7 d8 d9 e
    exact f_Sim_pass_b766_ev d hd k688 _ hk688 (fun h a0 a2 a3 a4 a5 d1 d6 d7 d8 d9 e => ih h a0 a2 a3 a4 a5 d1 d6 d7 d8 d9 e) h a0 a2 a3 a4 a5 d1 d6 d7 d8 d9 e
set_option maxRecDepth 100000 in
set_option maxHeartbeats 4000000 in
theorem f_Sim_pass_b737_ev {h' : AH} (d : Nat) (hd : 2 ≤ d) (k688 : AH → Nat → Nat → Int32 → Int32 → Option AH) (hk688 : ∀ (h : AH) (a0 : Nat) (a2 : Nat) (a3 : Int32) (a4 : Int32)  (d1 : Value) (d5 : Value) (d6 : Value) (d7 : Value) (d8 : Value) (d9 : Value), k688 h a0 a2 a3 a4 = some h' → Eb (Ev tb mL d) 20 (688, [.ref a0, d1, .ref a2, .int a3, .int a4, d5, d6, d7, d8, d9], [], h) h' none)  (h : AH) (a0 : Nat) (a2 : Nat) (a3 : Int32) (a4 : Int32) (a5 : Nat) (s0 : Nat) (s1 : Int32) (s2 : Int32) (s3 : Int32) (d1 : Value) (d6 : Value) (d7 : Value) (d8 : Value) (d9 : Value) (e : f_Sim_pass_b737 k688 h a0 a2 a3 a4 a5 s0 s1 s2 s3 = some h') : Eb (Ev tb mL d) 20 (737, [.ref a0, d1, .ref a2, .int a3, .int a4, .ref a5, d6, d7, d8, d9], [.int s3, .int s2, .int s1, .ref s0], h) h' none := by
  unfold f_Sim_pass_b737 at e
  refine eb_n 1 (738, [.ref a0, d1, .ref a2, .int a3, .int a4, .ref a5, d6, d7, d8, d9], [.int (s2 + s3), .int s1, .ref s0], h) (rfl) ?_
  obtain ⟨g1, e⟩ := gd_some e
  obtain ⟨h2, eh2, e⟩ := lq_some e
  refine eb_g (p := hT h s0 = 101 ∧ inb s1 (hL h s0)) (739, [.ref a0, d1, .ref a2, .int a3, .int a4, .ref a5, d6, d7, d8, d9], [], h2) (by rw [eh2]; rfl) g1 ?_
  refine eb_n 2 (742, [.ref a0, d1, .ref a2, .int a3, .int a4, .ref a5, d6, d7, d8, d9], [.int (nI 2), .ref a5], h2) (rfl) ?_
  obtain ⟨g3, e⟩ := gd_some e
  refine eb_g (p := hT h2 a5 = 101 ∧ inb (nI 2) (hL h2 a5)) (743, [.ref a0, d1, .ref a2, .int a3, .int a4, .ref a5, d6, d7, d8, d9], [.int (hI h2 a5 (ix (nI 2)))], h2) rfl g3 ?_
  refine eb_n 1 (744, [.ref a0, d1, .ref a2, .int a3, .int a4, .ref a5, d6, d7, d8, d9], [.ref a0, .int (hI h2 a5 (ix (nI 2)))], h2) (rfl) ?_
  obtain ⟨g4, e⟩ := gd_some e
  refine eb_g (p := hT h2 a0 = 13) (747, [.ref a0, d1, .ref a2, .int a3, .int a4, .ref a5, d6, d7, d8, d9], [.int (hI h2 a0 5), .int (hI h2 a5 (ix (nI 2)))], h2) rfl g4 ?_
  refine eb_b (c := (hI h2 a0 5) ≤ (hI h2 a5 (ix (nI 2)))) (753, [.ref a0, d1, .ref a2, .int a3, .int a4, .ref a5, d6, d7, d8, d9], [], h2) (750, [.ref a0, d1, .ref a2, .int a3, .int a4, .ref a5, d6, d7, d8, d9], [], h2) rfl (fun c5 => ?_) (fun c5 => ?_)
  · replace e := ite_t c5 e
    refine eb_n 3 (757, [.ref a0, d1, .ref a2, .int a3, .int a4, .ref a5, d6, d7, d8, d9], [.ref a0, .int (nI 2), .ref a5], h2) (rfl) ?_
    refine eb_g (p := hT h2 a0 = 13) (760, [.ref a0, d1, .ref a2, .int a3, .int a4, .ref a5, d6, d7, d8, d9], [.int (hI h2 a0 5), .int (nI 2), .ref a5], h2) rfl g4 ?_
    obtain ⟨h6, eh6, e⟩ := lq_some e
    refine eb_g (p := hT h2 a5 = 101 ∧ inb (nI 2) (hL h2 a5)) (761, [.ref a0, d1, .ref a2, .int a3, .int a4, .ref a5, d6, d7, d8, d9], [], h6) (by rw [eh6]; rfl) g3 ?_
    refine eb_n 3 (765, [.ref a0, d1, .ref a2, .int a3, .int a4, .ref a5, d6, d7, d8, d9], [.int (nI 2), .int (nI 3), .ref a5], h6) (rfl) ?_
    obtain ⟨g7, e⟩ := gd_some e
    obtain ⟨h8, eh8, e⟩ := lq_some e
    refine eb_g (p := hT h6 a5 = 101 ∧ inb (nI 3) (hL h6 a5)) (766, [.ref a0, d1, .ref a2, .int a3, .int a4, .ref a5, d6, d7, d8, d9], [], h8) (by rw [eh8]; rfl) g7 ?_
    exact f_Sim_pass_l766_ev d hd k688 hk688 FU _ _ _ _ _ _ _ _ _ _ _ e
  · replace e := ite_f c5 e
    refine eb_n 1 (897, [.ref a0, d1, .ref a2, .int a3, .int a4, .ref a5, d6, d7, d8, d9], [], h2) (rfl) ?_
    exact f_Sim_pass_b897_ev d hd k688 hk688 _ _ _ _ _ _ _ _ _ _ _ e
set_option maxRecDepth 100000 in
set_option maxHeartbeats 4000000 in
theorem f_Sim_pass_b688_ev {h' : AH} (d : Nat) (hd : 2 ≤ d) (k688 : AH → Nat → Nat → Int32 → Int32 → Option AH) (hk688 : ∀ (h : AH) (a0 : Nat) (a2 : Nat) (a3 : Int32) (a4 : Int32)  (d1 : Value) (d5 : Value) (d6 : Value) (d7 : Value) (d8 : Value) (d9 : Value), k688 h a0 a2 a3 a4 = some h' → Eb (Ev tb mL d) 20 (688, [.ref a0, d1, .ref a2, .int a3, .int a4, d5, d6, d7, d8, d9], [], h) h' none)  (h : AH) (a0 : Nat) (a2 : Nat) (a3 : Int32) (a4 : Int32)  (d1 : Value) (d5 : Value) (d6 : Value) (d7 : Value) (d8 : Value) (d9 : Value) (e : f_Sim_pass_b688 k688 h a0 a2 a3 a4 = some h') : Eb (Ev tb mL d) 20 (688, [.ref a0, d1, .ref a2, .int a3, .int a4, d5, d6, d7, d8, d9], [], h) h' none := by
  unfold f_Sim_pass_b688 at e
  refine eb_n 2 (691, [.ref a0, d1, .ref a2, .int a3, .int a4, d5, d6, d7, d8, d9], [.int a3, .int a4], h) (rfl) ?_
  refine eb_b (c := a3 ≤ a4) (903, [.ref a0, d1, .ref a2, .int a3, .int a4, d5, d6, d7, d8, d9], [], h) (694, [.ref a0, d1, .ref a2, .int a3, .int a4, d5, d6, d7, d8, d9], [], h) rfl (fun c1 => ?_) (fun c1 => ?_)
  · replace e := ite_t c1 e
    refine eb_n 2 (905, [.ref a0, d1, .int (nI 0), .int a3, .int a4, d5, d6, d7, d8, d9], [], h) (rfl) ?_
    exact f_Sim_pass_l905_ev d hd   FU _ _ _ _ _ _ _ _ _ _ _ e
  · replace e := ite_f c1 e
    refine eb_n 2 (697, [.ref a0, d1, .ref a2, .int a3, .int a4, d5, d6, d7, d8, d9], [.int a4, .ref a2], h) (rfl) ?_
    obtain ⟨g2, e⟩ := gd_some e
    refine eb_g (p := hT h a2 = 109 ∧ inb a4 (hL h a2)) (698, [.ref a0, d1, .ref a2, .int a3, .int a4, d5, d6, d7, d8, d9], [.ref (hR h a2 (ix a4))], h) rfl g2 ?_
    obtain ⟨x3, hx3, e⟩ := lq_some e
    refine eb_n 1 (700, [.ref a0, d1, .ref a2, .int a3, .int a4, .ref x3, d6, d7, d8, d9], [], h) (by subst hx3; rfl) ?_
    refine eb_n 2 (703, [.ref a0, d1, .ref a2, .int a3, .int a4, .ref x3, d6, d7, d8, d9], [.int (nI 3), .ref x3], h) (rfl) ?_
    obtain ⟨g4, e⟩ := gd_some e
    refine eb_g (p := hT h x3 = 101 ∧ inb (nI 3) (hL h x3)) (704, [.ref a0, d1, .ref a2, .int a3, .int a4, .ref x3, d6, d7, d8, d9], [.int (hI h x3 (ix (nI 3)))], h) rfl g4 ?_
    refine eb_n 1 (705, [.ref a0, d1, .ref a2, .int a3, .int a4, .ref x3, d6, d7, d8, d9], [.int (nI 1), .int (hI h x3 (ix (nI 3)))], h) (rfl) ?_
    refine eb_b (c := ¬ (hI h x3 (ix (nI 3))) = (nI 1)) (853, [.ref a0, d1, .ref a2, .int a3, .int a4, .ref x3, d6, d7, d8, d9], [], h) (708, [.ref a0, d1, .ref a2, .int a3, .int a4, .ref x3, d6, d7, d8, d9], [], h) rfl (fun c5 => ?_) (fun c5 => ?_)
    · replace e := ite_t c5 e
      refine eb_n 2 (856, [.ref a0, d1, .ref a2, .int a3, .int a4, .ref x3, d6, d7, d8, d9], [.int (nI 3), .ref x3], h) (rfl) ?_
      refine eb_g (p := hT h x3 = 101 ∧ inb (nI 3) (hL h x3)) (857, [.ref a0, d1, .ref a2, .int a3, .int a4, .ref x3, d6, d7, d8, d9], [.int (hI h x3 (ix (nI 3)))], h) rfl g4 ?_
      refine eb_n 1 (858, [.ref a0, d1, .ref a2, .int a3, .int a4, .ref x3, d6, d7, d8, d9], [.int (nI 2), .int (hI h x3 (ix (nI 3)))], h) (rfl) ?_
      refine eb_b (c := ¬ (hI h x3 (ix (nI 3))) = (nI 2)) (897, [.ref a0, d1, .ref a2, .int a3, .int a4, .ref x3, d6, d7, d8, d9], [], h) (861, [.ref a0, d1, .ref a2, .int a3, .int a4, .ref x3, d6, d7, d8, d9], [], h) rfl (fun c6 => ?_) (fun c6 => ?_)
      · replace e := ite_t c6 e
        exact f_Sim_pass_b897_ev d hd k688 hk688 _ _ _ _ _ _ _ _ _ _ _ e
      · replace e := ite_f c6 e
        refine eb_n 3 (865, [.ref a0, d1, .ref a2, .int a3, .int a4, .ref x3, d6, d7, d8, d9], [.int (nI 2), .ref x3, .int (nI 2), .ref x3], h) (rfl) ?_
        obtain ⟨g7, e⟩ := gd_some e
        refine eb_g (p := hT h x3 = 101 ∧ inb (nI 2) (hL h x3)) (866, [.ref a0, d1, .ref a2, .int a3, .int a4, .ref x3, d6, d7, d8, d9], [.int (hI h x3 (ix (nI 2))), .int (nI 2), .ref x3], h) rfl g7 ?_
        refine eb_n 2 (869, [.ref a0, d1, .ref a2, .int a3, .int a4, .ref x3, d6, d7, d8, d9], [.int (nI 1), .ref x3, .int (hI h x3 (ix (nI 2))), .int (nI 2), .ref x3], h) (rfl) ?_
        obtain ⟨g8, e⟩ := gd_some e
        refine eb_g (p := hT h x3 = 101 ∧ inb (nI 1) (hL h x3)) (870, [.ref a0, d1, .ref a2, .int a3, .int a4, .ref x3, d6, d7, d8, d9], [.int (hI h x3 (ix (nI 1))), .int (hI h x3 (ix (nI 2))), .int (nI 2), .ref x3], h) rfl g8 ?_
        refine eb_n 1 (871, [.ref a0, d1, .ref a2, .int a3, .int a4, .ref x3, d6, d7, d8, d9], [.ref a0, .int (hI h x3 (ix (nI 1))), .int (hI h x3 (ix (nI 2))), .int (nI 2), .ref x3], h) (rfl) ?_
        obtain ⟨g9, e⟩ := gd_some e
        refine eb_g (p := hT h a0 = 13) (874, [.ref a0, d1, .ref a2, .int a3, .int a4, .ref x3, d6, d7, d8, d9], [.int (hI h a0 6), .int (hI h x3 (ix (nI 1))), .int (hI h x3 (ix (nI 2))), .int (nI 2), .ref x3], h) rfl g9 ?_
        refine eb_n 2 (876, [.ref a0, d1, .ref a2, .int a3, .int a4, .ref x3, d6, d7, d8, d9], [.int ((hI h x3 (ix (nI 2))) - ((hI h x3 (ix (nI 1))) + (hI h a0 6))), .int (nI 2), .ref x3], h) (rfl) ?_
        obtain ⟨h10, eh10, e⟩ := lq_some e
        refine eb_g (p := hT h x3 = 101 ∧ inb (nI 2) (hL h x3)) (877, [.ref a0, d1, .ref a2, .int a3, .int a4, .ref x3, d6, d7, d8, d9], [], h10) (by rw [eh10]; rfl) g7 ?_
        refine eb_n 2 (880, [.ref a0, d1, .ref a2, .int a3, .int a4, .ref x3, d6, d7, d8, d9], [.int (nI 2), .ref x3], h10) (rfl) ?_
        obtain ⟨g11, e⟩ := gd_some e
        refine eb_g (p := hT h10 x3 = 101 ∧ inb (nI 2) (hL h10 x3)) (881, [.ref a0, d1, .ref a2, .int a3, .int a4, .ref x3, d6, d7, d8, d9], [.int (hI h10 x3 (ix (nI 2)))], h10) rfl g11 ?_
        refine eb_b (c := (hI h10 x3 (ix (nI 2))) ≤ 0) (887, [.ref a0, d1, .ref a2, .int a3, .int a4, .ref x3, d6, d7, d8, d9], [], h10) (884, [.ref a0, d1, .ref a2, .int a3, .int a4, .ref x3, d6, d7, d8, d9], [], h10) rfl (fun c12 => ?_) (fun c12 => ?_)
        · replace e := ite_t c12 e
          refine eb_n 3 (891, [.ref a0, d1, .ref a2, .int a3, .int a4, .ref x3, d6, d7, d8, d9], [.int (nI 0), .int (nI 2), .ref x3], h10) (rfl) ?_
          obtain ⟨h13, eh13, e⟩ := lq_some e
          refine eb_g (p := hT h10 x3 = 101 ∧ inb (nI 2) (hL h10 x3)) (892, [.ref a0, d1, .ref a2, .int a3, .int a4, .ref x3, d6, d7, d8, d9], [], h13) (by rw [eh13]; rfl) g11 ?_
          refine eb_n 3 (896, [.ref a0, d1, .ref a2, .int a3, .int a4, .ref x3, d6, d7, d8, d9], [.int (nI 0), .int (nI 3), .ref x3], h13) (rfl) ?_
          obtain ⟨g14, e⟩ := gd_some e
          obtain ⟨h15, eh15, e⟩ := lq_some e
          refine eb_g (p := hT h13 x3 = 101 ∧ inb (nI 3) (hL h13 x3)) (897, [.ref a0, d1, .ref a2, .int a3, .int a4, .ref x3, d6, d7, d8, d9], [], h15) (by rw [eh15]; rfl) g14 ?_
          exact f_Sim_pass_b897_ev d hd k688 hk688 _ _ _ _ _ _ _ _ _ _ _ e
        · replace e := ite_f c12 e
          refine eb_n 1 (897, [.ref a0, d1, .ref a2, .int a3, .int a4, .ref x3, d6, d7, d8, d9], [], h10) (rfl) ?_
          exact f_Sim_pass_b897_ev d hd k688 hk688 _ _ _ _ _ _ _ _ _ _ _ e
    · replace e := ite_f c5 e
      refine eb_n 3 (712, [.ref a0, d1, .ref a2, .int a3, .int a4, .ref x3, d6, d7, d8, d9], [.int (nI 2), .ref x3, .int (nI 2), .ref x3], h) (rfl) ?_
      obtain ⟨g16, e⟩ := gd_some e
      refine eb_g (p := hT h x3 = 101 ∧ inb (nI 2) (hL h x3)) (713, [.ref a0, d1, .ref a2, .int a3, .int a4, .ref x3, d6, d7, d8, d9], [.int (hI h x3 (ix (nI 2))), .int (nI 2), .ref x3], h) rfl g16 ?_
      refine eb_n 2 (716, [.ref a0, d1, .ref a2, .int a3, .int a4, .ref x3, d6, d7, d8, d9], [.int (nI 1), .ref x3, .int (hI h x3 (ix (nI 2))), .int (nI 2), .ref x3], h) (rfl) ?_
      obtain ⟨g17, e⟩ := gd_some e
      refine eb_g (p := hT h x3 = 101 ∧ inb (nI 1) (hL h x3)) (717, [.ref a0, d1, .ref a2, .int a3, .int a4, .ref x3, d6, d7, d8, d9], [.int (hI h x3 (ix (nI 1))), .int (hI h x3 (ix (nI 2))), .int (nI 2), .ref x3], h) rfl g17 ?_
      refine eb_n 1 (718, [.ref a0, d1, .ref a2, .int a3, .int a4, .ref x3, d6, d7, d8, d9], [.ref a0, .int (hI h x3 (ix (nI 1))), .int (hI h x3 (ix (nI 2))), .int (nI 2), .ref x3], h) (rfl) ?_
      obtain ⟨g18, e⟩ := gd_some e
      refine eb_g (p := hT h a0 = 13) (721, [.ref a0, d1, .ref a2, .int a3, .int a4, .ref x3, d6, d7, d8, d9], [.int (hI h a0 6), .int (hI h x3 (ix (nI 1))), .int (hI h x3 (ix (nI 2))), .int (nI 2), .ref x3], h) rfl g18 ?_
      refine eb_b (c := (hI h x3 (ix (nI 1))) ≤ (hI h a0 6)) (736, [.ref a0, d1, .ref a2, .int a3, .int a4, .ref x3, d6, d7, d8, d9], [.int (hI h x3 (ix (nI 2))), .int (nI 2), .ref x3], h) (724, [.ref a0, d1, .ref a2, .int a3, .int a4, .ref x3, d6, d7, d8, d9], [.int (hI h x3 (ix (nI 2))), .int (nI 2), .ref x3], h) rfl (fun c19 => ?_) (fun c19 => ?_)
      · replace e := ite_t c19 e
        refine eb_n 1 (737, [.ref a0, d1, .ref a2, .int a3, .int a4, .ref x3, d6, d7, d8, d9], [.int (nI 1), .int (hI h x3 (ix (nI 2))), .int (nI 2), .ref x3], h) (rfl) ?_
        exact f_Sim_pass_b737_ev d hd k688 hk688 _ _ _ _ _ _ _ _ _ _ _ _ _ _ _ e
      · replace e := ite_f c19 e
        refine eb_n 2 (727, [.ref a0, d1, .ref a2, .int a3, .int a4, .ref x3, d6, d7, d8, d9], [.int (nI 1), .ref x3, .int (hI h x3 (ix (nI 2))), .int (nI 2), .ref x3], h) (rfl) ?_
        refine eb_g (p := hT h x3 = 101 ∧ inb (nI 1) (hL h x3)) (728, [.ref a0, d1, .ref a2, .int a3, .int a4, .ref x3, d6, d7, d8, d9], [.int (hI h x3 (ix (nI 1))), .int (hI h x3 (ix (nI 2))), .int (nI 2), .ref x3], h) rfl g17 ?_
        refine eb_n 1 (729, [.ref a0, d1, .ref a2, .int a3, .int a4, .ref x3, d6, d7, d8, d9], [.ref a0, .int (hI h x3 (ix (nI 1))), .int (hI h x3 (ix (nI 2))), .int (nI 2), .ref x3], h) (rfl) ?_
        refine eb_g (p := hT h a0 = 13) (732, [.ref a0, d1, .ref a2, .int a3, .int a4, .ref x3, d6, d7, d8, d9], [.int (hI h a0 6), .int (hI h x3 (ix (nI 1))), .int (hI h x3 (ix (nI 2))), .int (nI 2), .ref x3], h) rfl g18 ?_
        refine eb_n 2 (737, [.ref a0, d1, .ref a2, .int a3, .int a4, .ref x3, d6, d7, d8, d9], [.int ((hI h x3 (ix (nI 1))) - (hI h a0 6)), .int (hI h x3 (ix (nI 2))), .int (nI 2), .ref x3], h) (rfl) ?_
        exact f_Sim_pass_b737_ev d hd k688 hk688 _ _ _ _ _ _ _ _ _ _ _ _ _ _ _ e
set_option maxRecDepth 100000 in
set_option maxHeartbeats 4000000 in
theorem f_Sim_pass_l688_ev {h' : AH} (d : Nat) (hd : 2 ≤ d)  : ∀ (n : Nat) (h : AH) (a0 : Nat) (a2 : Nat) (a3 : Int32) (a4 : Int32)  (d1 : Value) (d5 : Value) (d6 : Value) (d7 : Value) (d8 : Value) (d9 : Value) (_ : f_Sim_pass_l688  n h a0 a2 a3 a4 = some h'), Eb (Ev tb mL d) 20 (688, [.ref a0, d1, .ref a2, .int a3, .int a4, d5, d6, d7, d8, d9], [], h) h' none := by
  intro n
  induction n with
  | zero => intro h a0 a2 a3 a4 d1 d5 d6 d7 d8 d9 e; exact nomatch e
  | succ n ih =>
    intro h a0 a2 a3 a4 d1 d5 d6 d7 d8 d9 e
    exact f_Sim_pass_b688_ev d hd _ (fun h a0 a2 a3 a4 d1 d5 d6 d7 d8 d9 e => ih h a0 a2 a3 a4 d1 d5 d6 d7 d8 d9 e) h a0 a2 a3 a4 d1 d5 d6 d7 d8 d9 e
set_option maxRecDepth 100000 in
set_option maxHeartbeats 4000000 in
theorem f_Sim_pass_b657_ev {h' : AH} (d : Nat) (hd : 2 ≤ d) (k486 : AH → Nat → Int32 → Int32 → Option AH) (k617 : AH → Nat → Int32 → Int32 → Nat → Int32 → Nat → Int32 → Int32 → Option AH) (hk486 : ∀ (h : AH) (a0 : Nat) (a1 : Int32) (a2 : Int32)  (d3 : Value) (d4 : Value) (d5 : Value) (d6 : Value) (d7 : Value) (d8 : Value) (d9 : Value), k486 h a0 a1 a2 = some h' → Eb (Ev tb mL d) 20 (486, [.ref a0, .int a1, .int a2, d3, d4, d5, d6, d7, d8, d9], [], h) h' none) (hk617 : ∀ (h : AH) (a0 : Nat) (a1 : Int32) (a2 : Int32) (a4 : Nat) (a5 : Int32) (a6 : Nat) (a7 : Int32) (a8 : Int32)  (d3 : Value) (d9 : Value), k617 h a0 a1 a2 a4 a5 a6 a7 a8 = some h' → Eb (Ev tb mL d) 20 (617, [.ref a0, .int a1, .int a2, d3, .ref a4, .int a5, .ref a6, .int a7, .int a8, d9], [], h) h' none)  (h : AH) (a0 : Nat) (a1 : Int32) (a2 : Int32) (a4 : Nat) (a5 : Int32) (a6 : Nat) (a7 : Int32) (a8 : Int32)  (d3 : Value) (d9 : Value) (e : f_Sim_pass_b657 k486 k617 h a0 a1 a2 a4 a5 a6 a7 a8 = some h') : Eb (Ev tb mL d) 20 (657, [.ref a0, .int a1, .int a2, d3, .ref a4, .int a5, .ref a6, .int a7, .int a8, d9], [], h) h' none := by
  unfold f_Sim_pass_b657 at e
  obtain ⟨x1, hx1, e⟩ := lq_some e
  refine eb_n 1 (660, [.ref a0, .int a1, .int a2, d3, .ref a4, .int a5, .ref a6, .int a7, .int x1, d9], [], h) (by subst hx1; rfl) ?_
  refine eb_n 1 (617, [.ref a0, .int a1, .int a2, d3, .ref a4, .int a5, .ref a6, .int a7, .int x1, d9], [], h) (rfl) ?_
  exact hk617 _ _ _ _ _ _ _ _ _ _ _ e
set_option maxRecDepth 100000 in
set_option maxHeartbeats 4000000 in
theorem f_Sim_pass_b617_ev {h' : AH} (d : Nat) (hd : 2 ≤ d) (k486 : AH → Nat → Int32 → Int32 → Option AH) (k617 : AH → Nat → Int32 → Int32 → Nat → Int32 → Nat → Int32 → Int32 → Option AH) (hk486 : ∀ (h : AH) (a0 : Nat) (a1 : Int32) (a2 : Int32)  (d3 : Value) (d4 : Value) (d5 : Value) (d6 : Value) (d7 : Value) (d8 : Value) (d9 : Value), k486 h a0 a1 a2 = some h' → Eb (Ev tb mL d) 20 (486, [.ref a0, .int a1, .int a2, d3, d4, d5, d6, d7, d8, d9], [], h) h' none) (hk617 : ∀ (h : AH) (a0 : Nat) (a1 : Int32) (a2 : Int32) (a4 : Nat) (a5 : Int32) (a6 : Nat) (a7 : Int32) (a8 : Int32)  (d3 : Value) (d9 : Value), k617 h a0 a1 a2 a4 a5 a6 a7 a8 = some h' → Eb (Ev tb mL d) 20 (617, [.ref a0, .int a1, .int a2, d3, .ref a4, .int a5, .ref a6, .int a7, .int a8, d9], [], h) h' none)  (h : AH) (a0 : Nat) (a1 : Int32) (a2 : Int32) (a4 : Nat) (a5 : Int32) (a6 : Nat) (a7 : Int32) (a8 : Int32)  (d3 : Value) (d9 : Value) (e : f_Sim_pass_b617 k486 k617 h a0 a1 a2 a4 a5 a6 a7 a8 = some h') : Eb (Ev tb mL d) 20 (617, [.ref a0, .int a1, .int a2, d3, .ref a4, .int a5, .ref a6, .int a7, .int a8, d9], [], h) h' none := by
  unfold f_Sim_pass_b617 at e
  refine eb_n 2 (621, [.ref a0, .int a1, .int a2, d3, .ref a4, .int a5, .ref a6, .int a7, .int a8, d9], [.int a7, .int a8], h) (rfl) ?_
  refine eb_b (c := a7 ≤ a8) (663, [.ref a0, .int a1, .int a2, d3, .ref a4, .int a5, .ref a6, .int a7, .int a8, d9], [], h) (624, [.ref a0, .int a1, .int a2, d3, .ref a4, .int a5, .ref a6, .int a7, .int a8, d9], [], h) rfl (fun c1 => ?_) (fun c1 => ?_)
  · replace e := ite_t c1 e
    refine eb_n 1 (664, [.ref a0, .int a1, .int a2, d3, .ref a4, .int a5, .ref a6, .int a7, .int a8, d9], [.ref a0], h) (rfl) ?_
    obtain ⟨g2, e⟩ := gd_some e
    refine eb_g (p := hT h a0 = 13) (667, [.ref a0, .int a1, .int a2, d3, .ref a4, .int a5, .ref a6, .int a7, .int a8, d9], [.ref (hR h a0 14)], h) rfl g2 ?_
    refine eb_n 2 (670, [.ref a0, .int a1, .int a2, d3, .ref a4, .int a5, .ref a6, .int a7, .int a8, d9], [.ref a4, .int a2, .ref (hR h a0 14)], h) (rfl) ?_
    obtain ⟨g3, e⟩ := gd_some e
    obtain ⟨h4, eh4, e⟩ := lq_some e
    refine eb_g (p := hT h (hR h a0 14) = 110 ∧ inb a2 (hL h (hR h a0 14)) ∧ hT h a4 = 109) (671, [.ref a0, .int a1, .int a2, d3, .ref a4, .int a5, .ref a6, .int a7, .int a8, d9], [], h4) (by rw [eh4]; rfl) g3 ?_
    obtain ⟨x5, hx5, e⟩ := lq_some e
    refine eb_n 1 (674, [.ref a0, .int a1, .int x5, d3, .ref a4, .int a5, .ref a6, .int a7, .int a8, d9], [], h4) (by subst hx5; rfl) ?_
    refine eb_n 1 (486, [.ref a0, .int a1, .int x5, d3, .ref a4, .int a5, .ref a6, .int a7, .int a8, d9], [], h4) (rfl) ?_
    exact hk486 _ _ _ _ _ _ _ _ _ _ _ e
  · replace e := ite_f c1 e
    refine eb_n 2 (628, [.ref a0, .int a1, .int a2, d3, .ref a4, .int a5, .ref a6, .int a7, .int a8, d9], [.int a8, .ref a6], h) (rfl) ?_
    obtain ⟨g6, e⟩ := gd_some e
    refine eb_g (p := hT h a6 = 109 ∧ inb a8 (hL h a6)) (629, [.ref a0, .int a1, .int a2, d3, .ref a4, .int a5, .ref a6, .int a7, .int a8, d9], [.ref (hR h a6 (ix a8))], h) rfl g6 ?_
    obtain ⟨x7, hx7, e⟩ := lq_some e
    refine eb_n 1 (631, [.ref a0, .int a1, .int a2, d3, .ref a4, .int a5, .ref a6, .int a7, .int a8, .ref x7], [], h) (by subst hx7; rfl) ?_
    refine eb_n 2 (634, [.ref a0, .int a1, .int a2, d3, .ref a4, .int a5, .ref a6, .int a7, .int a8, .ref x7], [.int (nI 2), .ref x7], h) (rfl) ?_
    obtain ⟨g8, e⟩ := gd_some e
    refine eb_g (p := hT h x7 = 101 ∧ inb (nI 2) (hL h x7)) (635, [.ref a0, .int a1, .int a2, d3, .ref a4, .int a5, .ref a6, .int a7, .int a8, .ref x7], [.int (hI h x7 (ix (nI 2)))], h) rfl g8 ?_
    refine eb_n 3 (639, [.ref a0, .int a1, .int a2, d3, .ref a4, .int a5, .ref a6, .int a7, .int a8, .ref x7], [.int (nI 1), .ref x7, .int (nI 3), .int (hI h x7 (ix (nI 2)))], h) (rfl) ?_
    obtain ⟨g9, e⟩ := gd_some e
    refine eb_g (p := hT h x7 = 101 ∧ inb (nI 1) (hL h x7)) (640, [.ref a0, .int a1, .int a2, d3, .ref a4, .int a5, .ref a6, .int a7, .int a8, .ref x7], [.int (hI h x7 (ix (nI 1))), .int (nI 3), .int (hI h x7 (ix (nI 2)))], h) rfl g9 ?_
    refine eb_n 1 (641, [.ref a0, .int a1, .int a2, d3, .ref a4, .int a5, .ref a6, .int a7, .int a8, .ref x7], [.int ((nI 3) * (hI h x7 (ix (nI 1)))), .int (hI h x7 (ix (nI 2)))], h) (rfl) ?_
    refine eb_b (c := (hI h x7 (ix (nI 2))) < ((nI 3) * (hI h x7 (ix (nI 1))))) (647, [.ref a0, .int a1, .int a2, d3, .ref a4, .int a5, .ref a6, .int a7, .int a8, .ref x7], [], h) (644, [.ref a0, .int a1, .int a2, d3, .ref a4, .int a5, .ref a6, .int a7, .int a8, .ref x7], [], h) rfl (fun c10 => ?_) (fun c10 => ?_)
    · replace e := ite_t c10 e
      refine eb_n 3 (653, [.ref a0, .int a1, .int a2, d3, .ref a4, .int a5, .ref a6, .int a7, .int a8, .ref x7], [.ref x7, .int a5, .ref a4], h) (rfl) ?_
      obtain ⟨g11, e⟩ := gd_some e
      obtain ⟨h12, eh12, e⟩ := lq_some e
      refine eb_g (p := hT h a4 = 109 ∧ inb a5 (hL h a4) ∧ hT h x7 = 101) (654, [.ref a0, .int a1, .int a2, d3, .ref a4, .int a5, .ref a6, .int a7, .int a8, .ref x7], [], h12) (by rw [eh12]; rfl) g11 ?_
      obtain ⟨x13, hx13, e⟩ := lq_some e
      refine eb_n 1 (657, [.ref a0, .int a1, .int a2, d3, .ref a4, .int x13, .ref a6, .int a7, .int a8, .ref x7], [], h12) (by subst hx13; rfl) ?_
      exact f_Sim_pass_b657_ev d hd k486 k617 hk486 hk617 _ _ _ _ _ _ _ _ _ _ _ e
    · replace e := ite_f c10 e
      refine eb_n 1 (657, [.ref a0, .int a1, .int a2, d3, .ref a4, .int a5, .ref a6, .int a7, .int a8, .ref x7], [], h) (rfl) ?_
      exact f_Sim_pass_b657_ev d hd k486 k617 hk486 hk617 _ _ _ _ _ _ _ _ _ _ _ e
set_option maxRecDepth 100000 in
set_option maxHeartbeats 4000000 in
theorem f_Sim_pass_l617_ev {h' : AH} (d : Nat) (hd : 2 ≤ d) (k486 : AH → Nat → Int32 → Int32 → Option AH) (hk486 : ∀ (h : AH) (a0 : Nat) (a1 : Int32) (a2 : Int32)  (d3 : Value) (d4 : Value) (d5 : Value) (d6 : Value) (d7 : Value) (d8 : Value) (d9 : Value), k486 h a0 a1 a2 = some h' → Eb (Ev tb mL d) 20 (486, [.ref a0, .int a1, .int a2, d3, d4, d5, d6, d7, d8, d9], [], h) h' none)  : ∀ (n : Nat) (h : AH) (a0 : Nat) (a1 : Int32) (a2 : Int32) (a4 : Nat) (a5 : Int32) (a6 : Nat) (a7 : Int32) (a8 : Int32)  (d3 : Value) (d9 : Value) (_ : f_Sim_pass_l617 k486 n h a0 a1 a2 a4 a5 a6 a7 a8 = some h'), Eb (Ev tb mL d) 20 (617, [.ref a0, .int a1, .int a2, d3, .ref a4, .int a5, .ref a6, .int a7, .int a8, d9], [], h) h' none := by
  intro n
  induction n with
  | zero => intro h a0 a1 a2 a4 a5 a6 a7 a8 d3 d9 e; exact nomatch e
  | succ n ih =>
    intro h a0 a1 a2 a4 a5 a6 a7 a8 d3 d9 e
    exact f_Sim_pass_b617_ev d hd k486 _ hk486 (fun h a0 a1 a2 a4 a5 a6 a7 a8 d3 d9 e => ih h a0 a1 a2 a4 a5 a6 a7 a8 d3 d9 e) h a0 a1 a2 a4 a5 a6 a7 a8 d3 d9 e
set_option maxRecDepth 100000 in
set_option maxHeartbeats 4000000 in
theorem f_Sim_pass_b586_ev {h' : AH} (d : Nat) (hd : 2 ≤ d) (k486 : AH → Nat → Int32 → Int32 → Option AH) (k513 : AH → Nat → Int32 → Int32 → Int32 → Nat → Int32 → Int32 → Option AH) (hk486 : ∀ (h : AH) (a0 : Nat) (a1 : Int32) (a2 : Int32)  (d3 : Value) (d4 : Value) (d5 : Value) (d6 : Value) (d7 : Value) (d8 : Value) (d9 : Value), k486 h a0 a1 a2 = some h' → Eb (Ev tb mL d) 20 (486, [.ref a0, .int a1, .int a2, d3, d4, d5, d6, d7, d8, d9], [], h) h' none) (hk513 : ∀ (h : AH) (a0 : Nat) (a1 : Int32) (a2 : Int32) (a3 : Int32) (a4 : Nat) (a5 : Int32) (a6 : Int32)  (d7 : Value) (d8 : Value) (d9 : Value), k513 h a0 a1 a2 a3 a4 a5 a6 = some h' → Eb (Ev tb mL d) 20 (513, [.ref a0, .int a1, .int a2, .int a3, .ref a4, .int a5, .int a6, d7, d8, d9], [], h) h' none)  (h : AH) (a0 : Nat) (a1 : Int32) (a2 : Int32) (a3 : Int32) (a4 : Nat) (a5 : Int32) (a6 : Int32)  (d7 : Value) (d8 : Value) (d9 : Value) (e : f_Sim_pass_b586 k486 k513 h a0 a1 a2 a3 a4 a5 a6 = some h') : Eb (Ev tb mL d) 20 (586, [.ref a0, .int a1, .int a2, .int a3, .ref a4, .int a5, .int a6, d7, d8, d9], [], h) h' none := by
  unfold f_Sim_pass_b586 at e
  obtain ⟨x1, hx1, e⟩ := lq_some e
  refine eb_n 1 (589, [.ref a0, .int a1, .int a2, .int a3, .ref a4, .int a5, .int x1, d7, d8, d9], [], h) (by subst hx1; rfl) ?_
  refine eb_n 1 (513, [.ref a0, .int a1, .int a2, .int a3, .ref a4, .int a5, .int x1, d7, d8, d9], [], h) (rfl) ?_
  exact hk513 _ _ _ _ _ _ _ _ _ _ _ e
set_option maxRecDepth 100000 in
set_option maxHeartbeats 4000000 in
theorem f_Sim_pass_b550_ev {h' : AH} (d : Nat) (hd : 2 ≤ d) (k486 : AH → Nat → Int32 → Int32 → Option AH) (k513 : AH → Nat → Int32 → Int32 → Int32 → Nat → Int32 → Int32 → Option AH) (hk486 : ∀ (h : AH) (a0 : Nat) (a1 : Int32) (a2 : Int32)  (d3 : Value) (d4 : Value) (d5 : Value) (d6 : Value) (d7 : Value) (d8 : Value) (d9 : Value), k486 h a0 a1 a2 = some h' → Eb (Ev tb mL d) 20 (486, [.ref a0, .int a1, .int a2, d3, d4, d5, d6, d7, d8, d9], [], h) h' none) (hk513 : ∀ (h : AH) (a0 : Nat) (a1 : Int32) (a2 : Int32) (a3 : Int32) (a4 : Nat) (a5 : Int32) (a6 : Int32)  (d7 : Value) (d8 : Value) (d9 : Value), k513 h a0 a1 a2 a3 a4 a5 a6 = some h' → Eb (Ev tb mL d) 20 (513, [.ref a0, .int a1, .int a2, .int a3, .ref a4, .int a5, .int a6, d7, d8, d9], [], h) h' none)  (h : AH) (a0 : Nat) (a1 : Int32) (a2 : Int32) (a3 : Int32) (a4 : Nat) (a5 : Int32) (a6 : Int32) (a7 : Nat)  (d8 : Value) (d9 : Value) (e : f_Sim_pass_b550 k486 k513 h a0 a1 a2 a3 a4 a5 a6 a7 = some h') : Eb (Ev tb mL d) 20 (550, [.ref a0, .int a1, .int a2, .int a3, .ref a4, .int a5, .int a6, .ref a7, d8, d9], [], h) h' none := by
  unfold f_Sim_pass_b550 at e
  refine eb_n 2 (553, [.ref a0, .int a1, .int a2, .int a3, .ref a4, .int a5, .int a6, .ref a7, d8, d9], [.int (nI 2), .ref a7], h) (rfl) ?_
  obtain ⟨g1, e⟩ := gd_some e
  refine eb_g (p := hT h a7 = 101 ∧ inb (nI 2) (hL h a7)) (554, [.ref a0, .int a1, .int a2, .int a3, .ref a4, .int a5, .int a6, .ref a7, d8, d9], [.int (hI h a7 (ix (nI 2)))], h) rfl g1 ?_
  refine eb_n 3 (558, [.ref a0, .int a1, .int a2, .int a3, .ref a4, .int a5, .int a6, .ref a7, d8, d9], [.int (nI 1), .ref a7, .int (nI 3), .int (hI h a7 (ix (nI 2)))], h) (rfl) ?_
  obtain ⟨g2, e⟩ := gd_some e
  refine eb_g (p := hT h a7 = 101 ∧ inb (nI 1) (hL h a7)) (559, [.ref a0, .int a1, .int a2, .int a3, .ref a4, .int a5, .int a6, .ref a7, d8, d9], [.int (hI h a7 (ix (nI 1))), .int (nI 3), .int (hI h a7 (ix (nI 2)))], h) rfl g2 ?_
  refine eb_n 1 (560, [.ref a0, .int a1, .int a2, .int a3, .ref a4, .int a5, .int a6, .ref a7, d8, d9], [.int ((nI 3) * (hI h a7 (ix (nI 1)))), .int (hI h a7 (ix (nI 2)))], h) (rfl) ?_
  refine eb_b (c := (hI h a7 (ix (nI 2))) < ((nI 3) * (hI h a7 (ix (nI 1))))) (583, [.ref a0, .int a1, .int a2, .int a3, .ref a4, .int a5, .int a6, .ref a7, d8, d9], [], h) (563, [.ref a0, .int a1, .int a2, .int a3, .ref a4, .int a5, .int a6, .ref a7, d8, d9], [], h) rfl (fun c3 => ?_) (fun c3 => ?_)
  · replace e := ite_t c3 e
    obtain ⟨x4, hx4, e⟩ := lq_some e
    refine eb_n 1 (586, [.ref a0, .int a1, .int a2, .int x4, .ref a4, .int a5, .int a6, .ref a7, d8, d9], [], h) (by subst hx4; rfl) ?_
    exact f_Sim_pass_b586_ev d hd k486 k513 hk486 hk513 _ _ _ _ _ _ _ _ _ _ _ e
  · replace e := ite_f c3 e
    refine eb_n 1 (564, [.ref a0, .int a1, .int a2, .int a3, .ref a4, .int a5, .int a6, .ref a7, d8, d9], [.ref a0], h) (rfl) ?_
    obtain ⟨g5, e⟩ := gd_some e
    refine eb_g (p := hT h a0 = 13) (567, [.ref a0, .int a1, .int a2, .int a3, .ref a4, .int a5, .int a6, .ref a7, d8, d9], [.ref (hR h a0 9)], h) rfl g5 ?_
    refine eb_n 1 (569, [.ref a0, .int a1, .int a2, .int a3, .ref a4, .int a5, .int a6, .ref a7, d8, d9], [.ref a7, .ref (hR h a0 9)], h) (rfl) ?_
    obtain ⟨h6, r7, eh6, e⟩ := bn_some e
    refine eb_c rfl (f_Sim_grade_ev d (Nat.le_trans (by decide) hd) eh6) ?_
    show Eb _ 20 (572, [.ref a0, .int a1, .int a2, .int a3, .ref a4, .int a5, .int a6, .ref a7, d8, d9], [.int r7, .ref (hR h a0 9)], h6) _ _
    refine eb_n 1 (573, [.ref a0, .int a1, .int a2, .int a3, .ref a4, .int a5, .int a6, .ref a7, d8, d9], [.int r7, .ref (hR h a0 9), .int r7, .ref (hR h a0 9)], h6) (rfl) ?_
    obtain ⟨g8, e⟩ := gd_some e
    refine eb_g (p := hT h6 (hR h a0 9) = 101 ∧ inb r7 (hL h6 (hR h a0 9))) (574, [.ref a0, .int a1, .int a2, .int a3, .ref a4, .int a5, .int a6, .ref a7, d8, d9], [.int (hI h6 (hR h a0 9) (ix r7)), .int r7, .ref (hR h a0 9)], h6) rfl g8 ?_
    refine eb_n 2 (577, [.ref a0, .int a1, .int a2, .int a3, .ref a4, .int a5, .int a6, .ref a7, d8, d9], [.int (nI 0), .ref a7, .int (hI h6 (hR h a0 9) (ix r7)), .int r7, .ref (hR h a0 9)], h6) (rfl) ?_
    obtain ⟨g9, e⟩ := gd_some e
    refine eb_g (p := hT h6 a7 = 101 ∧ inb (nI 0) (hL h6 a7)) (578, [.ref a0, .int a1, .int a2, .int a3, .ref a4, .int a5, .int a6, .ref a7, d8, d9], [.int (hI h6 a7 (ix (nI 0))), .int (hI h6 (hR h a0 9) (ix r7)), .int r7, .ref (hR h a0 9)], h6) rfl g9 ?_
    refine eb_n 1 (579, [.ref a0, .int a1, .int a2, .int a3, .ref a4, .int a5, .int a6, .ref a7, d8, d9], [.int ((hI h6 (hR h a0 9) (ix r7)) + (hI h6 a7 (ix (nI 0)))), .int r7, .ref (hR h a0 9)], h6) (rfl) ?_
    obtain ⟨h10, eh10, e⟩ := lq_some e
    refine eb_g (p := hT h6 (hR h a0 9) = 101 ∧ inb r7 (hL h6 (hR h a0 9))) (580, [.ref a0, .int a1, .int a2, .int a3, .ref a4, .int a5, .int a6, .ref a7, d8, d9], [], h10) (by rw [eh10]; rfl) g8 ?_
    refine eb_n 1 (586, [.ref a0, .int a1, .int a2, .int a3, .ref a4, .int a5, .int a6, .ref a7, d8, d9], [], h10) (rfl) ?_
    exact f_Sim_pass_b586_ev d hd k486 k513 hk486 hk513 _ _ _ _ _ _ _ _ _ _ _ e
set_option maxRecDepth 100000 in
set_option maxHeartbeats 4000000 in
theorem f_Sim_pass_b513_ev {h' : AH} (d : Nat) (hd : 2 ≤ d) (k486 : AH → Nat → Int32 → Int32 → Option AH) (k513 : AH → Nat → Int32 → Int32 → Int32 → Nat → Int32 → Int32 → Option AH) (hk486 : ∀ (h : AH) (a0 : Nat) (a1 : Int32) (a2 : Int32)  (d3 : Value) (d4 : Value) (d5 : Value) (d6 : Value) (d7 : Value) (d8 : Value) (d9 : Value), k486 h a0 a1 a2 = some h' → Eb (Ev tb mL d) 20 (486, [.ref a0, .int a1, .int a2, d3, d4, d5, d6, d7, d8, d9], [], h) h' none) (hk513 : ∀ (h : AH) (a0 : Nat) (a1 : Int32) (a2 : Int32) (a3 : Int32) (a4 : Nat) (a5 : Int32) (a6 : Int32)  (d7 : Value) (d8 : Value) (d9 : Value), k513 h a0 a1 a2 a3 a4 a5 a6 = some h' → Eb (Ev tb mL d) 20 (513, [.ref a0, .int a1, .int a2, .int a3, .ref a4, .int a5, .int a6, d7, d8, d9], [], h) h' none)  (h : AH) (a0 : Nat) (a1 : Int32) (a2 : Int32) (a3 : Int32) (a4 : Nat) (a5 : Int32) (a6 : Int32)  (d7 : Value) (d8 : Value) (d9 : Value) (e : f_Sim_pass_b513 k486 k513 h a0 a1 a2 a3 a4 a5 a6 = some h') : Eb (Ev tb mL d) 20 (513, [.ref a0, .int a1, .int a2, .int a3, .ref a4, .int a5, .int a6, d7, d8, d9], [], h) h' none := by
  unfold f_Sim_pass_b513 at e
  refine eb_n 2 (517, [.ref a0, .int a1, .int a2, .int a3, .ref a4, .int a5, .int a6, d7, d8, d9], [.int a5, .int a6], h) (rfl) ?_
  refine eb_b (c := a5 ≤ a6) (592, [.ref a0, .int a1, .int a2, .int a3, .ref a4, .int a5, .int a6, d7, d8, d9], [], h) (520, [.ref a0, .int a1, .int a2, .int a3, .ref a4, .int a5, .int a6, d7, d8, d9], [], h) rfl (fun c1 => ?_) (fun c1 => ?_)
  · replace e := ite_t c1 e
    refine eb_n 1 (593, [.ref a0, .int a1, .int a2, .int a3, .ref a4, .int a5, .int a6, d7, d8, d9], [.int a3], h) (rfl) ?_
    obtain ⟨g2, e⟩ := gd_some e
    obtain ⟨h3, eh3, e⟩ := lq_some e
    refine eb_g (p := ¬ a3 < 0 ∧ ix a3 ≤ 65536) (596, [.ref a0, .int a1, .int a2, .int a3, .ref a4, .int a5, .int a6, d7, d8, d9], [.ref (hN h)], h3) (by rw [eh3]; rfl) g2 ?_
    obtain ⟨x4, hx4, e⟩ := lq_some e
    refine eb_n 1 (598, [.ref a0, .int a1, .int a2, .int a3, .ref x4, .int a5, .int a6, d7, d8, d9], [], h3) (by subst hx4; rfl) ?_
    refine eb_n 3 (602, [.ref a0, .int a1, .int a2, .int a3, .ref x4, .int (nI 0), .int a6, d7, d8, d9], [.ref a0], h3) (rfl) ?_
    obtain ⟨g5, e⟩ := gd_some e
    refine eb_g (p := hT h3 a0 = 13) (605, [.ref a0, .int a1, .int a2, .int a3, .ref x4, .int (nI 0), .int a6, d7, d8, d9], [.ref (hR h3 a0 14)], h3) rfl g5 ?_
    refine eb_n 1 (606, [.ref a0, .int a1, .int a2, .int a3, .ref x4, .int (nI 0), .int a6, d7, d8, d9], [.int a2, .ref (hR h3 a0 14)], h3) (rfl) ?_
    obtain ⟨g6, e⟩ := gd_some e
    refine eb_g (p := hT h3 (hR h3 a0 14) = 110 ∧ inb a2 (hL h3 (hR h3 a0 14))) (607, [.ref a0, .int a1, .int a2, .int a3, .ref x4, .int (nI 0), .int a6, d7, d8, d9], [.ref (hR h3 (hR h3 a0 14) (ix a2))], h3) rfl g6 ?_
    obtain ⟨x7, hx7, e⟩ := lq_some e
    refine eb_n 1 (609, [.ref a0, .int a1, .int a2, .int a3, .ref x4, .int (nI 0), .ref x7, d7, d8, d9], [], h3) (by subst hx7; rfl) ?_
    refine eb_n 1 (611, [.ref a0, .int a1, .int a2, .int a3, .ref x4, .int (nI 0), .ref x7, d7, d8, d9], [.ref x7], h3) (rfl) ?_
    obtain ⟨g8, e⟩ := gd_some e
    refine eb_g (p := hT h3 x7 = 109) (612, [.ref a0, .int a1, .int a2, .int a3, .ref x4, .int (nI 0), .ref x7, d7, d8, d9], [.int (nI (hL h3 x7))], h3) rfl g8 ?_
    obtain ⟨x9, hx9, e⟩ := lq_some e
    refine eb_n 1 (614, [.ref a0, .int a1, .int a2, .int a3, .ref x4, .int (nI 0), .ref x7, .int x9, d8, d9], [], h3) (by subst hx9; rfl) ?_
    refine eb_n 2 (617, [.ref a0, .int a1, .int a2, .int a3, .ref x4, .int (nI 0), .ref x7, .int x9, .int (nI 0), d9], [], h3) (rfl) ?_
    exact f_Sim_pass_l617_ev d hd k486 hk486 FU _ _ _ _ _ _ _ _ _ _ _ e
  · replace e := ite_f c1 e
    refine eb_n 2 (524, [.ref a0, .int a1, .int a2, .int a3, .ref a4, .int a5, .int a6, d7, d8, d9], [.int a6, .ref a4], h) (rfl) ?_
    obtain ⟨g10, e⟩ := gd_some e
    refine eb_g (p := hT h a4 = 109 ∧ inb a6 (hL h a4)) (525, [.ref a0, .int a1, .int a2, .int a3, .ref a4, .int a5, .int a6, d7, d8, d9], [.ref (hR h a4 (ix a6))], h) rfl g10 ?_
    obtain ⟨x11, hx11, e⟩ := lq_some e
    refine eb_n 1 (527, [.ref a0, .int a1, .int a2, .int a3, .ref a4, .int a5, .int a6, .ref x11, d8, d9], [], h) (by subst hx11; rfl) ?_
    refine eb_n 1 (528, [.ref a0, .int a1, .int a2, .int a3, .ref a4, .int a5, .int a6, .ref x11, d8, d9], [.int a1], h) (rfl) ?_
    refine eb_b (c := ¬ a1 = 0) (542, [.ref a0, .int a1, .int a2, .int a3, .ref a4, .int a5, .int a6, .ref x11, d8, d9], [], h) (531, [.ref a0, .int a1, .int a2, .int a3, .ref a4, .int a5, .int a6, .ref x11, d8, d9], [], h) rfl (fun c12 => ?_) (fun c12 => ?_)
    · replace e := ite_t c12 e
      refine eb_n 3 (546, [.ref a0, .int a1, .int a2, .int a3, .ref a4, .int a5, .int a6, .ref x11, d8, d9], [.int (nI 2), .ref x11, .int (nI 2), .ref x11], h) (rfl) ?_
      obtain ⟨g13, e⟩ := gd_some e
      refine eb_g (p := hT h x11 = 101 ∧ inb (nI 2) (hL h x11)) (547, [.ref a0, .int a1, .int a2, .int a3, .ref a4, .int a5, .int a6, .ref x11, d8, d9], [.int (hI h x11 (ix (nI 2))), .int (nI 2), .ref x11], h) rfl g13 ?_
      refine eb_n 2 (549, [.ref a0, .int a1, .int a2, .int a3, .ref a4, .int a5, .int a6, .ref x11, d8, d9], [.int ((hI h x11 (ix (nI 2))) + a1), .int (nI 2), .ref x11], h) (rfl) ?_
      obtain ⟨h14, eh14, e⟩ := lq_some e
      refine eb_g (p := hT h x11 = 101 ∧ inb (nI 2) (hL h x11)) (550, [.ref a0, .int a1, .int a2, .int a3, .ref a4, .int a5, .int a6, .ref x11, d8, d9], [], h14) (by rw [eh14]; rfl) g13 ?_
      exact f_Sim_pass_b550_ev d hd k486 k513 hk486 hk513 _ _ _ _ _ _ _ _ _ _ _ e
    · replace e := ite_f c12 e
      refine eb_n 3 (535, [.ref a0, .int a1, .int a2, .int a3, .ref a4, .int a5, .int a6, .ref x11, d8, d9], [.int (nI 3), .ref x11, .int (nI 3), .ref x11], h) (rfl) ?_
      obtain ⟨g15, e⟩ := gd_some e
      refine eb_g (p := hT h x11 = 101 ∧ inb (nI 3) (hL h x11)) (536, [.ref a0, .int a1, .int a2, .int a3, .ref a4, .int a5, .int a6, .ref x11, d8, d9], [.int (hI h x11 (ix (nI 3))), .int (nI 3), .ref x11], h) rfl g15 ?_
      refine eb_n 2 (538, [.ref a0, .int a1, .int a2, .int a3, .ref a4, .int a5, .int a6, .ref x11, d8, d9], [.int ((hI h x11 (ix (nI 3))) + (nI 1)), .int (nI 3), .ref x11], h) (rfl) ?_
      obtain ⟨h16, eh16, e⟩ := lq_some e
      refine eb_g (p := hT h x11 = 101 ∧ inb (nI 3) (hL h x11)) (539, [.ref a0, .int a1, .int a2, .int a3, .ref a4, .int a5, .int a6, .ref x11, d8, d9], [], h16) (by rw [eh16]; rfl) g15 ?_
      refine eb_n 1 (550, [.ref a0, .int a1, .int a2, .int a3, .ref a4, .int a5, .int a6, .ref x11, d8, d9], [], h16) (rfl) ?_
      exact f_Sim_pass_b550_ev d hd k486 k513 hk486 hk513 _ _ _ _ _ _ _ _ _ _ _ e
set_option maxRecDepth 100000 in
set_option maxHeartbeats 4000000 in
theorem f_Sim_pass_l513_ev {h' : AH} (d : Nat) (hd : 2 ≤ d) (k486 : AH → Nat → Int32 → Int32 → Option AH) (hk486 : ∀ (h : AH) (a0 : Nat) (a1 : Int32) (a2 : Int32)  (d3 : Value) (d4 : Value) (d5 : Value) (d6 : Value) (d7 : Value) (d8 : Value) (d9 : Value), k486 h a0 a1 a2 = some h' → Eb (Ev tb mL d) 20 (486, [.ref a0, .int a1, .int a2, d3, d4, d5, d6, d7, d8, d9], [], h) h' none)  : ∀ (n : Nat) (h : AH) (a0 : Nat) (a1 : Int32) (a2 : Int32) (a3 : Int32) (a4 : Nat) (a5 : Int32) (a6 : Int32)  (d7 : Value) (d8 : Value) (d9 : Value) (_ : f_Sim_pass_l513 k486 n h a0 a1 a2 a3 a4 a5 a6 = some h'), Eb (Ev tb mL d) 20 (513, [.ref a0, .int a1, .int a2, .int a3, .ref a4, .int a5, .int a6, d7, d8, d9], [], h) h' none := by
  intro n
  induction n with
  | zero => intro h a0 a1 a2 a3 a4 a5 a6 d7 d8 d9 e; exact nomatch e
  | succ n ih =>
    intro h a0 a1 a2 a3 a4 a5 a6 d7 d8 d9 e
    exact f_Sim_pass_b513_ev d hd k486 _ hk486 (fun h a0 a1 a2 a3 a4 a5 a6 d7 d8 d9 e => ih h a0 a1 a2 a3 a4 a5 a6 d7 d8 d9 e) h a0 a1 a2 a3 a4 a5 a6 d7 d8 d9 e
set_option maxRecDepth 100000 in
set_option maxHeartbeats 4000000 in
theorem f_Sim_pass_b486_ev {h' : AH} (d : Nat) (hd : 2 ≤ d) (k486 : AH → Nat → Int32 → Int32 → Option AH) (hk486 : ∀ (h : AH) (a0 : Nat) (a1 : Int32) (a2 : Int32)  (d3 : Value) (d4 : Value) (d5 : Value) (d6 : Value) (d7 : Value) (d8 : Value) (d9 : Value), k486 h a0 a1 a2 = some h' → Eb (Ev tb mL d) 20 (486, [.ref a0, .int a1, .int a2, d3, d4, d5, d6, d7, d8, d9], [], h) h' none)  (h : AH) (a0 : Nat) (a1 : Int32) (a2 : Int32)  (d3 : Value) (d4 : Value) (d5 : Value) (d6 : Value) (d7 : Value) (d8 : Value) (d9 : Value) (e : f_Sim_pass_b486 k486 h a0 a1 a2 = some h') : Eb (Ev tb mL d) 20 (486, [.ref a0, .int a1, .int a2, d3, d4, d5, d6, d7, d8, d9], [], h) h' none := by
  unfold f_Sim_pass_b486 at e
  refine eb_n 2 (488, [.ref a0, .int a1, .int a2, d3, d4, d5, d6, d7, d8, d9], [.ref a0, .int a2], h) (rfl) ?_
  obtain ⟨g1, e⟩ := gd_some e
  refine eb_g (p := hT h a0 = 13) (491, [.ref a0, .int a1, .int a2, d3, d4, d5, d6, d7, d8, d9], [.ref (hR h a0 14), .int a2], h) rfl g1 ?_
  obtain ⟨g2, e⟩ := gd_some e
  refine eb_g (p := hT h (hR h a0 14) = 110) (492, [.ref a0, .int a1, .int a2, d3, d4, d5, d6, d7, d8, d9], [.int (nI (hL h (hR h a0 14))), .int a2], h) rfl g2 ?_
  refine eb_b (c := (nI (hL h (hR h a0 14))) ≤ a2) (677, [.ref a0, .int a1, .int a2, d3, d4, d5, d6, d7, d8, d9], [], h) (495, [.ref a0, .int a1, .int a2, d3, d4, d5, d6, d7, d8, d9], [], h) rfl (fun c3 => ?_) (fun c3 => ?_)
  · replace e := ite_t c3 e
    refine eb_n 1 (678, [.ref a0, .int a1, .int a2, d3, d4, d5, d6, d7, d8, d9], [.ref a0], h) (rfl) ?_
    refine eb_g (p := hT h a0 = 13) (681, [.ref a0, .int a1, .int a2, d3, d4, d5, d6, d7, d8, d9], [.ref (hR h a0 16)], h) rfl g1 ?_
    obtain ⟨x4, hx4, e⟩ := lq_some e
    refine eb_n 1 (682, [.ref a0, .int a1, .ref x4, d3, d4, d5, d6, d7, d8, d9], [], h) (by subst hx4; rfl) ?_
    refine eb_n 1 (683, [.ref a0, .int a1, .ref x4, d3, d4, d5, d6, d7, d8, d9], [.ref x4], h) (rfl) ?_
    obtain ⟨g5, e⟩ := gd_some e
    refine eb_g (p := hT h x4 = 109) (684, [.ref a0, .int a1, .ref x4, d3, d4, d5, d6, d7, d8, d9], [.int (nI (hL h x4))], h) rfl g5 ?_
    obtain ⟨x6, hx6, e⟩ := lq_some e
    refine eb_n 1 (685, [.ref a0, .int a1, .ref x4, .int x6, d4, d5, d6, d7, d8, d9], [], h) (by subst hx6; rfl) ?_
    refine eb_n 2 (688, [.ref a0, .int a1, .ref x4, .int x6, .int (nI 0), d5, d6, d7, d8, d9], [], h) (rfl) ?_
    exact f_Sim_pass_l688_ev d hd   FU _ _ _ _ _ _ _ _ _ _ _ e
  · replace e := ite_f c3 e
    refine eb_n 3 (498, [.ref a0, .int a1, .int a2, .int (nI 0), d4, d5, d6, d7, d8, d9], [.ref a0], h) (rfl) ?_
    refine eb_g (p := hT h a0 = 13) (501, [.ref a0, .int a1, .int a2, .int (nI 0), d4, d5, d6, d7, d8, d9], [.ref (hR h a0 14)], h) rfl g1 ?_
    refine eb_n 1 (502, [.ref a0, .int a1, .int a2, .int (nI 0), d4, d5, d6, d7, d8, d9], [.int a2, .ref (hR h a0 14)], h) (rfl) ?_
    obtain ⟨g7, e⟩ := gd_some e
    refine eb_g (p := hT h (hR h a0 14) = 110 ∧ inb a2 (hL h (hR h a0 14))) (503, [.ref a0, .int a1, .int a2, .int (nI 0), d4, d5, d6, d7, d8, d9], [.ref (hR h (hR h a0 14) (ix a2))], h) rfl g7 ?_
    obtain ⟨x8, hx8, e⟩ := lq_some e
    refine eb_n 1 (505, [.ref a0, .int a1, .int a2, .int (nI 0), .ref x8, d5, d6, d7, d8, d9], [], h) (by subst hx8; rfl) ?_
    refine eb_n 1 (507, [.ref a0, .int a1, .int a2, .int (nI 0), .ref x8, d5, d6, d7, d8, d9], [.ref x8], h) (rfl) ?_
    obtain ⟨g9, e⟩ := gd_some e
    refine eb_g (p := hT h x8 = 109) (508, [.ref a0, .int a1, .int a2, .int (nI 0), .ref x8, d5, d6, d7, d8, d9], [.int (nI (hL h x8))], h) rfl g9 ?_
    obtain ⟨x10, hx10, e⟩ := lq_some e
    refine eb_n 1 (510, [.ref a0, .int a1, .int a2, .int (nI 0), .ref x8, .int x10, d6, d7, d8, d9], [], h) (by subst hx10; rfl) ?_
    refine eb_n 2 (513, [.ref a0, .int a1, .int a2, .int (nI 0), .ref x8, .int x10, .int (nI 0), d7, d8, d9], [], h) (rfl) ?_
    exact f_Sim_pass_l513_ev d hd k486 hk486 FU _ _ _ _ _ _ _ _ _ _ _ e
set_option maxRecDepth 100000 in
set_option maxHeartbeats 4000000 in
theorem f_Sim_pass_l486_ev {h' : AH} (d : Nat) (hd : 2 ≤ d)  : ∀ (n : Nat) (h : AH) (a0 : Nat) (a1 : Int32) (a2 : Int32)  (d3 : Value) (d4 : Value) (d5 : Value) (d6 : Value) (d7 : Value) (d8 : Value) (d9 : Value) (_ : f_Sim_pass_l486  n h a0 a1 a2 = some h'), Eb (Ev tb mL d) 20 (486, [.ref a0, .int a1, .int a2, d3, d4, d5, d6, d7, d8, d9], [], h) h' none := by
  intro n
  induction n with
  | zero => intro h a0 a1 a2 d3 d4 d5 d6 d7 d8 d9 e; exact nomatch e
  | succ n ih =>
    intro h a0 a1 a2 d3 d4 d5 d6 d7 d8 d9 e
    exact f_Sim_pass_b486_ev d hd _ (fun h a0 a1 a2 d3 d4 d5 d6 d7 d8 d9 e => ih h a0 a1 a2 d3 d4 d5 d6 d7 d8 d9 e) h a0 a1 a2 d3 d4 d5 d6 d7 d8 d9 e
set_option maxRecDepth 100000 in
set_option maxHeartbeats 4000000 in
theorem f_Sim_pass_b465_ev {h' : AH} (d : Nat) (hd : 2 ≤ d) (k235 : AH → Nat → Nat → Int32 → Int32 → Option AH) (hk235 : ∀ (h : AH) (a0 : Nat) (a1 : Nat) (a2 : Int32) (a3 : Int32)  (d4 : Value) (d5 : Value) (d6 : Value) (d7 : Value) (d8 : Value) (d9 : Value), k235 h a0 a1 a2 a3 = some h' → Eb (Ev tb mL d) 20 (235, [.ref a0, .ref a1, .int a2, .int a3, d4, d5, d6, d7, d8, d9], [], h) h' none)  (h : AH) (a0 : Nat) (a1 : Nat) (a2 : Int32) (a3 : Int32)  (d4 : Value) (d5 : Value) (d6 : Value) (d7 : Value) (d8 : Value) (d9 : Value) (e : f_Sim_pass_b465 k235 h a0 a1 a2 a3 = some h') : Eb (Ev tb mL d) 20 (465, [.ref a0, .ref a1, .int a2, .int a3, d4, d5, d6, d7, d8, d9], [], h) h' none := by
  unfold f_Sim_pass_b465 at e
  obtain ⟨x1, hx1, e⟩ := lq_some e
  refine eb_n 1 (468, [.ref a0, .ref a1, .int a2, .int x1, d4, d5, d6, d7, d8, d9], [], h) (by subst hx1; rfl) ?_
  refine eb_n 1 (235, [.ref a0, .ref a1, .int a2, .int x1, d4, d5, d6, d7, d8, d9], [], h) (rfl) ?_
  exact hk235 _ _ _ _ _ _ _ _ _ _ _ e
set_option maxRecDepth 100000 in
set_option maxHeartbeats 4000000 in
theorem f_Sim_pass_b366_ev {h' : AH} (d : Nat) (hd : 2 ≤ d) (k235 : AH → Nat → Nat → Int32 → Int32 → Option AH) (k366 : AH → Nat → Nat → Int32 → Int32 → Nat → Int32 → Nat → Nat → Int32 → Option AH) (hk235 : ∀ (h : AH) (a0 : Nat) (a1 : Nat) (a2 : Int32) (a3 : Int32)  (d4 : Value) (d5 : Value) (d6 : Value) (d7 : Value) (d8 : Value) (d9 : Value), k235 h a0 a1 a2 a3 = some h' → Eb (Ev tb mL d) 20 (235, [.ref a0, .ref a1, .int a2, .int a3, d4, d5, d6, d7, d8, d9], [], h) h' none) (hk366 : ∀ (h : AH) (a0 : Nat) (a1 : Nat) (a2 : Int32) (a3 : Int32) (a4 : Nat) (a5 : Int32) (a6 : Nat) (a7 : Nat) (a8 : Int32)  (d9 : Value), k366 h a0 a1 a2 a3 a4 a5 a6 a7 a8 = some h' → Eb (Ev tb mL d) 20 (366, [.ref a0, .ref a1, .int a2, .int a3, .ref a4, .int a5, .ref a6, .ref a7, .int a8, d9], [], h) h' none)  (h : AH) (a0 : Nat) (a1 : Nat) (a2 : Int32) (a3 : Int32) (a4 : Nat) (a5 : Int32) (a6 : Nat) (a7 : Nat) (a8 : Int32)  (d9 : Value) (e : f_Sim_pass_b366 k235 k366 h a0 a1 a2 a3 a4 a5 a6 a7 a8 = some h') : Eb (Ev tb mL d) 20 (366, [.ref a0, .ref a1, .int a2, .int a3, .ref a4, .int a5, .ref a6, .ref a7, .int a8, d9], [], h) h' none := by
  unfold f_Sim_pass_b366 at e
  refine eb_n 2 (370, [.ref a0, .ref a1, .int a2, .int a3, .ref a4, .int a5, .ref a6, .ref a7, .int a8, d9], [.ref a6, .int a8], h) (rfl) ?_
  obtain ⟨g1, e⟩ := gd_some e
  refine eb_g (p := hT h a6 = 109) (371, [.ref a0, .ref a1, .int a2, .int a3, .ref a4, .int a5, .ref a6, .ref a7, .int a8, d9], [.int (nI (hL h a6)), .int a8], h) rfl g1 ?_
  refine eb_b (c := (nI (hL h a6)) ≤ a8) (390, [.ref a0, .ref a1, .int a2, .int a3, .ref a4, .int a5, .ref a6, .ref a7, .int a8, d9], [], h) (374, [.ref a0, .ref a1, .int a2, .int a3, .ref a4, .int a5, .ref a6, .ref a7, .int a8, d9], [], h) rfl (fun c2 => ?_) (fun c2 => ?_)
  · replace e := ite_t c2 e
    refine eb_n 2 (394, [.ref a0, .ref a1, .int a2, .int a3, .ref a4, .int a5, .ref a6, .ref a7, .int a8, d9], [.ref a6, .ref a7], h) (rfl) ?_
    refine eb_g (p := hT h a6 = 109) (395, [.ref a0, .ref a1, .int a2, .int a3, .ref a4, .int a5, .ref a6, .ref a7, .int a8, d9], [.int (nI (hL h a6)), .ref a7], h) rfl g1 ?_
    refine eb_n 1 (396, [.ref a0, .ref a1, .int a2, .int a3, .ref a4, .int a5, .ref a6, .ref a7, .int a8, d9], [.int (nI 4), .int (nI (hL h a6)), .ref a7], h) (rfl) ?_
    obtain ⟨h3, eh3, e⟩ := lq_some e
    refine eb_g (p := ¬ (nI 4) < 0 ∧ ix (nI 4) ≤ 65536) (398, [.ref a0, .ref a1, .int a2, .int a3, .ref a4, .int a5, .ref a6, .ref a7, .int a8, d9], [.ref (hN h), .int (nI (hL h a6)), .ref a7], h3) (by rw [eh3]; rfl) (by decide) ?_
    refine eb_n 3 (402, [.ref a0, .ref a1, .int a2, .int a3, .ref a4, .int a5, .ref a6, .ref a7, .int a8, d9], [.int a5, .int (nI 0), .ref (hN h), .ref (hN h), .int (nI (hL h a6)), .ref a7], h3) (rfl) ?_
    obtain ⟨g4, e⟩ := gd_some e
    obtain ⟨h5, eh5, e⟩ := lq_some e
    refine eb_g (p := hT h3 (hN h) = 101 ∧ inb (nI 0) (hL h3 (hN h))) (403, [.ref a0, .ref a1, .int a2, .int a3, .ref a4, .int a5, .ref a6, .ref a7, .int a8, d9], [.ref (hN h), .int (nI (hL h a6)), .ref a7], h5) (by rw [eh5]; rfl) g4 ?_
    refine eb_n 3 (406, [.ref a0, .ref a1, .int a2, .int a3, .ref a4, .int a5, .ref a6, .ref a7, .int a8, d9], [.ref a0, .int (nI 1), .ref (hN h), .ref (hN h), .int (nI (hL h a6)), .ref a7], h5) (rfl) ?_
    obtain ⟨g6, e⟩ := gd_some e
    refine eb_g (p := hT h5 a0 = 13) (409, [.ref a0, .ref a1, .int a2, .int a3, .ref a4, .int a5, .ref a6, .ref a7, .int a8, d9], [.ref (hR h5 a0 12), .int (nI 1), .ref (hN h), .ref (hN h), .int (nI (hL h a6)), .ref a7], h5) rfl g6 ?_
    refine eb_n 2 (412, [.ref a0, .ref a1, .int a2, .int a3, .ref a4, .int a5, .ref a6, .ref a7, .int a8, d9], [.int (nI 0), .ref a4, .ref (hR h5 a0 12), .int (nI 1), .ref (hN h), .ref (hN h), .int (nI (hL h a6)), .ref a7], h5) (rfl) ?_
    obtain ⟨g7, e⟩ := gd_some e
    refine eb_g (p := hT h5 a4 = 101 ∧ inb (nI 0) (hL h5 a4)) (413, [.ref a0, .ref a1, .int a2, .int a3, .ref a4, .int a5, .ref a6, .ref a7, .int a8, d9], [.int (hI h5 a4 (ix (nI 0))), .ref (hR h5 a0 12), .int (nI 1), .ref (hN h), .ref (hN h), .int (nI (hL h a6)), .ref a7], h5) rfl g7 ?_
    obtain ⟨g8, e⟩ := gd_some e
    refine eb_g (p := hT h5 (hR h5 a0 12) = 109 ∧ inb (hI h5 a4 (ix (nI 0))) (hL h5 (hR h5 a0 12))) (414, [.ref a0, .ref a1, .int a2, .int a3, .ref a4, .int a5, .ref a6, .ref a7, .int a8, d9], [.ref (hR h5 (hR h5 a0 12) (ix (hI h5 a4 (ix (nI 0))))), .int (nI 1), .ref (hN h), .ref (hN h), .int (nI (hL h a6)), .ref a7], h5) rfl g8 ?_
    refine eb_n 1 (415, [.ref a0, .ref a1, .int a2, .int a3, .ref a4, .int a5, .ref a6, .ref a7, .int a8, d9], [.int (nI 2), .ref (hR h5 (hR h5 a0 12) (ix (hI h5 a4 (ix (nI 0))))), .int (nI 1), .ref (hN h), .ref (hN h), .int (nI (hL h a6)), .ref a7], h5) (rfl) ?_
    obtain ⟨g9, e⟩ := gd_some e
    refine eb_g (p := hT h5 (hR h5 (hR h5 a0 12) (ix (hI h5 a4 (ix (nI 0))))) = 101 ∧ inb (nI 2) (hL h5 (hR h5 (hR h5 a0 12) (ix (hI h5 a4 (ix (nI 0))))))) (416, [.ref a0, .ref a1, .int a2, .int a3, .ref a4, .int a5, .ref a6, .ref a7, .int a8, d9], [.int (hI h5 (hR h5 (hR h5 a0 12) (ix (hI h5 a4 (ix (nI 0))))) (ix (nI 2))), .int (nI 1), .ref (hN h), .ref (hN h), .int (nI (hL h a6)), .ref a7], h5) rfl g9 ?_
    obtain ⟨g10, e⟩ := gd_some e
    obtain ⟨h11, eh11, e⟩ := lq_some e
    refine eb_g (p := hT h5 (hN h) = 101 ∧ inb (nI 1) (hL h5 (hN h))) (417, [.ref a0, .ref a1, .int a2, .int a3, .ref a4, .int a5, .ref a6, .ref a7, .int a8, d9], [.ref (hN h), .int (nI (hL h a6)), .ref a7], h11) (by rw [eh11]; rfl) g10 ?_
    refine eb_n 3 (420, [.ref a0, .ref a1, .int a2, .int a3, .ref a4, .int a5, .ref a6, .ref a7, .int a8, d9], [.int (nI 0), .int (nI 2), .ref (hN h), .ref (hN h), .int (nI (hL h a6)), .ref a7], h11) (rfl) ?_
    obtain ⟨g12, e⟩ := gd_some e
    obtain ⟨h13, eh13, e⟩ := lq_some e
    refine eb_g (p := hT h11 (hN h) = 101 ∧ inb (nI 2) (hL h11 (hN h))) (421, [.ref a0, .ref a1, .int a2, .int a3, .ref a4, .int a5, .ref a6, .ref a7, .int a8, d9], [.ref (hN h), .int (nI (hL h a6)), .ref a7], h13) (by rw [eh13]; rfl) g12 ?_
    refine eb_n 3 (424, [.ref a0, .ref a1, .int a2, .int a3, .ref a4, .int a5, .ref a6, .ref a7, .int a8, d9], [.int (nI 0), .int (nI 3), .ref (hN h), .ref (hN h), .int (nI (hL h a6)), .ref a7], h13) (rfl) ?_
    obtain ⟨g14, e⟩ := gd_some e
    obtain ⟨h15, eh15, e⟩ := lq_some e
    refine eb_g (p := hT h13 (hN h) = 101 ∧ inb (nI 3) (hL h13 (hN h))) (425, [.ref a0, .ref a1, .int a2, .int a3, .ref a4, .int a5, .ref a6, .ref a7, .int a8, d9], [.ref (hN h), .int (nI (hL h a6)), .ref a7], h15) (by rw [eh15]; rfl) g14 ?_
    obtain ⟨g16, e⟩ := gd_some e
    obtain ⟨h17, eh17, e⟩ := lq_some e
    refine eb_g (p := hT h15 a7 = 109 ∧ inb (nI (hL h a6)) (hL h15 a7) ∧ hT h15 (hN h) = 101) (426, [.ref a0, .ref a1, .int a2, .int a3, .ref a4, .int a5, .ref a6, .ref a7, .int a8, d9], [], h17) (by rw [eh17]; rfl) g16 ?_
    refine eb_n 1 (427, [.ref a0, .ref a1, .int a2, .int a3, .ref a4, .int a5, .ref a6, .ref a7, .int a8, d9], [.ref a0], h17) (rfl) ?_
    obtain ⟨g18, e⟩ := gd_some e
    refine eb_g (p := hT h17 a0 = 13) (430, [.ref a0, .ref a1, .int a2, .int a3, .ref a4, .int a5, .ref a6, .ref a7, .int a8, d9], [.ref (hR h17 a0 14)], h17) rfl g18 ?_
    refine eb_n 2 (433, [.ref a0, .ref a1, .int a2, .int a3, .ref a4, .int a5, .ref a6, .ref a7, .int a8, d9], [.int (nI 1), .ref a4, .ref (hR h17 a0 14)], h17) (rfl) ?_
    obtain ⟨g19, e⟩ := gd_some e
    refine eb_g (p := hT h17 a4 = 101 ∧ inb (nI 1) (hL h17 a4)) (434, [.ref a0, .ref a1, .int a2, .int a3, .ref a4, .int a5, .ref a6, .ref a7, .int a8, d9], [.int (hI h17 a4 (ix (nI 1))), .ref (hR h17 a0 14)], h17) rfl g19 ?_
    refine eb_n 1 (436, [.ref a0, .ref a1, .int a2, .int a3, .ref a4, .int a5, .ref a6, .ref a7, .int a8, d9], [.ref a7, .int (hI h17 a4 (ix (nI 1))), .ref (hR h17 a0 14)], h17) (rfl) ?_
    obtain ⟨g20, e⟩ := gd_some e
    obtain ⟨h21, eh21, e⟩ := lq_some e
    refine eb_g (p := hT h17 (hR h17 a0 14) = 110 ∧ inb (hI h17 a4 (ix (nI 1))) (hL h17 (hR h17 a0 14)) ∧ hT h17 a7 = 109) (437, [.ref a0, .ref a1, .int a2, .int a3, .ref a4, .int a5, .ref a6, .ref a7, .int a8, d9], [], h21) (by rw [eh21]; rfl) g20 ?_
    refine eb_n 3 (441, [.ref a0, .ref a1, .int a2, .int a3, .ref a4, .int a5, .ref a6, .ref a7, .int a8, d9], [.int (nI 3), .ref a4, .int (nI 3), .ref a4], h21) (rfl) ?_
    obtain ⟨g22, e⟩ := gd_some e
    refine eb_g (p := hT h21 a4 = 101 ∧ inb (nI 3) (hL h21 a4)) (442, [.ref a0, .ref a1, .int a2, .int a3, .ref a4, .int a5, .ref a6, .ref a7, .int a8, d9], [.int (hI h21 a4 (ix (nI 3))), .int (nI 3), .ref a4], h21) rfl g22 ?_
    refine eb_n 2 (444, [.ref a0, .ref a1, .int a2, .int a3, .ref a4, .int a5, .ref a6, .ref a7, .int a8, d9], [.int ((hI h21 a4 (ix (nI 3))) - (nI 1)), .int (nI 3), .ref a4], h21) (rfl) ?_
    obtain ⟨h23, eh23, e⟩ := lq_some e
    refine eb_g (p := hT h21 a4 = 101 ∧ inb (nI 3) (hL h21 a4)) (445, [.ref a0, .ref a1, .int a2, .int a3, .ref a4, .int a5, .ref a6, .ref a7, .int a8, d9], [], h23) (by rw [eh23]; rfl) g22 ?_
    refine eb_n 3 (449, [.ref a0, .ref a1, .int a2, .int a3, .ref a4, .int a5, .ref a6, .ref a7, .int a8, d9], [.int (nI 4), .ref a4, .int (nI 4), .ref a4], h23) (rfl) ?_
    obtain ⟨g24, e⟩ := gd_some e
    refine eb_g (p := hT h23 a4 = 101 ∧ inb (nI 4) (hL h23 a4)) (450, [.ref a0, .ref a1, .int a2, .int a3, .ref a4, .int a5, .ref a6, .ref a7, .int a8, d9], [.int (hI h23 a4 (ix (nI 4))), .int (nI 4), .ref a4], h23) rfl g24 ?_
    refine eb_n 2 (453, [.ref a0, .ref a1, .int a2, .int a3, .ref a4, .int a5, .ref a6, .ref a7, .int a8, d9], [.int ((hI h23 a4 (ix (nI 4))) + a5), .int (nI 4), .ref a4], h23) (rfl) ?_
    obtain ⟨h25, eh25, e⟩ := lq_some e
    refine eb_g (p := hT h23 a4 = 101 ∧ inb (nI 4) (hL h23 a4)) (454, [.ref a0, .ref a1, .int a2, .int a3, .ref a4, .int a5, .ref a6, .ref a7, .int a8, d9], [], h25) (by rw [eh25]; rfl) g24 ?_
    refine eb_n 2 (456, [.ref a0, .ref a1, .int a2, .int a3, .ref a4, .int a5, .ref a6, .ref a7, .int a8, d9], [.ref a0, .ref a0], h25) (rfl) ?_
    obtain ⟨g26, e⟩ := gd_some e
    refine eb_g (p := hT h25 a0 = 13) (459, [.ref a0, .ref a1, .int a2, .int a3, .ref a4, .int a5, .ref a6, .ref a7, .int a8, d9], [.int (hI h25 a0 2), .ref a0], h25) rfl g26 ?_
    refine eb_n 2 (462, [.ref a0, .ref a1, .int a2, .int a3, .ref a4, .int a5, .ref a6, .ref a7, .int a8, d9], [.int ((hI h25 a0 2) + a5), .ref a0], h25) (rfl) ?_
    obtain ⟨h27, eh27, e⟩ := lq_some e
    refine eb_g (p := hT h25 a0 = 13) (465, [.ref a0, .ref a1, .int a2, .int a3, .ref a4, .int a5, .ref a6, .ref a7, .int a8, d9], [], h27) (by rw [eh27]; rfl) g26 ?_
    exact f_Sim_pass_b465_ev d hd k235 hk235 _ _ _ _ _ _ _ _ _ _ _ e
  · replace e := ite_f c2 e
    refine eb_n 4 (382, [.ref a0, .ref a1, .int a2, .int a3, .ref a4, .int a5, .ref a6, .ref a7, .int a8, d9], [.int a8, .ref a6, .int a8, .ref a7], h) (rfl) ?_
    obtain ⟨g28, e⟩ := gd_some e
    refine eb_g (p := hT h a6 = 109 ∧ inb a8 (hL h a6)) (383, [.ref a0, .ref a1, .int a2, .int a3, .ref a4, .int a5, .ref a6, .ref a7, .int a8, d9], [.ref (hR h a6 (ix a8)), .int a8, .ref a7], h) rfl g28 ?_
    obtain ⟨g29, e⟩ := gd_some e
    obtain ⟨h30, eh30, e⟩ := lq_some e
    refine eb_g (p := hT h a7 = 109 ∧ inb a8 (hL h a7) ∧ hT h (hR h a6 (ix a8)) = 101) (384, [.ref a0, .ref a1, .int a2, .int a3, .ref a4, .int a5, .ref a6, .ref a7, .int a8, d9], [], h30) (by rw [eh30]; rfl) g29 ?_
    obtain ⟨x31, hx31, e⟩ := lq_some e
    refine eb_n 1 (387, [.ref a0, .ref a1, .int a2, .int a3, .ref a4, .int a5, .ref a6, .ref a7, .int x31, d9], [], h30) (by subst hx31; rfl) ?_
    refine eb_n 1 (366, [.ref a0, .ref a1, .int a2, .int a3, .ref a4, .int a5, .ref a6, .ref a7, .int x31, d9], [], h30) (rfl) ?_
    exact hk366 _ _ _ _ _ _ _ _ _ _ _ e
set_option maxRecDepth 100000 in
set_option maxHeartbeats 4000000 in
theorem f_Sim_pass_l366_ev {h' : AH} (d : Nat) (hd : 2 ≤ d) (k235 : AH → Nat → Nat → Int32 → Int32 → Option AH) (hk235 : ∀ (h : AH) (a0 : Nat) (a1 : Nat) (a2 : Int32) (a3 : Int32)  (d4 : Value) (d5 : Value) (d6 : Value) (d7 : Value) (d8 : Value) (d9 : Value), k235 h a0 a1 a2 a3 = some h' → Eb (Ev tb mL d) 20 (235, [.ref a0, .ref a1, .int a2, .int a3, d4, d5, d6, d7, d8, d9], [], h) h' none)  : ∀ (n : Nat) (h : AH) (a0 : Nat) (a1 : Nat) (a2 : Int32) (a3 : Int32) (a4 : Nat) (a5 : Int32) (a6 : Nat) (a7 : Nat) (a8 : Int32)  (d9 : Value) (_ : f_Sim_pass_l366 k235 n h a0 a1 a2 a3 a4 a5 a6 a7 a8 = some h'), Eb (Ev tb mL d) 20 (366, [.ref a0, .ref a1, .int a2, .int a3, .ref a4, .int a5, .ref a6, .ref a7, .int a8, d9], [], h) h' none := by
  intro n
  induction n with
  | zero => intro h a0 a1 a2 a3 a4 a5 a6 a7 a8 d9 e; exact nomatch e
  | succ n ih =>
    intro h a0 a1 a2 a3 a4 a5 a6 a7 a8 d9 e
    exact f_Sim_pass_b366_ev d hd k235 _ hk235 (fun h a0 a1 a2 a3 a4 a5 a6 a7 a8 d9 e => ih h a0 a1 a2 a3 a4 a5 a6 a7 a8 d9 e) h a0 a1 a2 a3 a4 a5 a6 a7 a8 d9 e
set_option maxRecDepth 100000 in
set_option maxHeartbeats 4000000 in
theorem f_Sim_pass_b278_ev {h' : AH} (d : Nat) (hd : 2 ≤ d) (k235 : AH → Nat → Nat → Int32 → Int32 → Option AH) (hk235 : ∀ (h : AH) (a0 : Nat) (a1 : Nat) (a2 : Int32) (a3 : Int32)  (d4 : Value) (d5 : Value) (d6 : Value) (d7 : Value) (d8 : Value) (d9 : Value), k235 h a0 a1 a2 a3 = some h' → Eb (Ev tb mL d) 20 (235, [.ref a0, .ref a1, .int a2, .int a3, d4, d5, d6, d7, d8, d9], [], h) h' none)  (h : AH) (a0 : Nat) (a1 : Nat) (a2 : Int32) (a3 : Int32) (a4 : Nat) (s0 : Int32) (d5 : Value) (d6 : Value) (d7 : Value) (d8 : Value) (d9 : Value) (e : f_Sim_pass_b278 k235 h a0 a1 a2 a3 a4 s0 = some h') : Eb (Ev tb mL d) 20 (278, [.ref a0, .ref a1, .int a2, .int a3, .ref a4, d5, d6, d7, d8, d9], [.int s0], h) h' none := by
  unfold f_Sim_pass_b278 at e
  refine eb_n 3 (283, [.ref a0, .ref a1, .int a2, .int a3, .ref a4, .int s0, d6, d7, d8, d9], [.ref a0, .int s0], h) (rfl) ?_
  obtain ⟨g1, e⟩ := gd_some e
  refine eb_g (p := hT h a0 = 13) (286, [.ref a0, .ref a1, .int a2, .int a3, .ref a4, .int s0, d6, d7, d8, d9], [.ref (hR h a0 12), .int s0], h) rfl g1 ?_
  refine eb_n 2 (289, [.ref a0, .ref a1, .int a2, .int a3, .ref a4, .int s0, d6, d7, d8, d9], [.int (nI 0), .ref a4, .ref (hR h a0 12), .int s0], h) (rfl) ?_
  obtain ⟨g2, e⟩ := gd_some e
  refine eb_g (p := hT h a4 = 101 ∧ inb (nI 0) (hL h a4)) (290, [.ref a0, .ref a1, .int a2, .int a3, .ref a4, .int s0, d6, d7, d8, d9], [.int (hI h a4 (ix (nI 0))), .ref (hR h a0 12), .int s0], h) rfl g2 ?_
  obtain ⟨g3, e⟩ := gd_some e
  refine eb_g (p := hT h (hR h a0 12) = 109 ∧ inb (hI h a4 (ix (nI 0))) (hL h (hR h a0 12))) (291, [.ref a0, .ref a1, .int a2, .int a3, .ref a4, .int s0, d6, d7, d8, d9], [.ref (hR h (hR h a0 12) (ix (hI h a4 (ix (nI 0))))), .int s0], h) rfl g3 ?_
  refine eb_n 1 (292, [.ref a0, .ref a1, .int a2, .int a3, .ref a4, .int s0, d6, d7, d8, d9], [.int (nI 0), .ref (hR h (hR h a0 12) (ix (hI h a4 (ix (nI 0))))), .int s0], h) (rfl) ?_
  obtain ⟨g4, e⟩ := gd_some e
  refine eb_g (p := hT h (hR h (hR h a0 12) (ix (hI h a4 (ix (nI 0))))) = 101 ∧ inb (nI 0) (hL h (hR h (hR h a0 12) (ix (hI h a4 (ix (nI 0))))))) (293, [.ref a0, .ref a1, .int a2, .int a3, .ref a4, .int s0, d6, d7, d8, d9], [.int (hI h (hR h (hR h a0 12) (ix (hI h a4 (ix (nI 0))))) (ix (nI 0))), .int s0], h) rfl g4 ?_
  refine eb_n 3 (297, [.ref a0, .ref a1, .int a2, .int a3, .ref a4, .int s0, d6, d7, d8, d9], [.int (nI 1), .ref a4, .ref a0, .int (hI h (hR h (hR h a0 12) (ix (hI h a4 (ix (nI 0))))) (ix (nI 0))), .int s0], h) (rfl) ?_
  obtain ⟨g5, e⟩ := gd_some e
  refine eb_g (p := hT h a4 = 101 ∧ inb (nI 1) (hL h a4)) (298, [.ref a0, .ref a1, .int a2, .int a3, .ref a4, .int s0, d6, d7, d8, d9], [.int (hI h a4 (ix (nI 1))), .ref a0, .int (hI h (hR h (hR h a0 12) (ix (hI h a4 (ix (nI 0))))) (ix (nI 0))), .int s0], h) rfl g5 ?_
  obtain ⟨h6, r7, eh6, e⟩ := bn_some e
  refine eb_cg (p := hT h a0 = 13) rfl g1 (f_Sim_room_ev d (Nat.le_trans (by decide) hd) eh6) ?_
  show Eb _ 20 (301, [.ref a0, .ref a1, .int a2, .int a3, .ref a4, .int s0, d6, d7, d8, d9], [.int r7, .int (hI h (hR h (hR h a0 12) (ix (hI h a4 (ix (nI 0))))) (ix (nI 0))), .int s0], h6) _ _
  obtain ⟨h8, r9, eh8, e⟩ := bn_some e
  refine eb_c rfl (f_Math_min_ev d (Nat.le_trans (by decide) hd) eh8) ?_
  show Eb _ 20 (304, [.ref a0, .ref a1, .int a2, .int a3, .ref a4, .int s0, d6, d7, d8, d9], [.int r9, .int s0], h8) _ _
  obtain ⟨h10, r11, eh10, e⟩ := bn_some e
  refine eb_c rfl (f_Math_min_ev d (Nat.le_trans (by decide) hd) eh10) ?_
  show Eb _ 20 (307, [.ref a0, .ref a1, .int a2, .int a3, .ref a4, .int s0, d6, d7, d8, d9], [.int r11], h10) _ _
  refine eb_n 3 (313, [.ref a0, .ref a1, .int a2, .int a3, .ref a4, .int r11, d6, d7, d8, d9], [.int (nI 6), .ref a4], h10) (rfl) ?_
  obtain ⟨g12, e⟩ := gd_some e
  refine eb_g (p := hT h10 a4 = 101 ∧ inb (nI 6) (hL h10 a4)) (314, [.ref a0, .ref a1, .int a2, .int a3, .ref a4, .int r11, d6, d7, d8, d9], [.int (hI h10 a4 (ix (nI 6)))], h10) rfl g12 ?_
  refine eb_n 1 (315, [.ref a0, .ref a1, .int a2, .int a3, .ref a4, .int r11, d6, d7, d8, d9], [.int (nI 1), .int (hI h10 a4 (ix (nI 6)))], h10) (rfl) ?_
  refine eb_b (c := (hI h10 a4 (ix (nI 6))) = (nI 1)) (465, [.ref a0, .ref a1, .int a2, .int a3, .ref a4, .int r11, d6, d7, d8, d9], [], h10) (318, [.ref a0, .ref a1, .int a2, .int a3, .ref a4, .int r11, d6, d7, d8, d9], [], h10) rfl (fun c13 => ?_) (fun c13 => ?_)
  · replace e := ite_t c13 e
    exact f_Sim_pass_b465_ev d hd k235 hk235 _ _ _ _ _ _ _ _ _ _ _ e
  · replace e := ite_f c13 e
    refine eb_n 1 (320, [.ref a0, .ref a1, .int a2, .int a3, .ref a4, .int r11, d6, d7, d8, d9], [.int r11], h10) (rfl) ?_
    refine eb_b (c := ¬ r11 = 0) (326, [.ref a0, .ref a1, .int a2, .int a3, .ref a4, .int r11, d6, d7, d8, d9], [], h10) (323, [.ref a0, .ref a1, .int a2, .int a3, .ref a4, .int r11, d6, d7, d8, d9], [], h10) rfl (fun c14 => ?_) (fun c14 => ?_)
    · replace e := ite_t c14 e
      refine eb_n 1 (327, [.ref a0, .ref a1, .int a2, .int a3, .ref a4, .int r11, d6, d7, d8, d9], [.ref a0], h10) (rfl) ?_
      obtain ⟨g15, e⟩ := gd_some e
      refine eb_g (p := hT h10 a0 = 13) (330, [.ref a0, .ref a1, .int a2, .int a3, .ref a4, .int r11, d6, d7, d8, d9], [.ref (hR h10 a0 12)], h10) rfl g15 ?_
      refine eb_n 2 (333, [.ref a0, .ref a1, .int a2, .int a3, .ref a4, .int r11, d6, d7, d8, d9], [.int (nI 0), .ref a4, .ref (hR h10 a0 12)], h10) (rfl) ?_
      obtain ⟨g16, e⟩ := gd_some e
      refine eb_g (p := hT h10 a4 = 101 ∧ inb (nI 0) (hL h10 a4)) (334, [.ref a0, .ref a1, .int a2, .int a3, .ref a4, .int r11, d6, d7, d8, d9], [.int (hI h10 a4 (ix (nI 0))), .ref (hR h10 a0 12)], h10) rfl g16 ?_
      obtain ⟨g17, e⟩ := gd_some e
      refine eb_g (p := hT h10 (hR h10 a0 12) = 109 ∧ inb (hI h10 a4 (ix (nI 0))) (hL h10 (hR h10 a0 12))) (335, [.ref a0, .ref a1, .int a2, .int a3, .ref a4, .int r11, d6, d7, d8, d9], [.ref (hR h10 (hR h10 a0 12) (ix (hI h10 a4 (ix (nI 0)))))], h10) rfl g17 ?_
      refine eb_n 2 (337, [.ref a0, .ref a1, .int a2, .int a3, .ref a4, .int r11, d6, d7, d8, d9], [.int (nI 0), .ref (hR h10 (hR h10 a0 12) (ix (hI h10 a4 (ix (nI 0))))), .int (nI 0), .ref (hR h10 (hR h10 a0 12) (ix (hI h10 a4 (ix (nI 0)))))], h10) (rfl) ?_
      obtain ⟨g18, e⟩ := gd_some e
      refine eb_g (p := hT h10 (hR h10 (hR h10 a0 12) (ix (hI h10 a4 (ix (nI 0))))) = 101 ∧ inb (nI 0) (hL h10 (hR h10 (hR h10 a0 12) (ix (hI h10 a4 (ix (nI 0))))))) (338, [.ref a0, .ref a1, .int a2, .int a3, .ref a4, .int r11, d6, d7, d8, d9], [.int (hI h10 (hR h10 (hR h10 a0 12) (ix (hI h10 a4 (ix (nI 0))))) (ix (nI 0))), .int (nI 0), .ref (hR h10 (hR h10 a0 12) (ix (hI h10 a4 (ix (nI 0)))))], h10) rfl g18 ?_
      refine eb_n 2 (341, [.ref a0, .ref a1, .int a2, .int a3, .ref a4, .int r11, d6, d7, d8, d9], [.int ((hI h10 (hR h10 (hR h10 a0 12) (ix (hI h10 a4 (ix (nI 0))))) (ix (nI 0))) - r11), .int (nI 0), .ref (hR h10 (hR h10 a0 12) (ix (hI h10 a4 (ix (nI 0)))))], h10) (rfl) ?_
      obtain ⟨h19, eh19, e⟩ := lq_some e
      refine eb_g (p := hT h10 (hR h10 (hR h10 a0 12) (ix (hI h10 a4 (ix (nI 0))))) = 101 ∧ inb (nI 0) (hL h10 (hR h10 (hR h10 a0 12) (ix (hI h10 a4 (ix (nI 0))))))) (342, [.ref a0, .ref a1, .int a2, .int a3, .ref a4, .int r11, d6, d7, d8, d9], [], h19) (by rw [eh19]; rfl) g18 ?_
      refine eb_n 1 (343, [.ref a0, .ref a1, .int a2, .int a3, .ref a4, .int r11, d6, d7, d8, d9], [.ref a0], h19) (rfl) ?_
      obtain ⟨g20, e⟩ := gd_some e
      refine eb_g (p := hT h19 a0 = 13) (346, [.ref a0, .ref a1, .int a2, .int a3, .ref a4, .int r11, d6, d7, d8, d9], [.ref (hR h19 a0 14)], h19) rfl g20 ?_
      refine eb_n 2 (349, [.ref a0, .ref a1, .int a2, .int a3, .ref a4, .int r11, d6, d7, d8, d9], [.int (nI 1), .ref a4, .ref (hR h19 a0 14)], h19) (rfl) ?_
      obtain ⟨g21, e⟩ := gd_some e
      refine eb_g (p := hT h19 a4 = 101 ∧ inb (nI 1) (hL h19 a4)) (350, [.ref a0, .ref a1, .int a2, .int a3, .ref a4, .int r11, d6, d7, d8, d9], [.int (hI h19 a4 (ix (nI 1))), .ref (hR h19 a0 14)], h19) rfl g21 ?_
      obtain ⟨g22, e⟩ := gd_some e
      refine eb_g (p := hT h19 (hR h19 a0 14) = 110 ∧ inb (hI h19 a4 (ix (nI 1))) (hL h19 (hR h19 a0 14))) (351, [.ref a0, .ref a1, .int a2, .int a3, .ref a4, .int r11, d6, d7, d8, d9], [.ref (hR h19 (hR h19 a0 14) (ix (hI h19 a4 (ix (nI 1)))))], h19) rfl g22 ?_
      obtain ⟨x23, hx23, e⟩ := lq_some e
      refine eb_n 1 (353, [.ref a0, .ref a1, .int a2, .int a3, .ref a4, .int r11, .ref x23, d7, d8, d9], [], h19) (by subst hx23; rfl) ?_
      refine eb_n 1 (355, [.ref a0, .ref a1, .int a2, .int a3, .ref a4, .int r11, .ref x23, d7, d8, d9], [.ref x23], h19) (rfl) ?_
      obtain ⟨g24, e⟩ := gd_some e
      refine eb_g (p := hT h19 x23 = 109) (356, [.ref a0, .ref a1, .int a2, .int a3, .ref a4, .int r11, .ref x23, d7, d8, d9], [.int (nI (hL h19 x23))], h19) rfl g24 ?_
      refine eb_n 2 (358, [.ref a0, .ref a1, .int a2, .int a3, .ref a4, .int r11, .ref x23, d7, d8, d9], [.int ((nI (hL h19 x23)) + (nI 1))], h19) (rfl) ?_
      obtain ⟨g25, e⟩ := gd_some e
      obtain ⟨h26, eh26, e⟩ := lq_some e
      refine eb_g (p := ¬ ((nI (hL h19 x23)) + (nI 1)) < 0 ∧ ix ((nI (hL h19 x23)) + (nI 1)) ≤ 65536) (361, [.ref a0, .ref a1, .int a2, .int a3, .ref a4, .int r11, .ref x23, d7, d8, d9], [.ref (hN h19)], h26) (by rw [eh26]; rfl) g25 ?_
      obtain ⟨x27, hx27, e⟩ := lq_some e
      refine eb_n 1 (363, [.ref a0, .ref a1, .int a2, .int a3, .ref a4, .int r11, .ref x23, .ref x27, d8, d9], [], h26) (by subst hx27; rfl) ?_
      refine eb_n 2 (366, [.ref a0, .ref a1, .int a2, .int a3, .ref a4, .int r11, .ref x23, .ref x27, .int (nI 0), d9], [], h26) (rfl) ?_
      exact f_Sim_pass_l366_ev d hd k235 hk235 FU _ _ _ _ _ _ _ _ _ _ _ e
    · replace e := ite_f c14 e
      refine eb_n 1 (465, [.ref a0, .ref a1, .int a2, .int a3, .ref a4, .int r11, d6, d7, d8, d9], [], h10) (rfl) ?_
      exact f_Sim_pass_b465_ev d hd k235 hk235 _ _ _ _ _ _ _ _ _ _ _ e
set_option maxRecDepth 100000 in
set_option maxHeartbeats 4000000 in
theorem f_Sim_pass_b235_ev {h' : AH} (d : Nat) (hd : 2 ≤ d) (k235 : AH → Nat → Nat → Int32 → Int32 → Option AH) (hk235 : ∀ (h : AH) (a0 : Nat) (a1 : Nat) (a2 : Int32) (a3 : Int32)  (d4 : Value) (d5 : Value) (d6 : Value) (d7 : Value) (d8 : Value) (d9 : Value), k235 h a0 a1 a2 a3 = some h' → Eb (Ev tb mL d) 20 (235, [.ref a0, .ref a1, .int a2, .int a3, d4, d5, d6, d7, d8, d9], [], h) h' none)  (h : AH) (a0 : Nat) (a1 : Nat) (a2 : Int32) (a3 : Int32)  (d4 : Value) (d5 : Value) (d6 : Value) (d7 : Value) (d8 : Value) (d9 : Value) (e : f_Sim_pass_b235 k235 h a0 a1 a2 a3 = some h') : Eb (Ev tb mL d) 20 (235, [.ref a0, .ref a1, .int a2, .int a3, d4, d5, d6, d7, d8, d9], [], h) h' none := by
  unfold f_Sim_pass_b235 at e
  refine eb_n 2 (237, [.ref a0, .ref a1, .int a2, .int a3, d4, d5, d6, d7, d8, d9], [.int a2, .int a3], h) (rfl) ?_
  refine eb_b (c := a2 ≤ a3) (471, [.ref a0, .ref a1, .int a2, .int a3, d4, d5, d6, d7, d8, d9], [], h) (240, [.ref a0, .ref a1, .int a2, .int a3, d4, d5, d6, d7, d8, d9], [], h) rfl (fun c1 => ?_) (fun c1 => ?_)
  · replace e := ite_t c1 e
    refine eb_n 1 (472, [.ref a0, .ref a1, .int a2, .int a3, d4, d5, d6, d7, d8, d9], [.ref a0], h) (rfl) ?_
    obtain ⟨g2, e⟩ := gd_some e
    refine eb_g (p := hT h a0 = 13) (475, [.ref a0, .ref a1, .int a2, .int a3, d4, d5, d6, d7, d8, d9], [.ref (hR h a0 7)], h) rfl g2 ?_
    refine eb_n 1 (476, [.ref a0, .ref a1, .int a2, .int a3, d4, d5, d6, d7, d8, d9], [.ref a0, .ref (hR h a0 7)], h) (rfl) ?_
    refine eb_g (p := hT h a0 = 13) (479, [.ref a0, .ref a1, .int a2, .int a3, d4, d5, d6, d7, d8, d9], [.int (hI h a0 0), .ref (hR h a0 7)], h) rfl g2 ?_
    refine eb_n 1 (481, [.ref a0, .ref a1, .int a2, .int a3, d4, d5, d6, d7, d8, d9], [.int (nI 12), .int (hI h a0 0), .ref (hR h a0 7)], h) (rfl) ?_
    refine eb_g (p := ¬ (nI 12) = 0) (482, [.ref a0, .ref a1, .int a2, .int a3, d4, d5, d6, d7, d8, d9], [.int ((hI h a0 0) - (hI h a0 0) / (nI 12) * (nI 12)), .ref (hR h a0 7)], h) rfl (by decide) ?_
    obtain ⟨g3, e⟩ := gd_some e
    refine eb_g (p := hT h (hR h a0 7) = 101 ∧ inb ((hI h a0 0) - (hI h a0 0) / (nI 12) * (nI 12)) (hL h (hR h a0 7))) (483, [.ref a0, .ref a1, .int a2, .int a3, d4, d5, d6, d7, d8, d9], [.int (hI h (hR h a0 7) (ix ((hI h a0 0) - (hI h a0 0) / (nI 12) * (nI 12))))], h) rfl g3 ?_
    obtain ⟨x4, hx4, e⟩ := lq_some e
    refine eb_n 1 (484, [.ref a0, .int x4, .int a2, .int a3, d4, d5, d6, d7, d8, d9], [], h) (by subst hx4; rfl) ?_
    refine eb_n 2 (486, [.ref a0, .int x4, .int (nI 0), .int a3, d4, d5, d6, d7, d8, d9], [], h) (rfl) ?_
    exact f_Sim_pass_l486_ev d hd   FU _ _ _ _ _ _ _ _ _ _ _ e
  · replace e := ite_f c1 e
    refine eb_n 2 (242, [.ref a0, .ref a1, .int a2, .int a3, d4, d5, d6, d7, d8, d9], [.int a3, .ref a1], h) (rfl) ?_
    obtain ⟨g5, e⟩ := gd_some e
    refine eb_g (p := hT h a1 = 109 ∧ inb a3 (hL h a1)) (243, [.ref a0, .ref a1, .int a2, .int a3, d4, d5, d6, d7, d8, d9], [.ref (hR h a1 (ix a3))], h) rfl g5 ?_
    obtain ⟨x6, hx6, e⟩ := lq_some e
    refine eb_n 1 (245, [.ref a0, .ref a1, .int a2, .int a3, .ref x6, d5, d6, d7, d8, d9], [], h) (by subst hx6; rfl) ?_
    refine eb_n 2 (248, [.ref a0, .ref a1, .int a2, .int a3, .ref x6, d5, d6, d7, d8, d9], [.int (nI 3), .ref x6], h) (rfl) ?_
    obtain ⟨g7, e⟩ := gd_some e
    refine eb_g (p := hT h x6 = 101 ∧ inb (nI 3) (hL h x6)) (249, [.ref a0, .ref a1, .int a2, .int a3, .ref x6, d5, d6, d7, d8, d9], [.int (hI h x6 (ix (nI 3)))], h) rfl g7 ?_
    refine eb_n 1 (251, [.ref a0, .ref a1, .int a2, .int a3, .ref x6, d5, d6, d7, d8, d9], [.int (nI 10), .int (hI h x6 (ix (nI 3)))], h) (rfl) ?_
    refine eb_b (c := (hI h x6 (ix (nI 3))) < (nI 10)) (261, [.ref a0, .ref a1, .int a2, .int a3, .ref x6, d5, d6, d7, d8, d9], [], h) (254, [.ref a0, .ref a1, .int a2, .int a3, .ref x6, d5, d6, d7, d8, d9], [], h) rfl (fun c8 => ?_) (fun c8 => ?_)
    · replace e := ite_t c8 e
      refine eb_n 2 (264, [.ref a0, .ref a1, .int a2, .int a3, .ref x6, d5, d6, d7, d8, d9], [.int (nI 3), .ref x6], h) (rfl) ?_
      refine eb_g (p := hT h x6 = 101 ∧ inb (nI 3) (hL h x6)) (265, [.ref a0, .ref a1, .int a2, .int a3, .ref x6, d5, d6, d7, d8, d9], [.int (hI h x6 (ix (nI 3)))], h) rfl g7 ?_
      refine eb_b (c := ¬ (hI h x6 (ix (nI 3))) = 0) (272, [.ref a0, .ref a1, .int a2, .int a3, .ref x6, d5, d6, d7, d8, d9], [], h) (268, [.ref a0, .ref a1, .int a2, .int a3, .ref x6, d5, d6, d7, d8, d9], [], h) rfl (fun c9 => ?_) (fun c9 => ?_)
      · replace e := ite_t c9 e
        refine eb_n 2 (275, [.ref a0, .ref a1, .int a2, .int a3, .ref x6, d5, d6, d7, d8, d9], [.int (nI 2), .ref x6], h) (rfl) ?_
        obtain ⟨g10, e⟩ := gd_some e
        refine eb_g (p := hT h x6 = 101 ∧ inb (nI 2) (hL h x6)) (276, [.ref a0, .ref a1, .int a2, .int a3, .ref x6, d5, d6, d7, d8, d9], [.int (hI h x6 (ix (nI 2)))], h) rfl g10 ?_
        refine eb_n 1 (277, [.ref a0, .ref a1, .int a2, .int a3, .ref x6, d5, d6, d7, d8, d9], [.int (nI 2), .int (hI h x6 (ix (nI 2)))], h) (rfl) ?_
        refine eb_g (p := ¬ (nI 2) = 0) (278, [.ref a0, .ref a1, .int a2, .int a3, .ref x6, d5, d6, d7, d8, d9], [.int ((hI h x6 (ix (nI 2))) / (nI 2))], h) rfl (by decide) ?_
        exact f_Sim_pass_b278_ev d hd k235 hk235 _ _ _ _ _ _ _ _ _ _ _ _ e
      · replace e := ite_f c9 e
        refine eb_n 2 (278, [.ref a0, .ref a1, .int a2, .int a3, .ref x6, d5, d6, d7, d8, d9], [.int (nI 0)], h) (rfl) ?_
        exact f_Sim_pass_b278_ev d hd k235 hk235 _ _ _ _ _ _ _ _ _ _ _ _ e
    · replace e := ite_f c8 e
      refine eb_n 2 (257, [.ref a0, .ref a1, .int a2, .int a3, .ref x6, d5, d6, d7, d8, d9], [.int (nI 2), .ref x6], h) (rfl) ?_
      obtain ⟨g11, e⟩ := gd_some e
      refine eb_g (p := hT h x6 = 101 ∧ inb (nI 2) (hL h x6)) (258, [.ref a0, .ref a1, .int a2, .int a3, .ref x6, d5, d6, d7, d8, d9], [.int (hI h x6 (ix (nI 2)))], h) rfl g11 ?_
      refine eb_n 1 (278, [.ref a0, .ref a1, .int a2, .int a3, .ref x6, d5, d6, d7, d8, d9], [.int (hI h x6 (ix (nI 2)))], h) (rfl) ?_
      exact f_Sim_pass_b278_ev d hd k235 hk235 _ _ _ _ _ _ _ _ _ _ _ _ e
set_option maxRecDepth 100000 in
set_option maxHeartbeats 4000000 in
theorem f_Sim_pass_l235_ev {h' : AH} (d : Nat) (hd : 2 ≤ d)  : ∀ (n : Nat) (h : AH) (a0 : Nat) (a1 : Nat) (a2 : Int32) (a3 : Int32)  (d4 : Value) (d5 : Value) (d6 : Value) (d7 : Value) (d8 : Value) (d9 : Value) (_ : f_Sim_pass_l235  n h a0 a1 a2 a3 = some h'), Eb (Ev tb mL d) 20 (235, [.ref a0, .ref a1, .int a2, .int a3, d4, d5, d6, d7, d8, d9], [], h) h' none := by
  intro n
  induction n with
  | zero => intro h a0 a1 a2 a3 d4 d5 d6 d7 d8 d9 e; exact nomatch e
  | succ n ih =>
    intro h a0 a1 a2 a3 d4 d5 d6 d7 d8 d9 e
    exact f_Sim_pass_b235_ev d hd _ (fun h a0 a1 a2 a3 d4 d5 d6 d7 d8 d9 e => ih h a0 a1 a2 a3 d4 d5 d6 d7 d8 d9 e) h a0 a1 a2 a3 d4 d5 d6 d7 d8 d9 e
set_option maxRecDepth 100000 in
set_option maxHeartbeats 4000000 in
theorem f_Sim_pass_b225_ev {h' : AH} (d : Nat) (hd : 2 ≤ d)  (h : AH) (a0 : Nat)  (d1 : Value) (d2 : Value) (d3 : Value) (d4 : Value) (d5 : Value) (d6 : Value) (d7 : Value) (d8 : Value) (d9 : Value) (e : f_Sim_pass_b225  h a0 = some h') : Eb (Ev tb mL d) 20 (225, [.ref a0, d1, d2, d3, d4, d5, d6, d7, d8, d9], [], h) h' none := by
  unfold f_Sim_pass_b225 at e
  refine eb_n 1 (226, [.ref a0, d1, d2, d3, d4, d5, d6, d7, d8, d9], [.ref a0], h) (rfl) ?_
  obtain ⟨g1, e⟩ := gd_some e
  refine eb_g (p := hT h a0 = 13) (229, [.ref a0, d1, d2, d3, d4, d5, d6, d7, d8, d9], [.ref (hR h a0 15)], h) rfl g1 ?_
  obtain ⟨x2, hx2, e⟩ := lq_some e
  refine eb_n 1 (230, [.ref a0, .ref x2, d2, d3, d4, d5, d6, d7, d8, d9], [], h) (by subst hx2; rfl) ?_
  refine eb_n 1 (231, [.ref a0, .ref x2, d2, d3, d4, d5, d6, d7, d8, d9], [.ref x2], h) (rfl) ?_
  obtain ⟨g3, e⟩ := gd_some e
  refine eb_g (p := hT h x2 = 109) (232, [.ref a0, .ref x2, d2, d3, d4, d5, d6, d7, d8, d9], [.int (nI (hL h x2))], h) rfl g3 ?_
  obtain ⟨x4, hx4, e⟩ := lq_some e
  refine eb_n 1 (233, [.ref a0, .ref x2, .int x4, d3, d4, d5, d6, d7, d8, d9], [], h) (by subst hx4; rfl) ?_
  refine eb_n 2 (235, [.ref a0, .ref x2, .int x4, .int (nI 0), d4, d5, d6, d7, d8, d9], [], h) (rfl) ?_
  exact f_Sim_pass_l235_ev d hd   FU _ _ _ _ _ _ _ _ _ _ _ e
set_option maxRecDepth 100000 in
set_option maxHeartbeats 4000000 in
theorem f_Sim_pass_b218_ev {h' : AH} (d : Nat) (hd : 2 ≤ d) (k177 : AH → Nat → Nat → Int32 → Int32 → Option AH) (hk177 : ∀ (h : AH) (a0 : Nat) (a1 : Nat) (a2 : Int32) (a3 : Int32)  (d4 : Value) (d5 : Value) (d6 : Value) (d7 : Value) (d8 : Value) (d9 : Value), k177 h a0 a1 a2 a3 = some h' → Eb (Ev tb mL d) 20 (177, [.ref a0, .ref a1, .int a2, .int a3, d4, d5, d6, d7, d8, d9], [], h) h' none)  (h : AH) (a0 : Nat) (a1 : Nat) (a2 : Int32) (a3 : Int32) (s0 : Nat) (s1 : Int32) (s2 : Int32) (d4 : Value) (d5 : Value) (d6 : Value) (d7 : Value) (d8 : Value) (d9 : Value) (e : f_Sim_pass_b218 k177 h a0 a1 a2 a3 s0 s1 s2 = some h') : Eb (Ev tb mL d) 20 (218, [.ref a0, .ref a1, .int a2, .int a3, d4, d5, d6, d7, d8, d9], [.int s2, .int s1, .ref s0], h) h' none := by
  unfold f_Sim_pass_b218 at e
  obtain ⟨g1, e⟩ := gd_some e
  obtain ⟨h2, eh2, e⟩ := lq_some e
  refine eb_g (p := hT h s0 = 101 ∧ inb s1 (hL h s0)) (219, [.ref a0, .ref a1, .int a2, .int a3, d4, d5, d6, d7, d8, d9], [], h2) (by rw [eh2]; rfl) g1 ?_
  obtain ⟨x3, hx3, e⟩ := lq_some e
  refine eb_n 1 (222, [.ref a0, .ref a1, .int a2, .int x3, d4, d5, d6, d7, d8, d9], [], h2) (by subst hx3; rfl) ?_
  refine eb_n 1 (177, [.ref a0, .ref a1, .int a2, .int x3, d4, d5, d6, d7, d8, d9], [], h2) (rfl) ?_
  exact hk177 _ _ _ _ _ _ _ _ _ _ _ e
set_option maxRecDepth 100000 in
set_option maxHeartbeats 4000000 in
theorem f_Sim_pass_b177_ev {h' : AH} (d : Nat) (hd : 2 ≤ d) (k177 : AH → Nat → Nat → Int32 → Int32 → Option AH) (hk177 : ∀ (h : AH) (a0 : Nat) (a1 : Nat) (a2 : Int32) (a3 : Int32)  (d4 : Value) (d5 : Value) (d6 : Value) (d7 : Value) (d8 : Value) (d9 : Value), k177 h a0 a1 a2 a3 = some h' → Eb (Ev tb mL d) 20 (177, [.ref a0, .ref a1, .int a2, .int a3, d4, d5, d6, d7, d8, d9], [], h) h' none)  (h : AH) (a0 : Nat) (a1 : Nat) (a2 : Int32) (a3 : Int32)  (d4 : Value) (d5 : Value) (d6 : Value) (d7 : Value) (d8 : Value) (d9 : Value) (e : f_Sim_pass_b177 k177 h a0 a1 a2 a3 = some h') : Eb (Ev tb mL d) 20 (177, [.ref a0, .ref a1, .int a2, .int a3, d4, d5, d6, d7, d8, d9], [], h) h' none := by
  unfold f_Sim_pass_b177 at e
  refine eb_n 2 (179, [.ref a0, .ref a1, .int a2, .int a3, d4, d5, d6, d7, d8, d9], [.int a2, .int a3], h) (rfl) ?_
  refine eb_b (c := a2 ≤ a3) (225, [.ref a0, .ref a1, .int a2, .int a3, d4, d5, d6, d7, d8, d9], [], h) (182, [.ref a0, .ref a1, .int a2, .int a3, d4, d5, d6, d7, d8, d9], [], h) rfl (fun c1 => ?_) (fun c1 => ?_)
  · replace e := ite_t c1 e
    exact f_Sim_pass_b225_ev d hd   _ _ _ _ _ _ _ _ _ _ _ e
  · replace e := ite_f c1 e
    refine eb_n 2 (184, [.ref a0, .ref a1, .int a2, .int a3, d4, d5, d6, d7, d8, d9], [.int a3, .ref a1], h) (rfl) ?_
    obtain ⟨g2, e⟩ := gd_some e
    refine eb_g (p := hT h a1 = 109 ∧ inb a3 (hL h a1)) (185, [.ref a0, .ref a1, .int a2, .int a3, d4, d5, d6, d7, d8, d9], [.ref (hR h a1 (ix a3))], h) rfl g2 ?_
    obtain ⟨x3, hx3, e⟩ := lq_some e
    refine eb_n 1 (187, [.ref a0, .ref a1, .int a2, .int a3, .ref x3, d5, d6, d7, d8, d9], [], h) (by subst hx3; rfl) ?_
    refine eb_n 4 (193, [.ref a0, .ref a1, .int a2, .int a3, .ref x3, d5, d6, d7, d8, d9], [.int (nI 0), .ref x3, .int (nI 0), .ref x3], h) (rfl) ?_
    obtain ⟨g4, e⟩ := gd_some e
    refine eb_g (p := hT h x3 = 101 ∧ inb (nI 0) (hL h x3)) (194, [.ref a0, .ref a1, .int a2, .int a3, .ref x3, d5, d6, d7, d8, d9], [.int (hI h x3 (ix (nI 0))), .int (nI 0), .ref x3], h) rfl g4 ?_
    refine eb_n 2 (197, [.ref a0, .ref a1, .int a2, .int a3, .ref x3, d5, d6, d7, d8, d9], [.int (nI 1), .ref x3, .int (hI h x3 (ix (nI 0))), .int (nI 0), .ref x3], h) (rfl) ?_
    obtain ⟨g5, e⟩ := gd_some e
    refine eb_g (p := hT h x3 = 101 ∧ inb (nI 1) (hL h x3)) (198, [.ref a0, .ref a1, .int a2, .int a3, .ref x3, d5, d6, d7, d8, d9], [.int (hI h x3 (ix (nI 1))), .int (hI h x3 (ix (nI 0))), .int (nI 0), .ref x3], h) rfl g5 ?_
    refine eb_n 2 (201, [.ref a0, .ref a1, .int a2, .int a3, .ref x3, d5, d6, d7, d8, d9], [.int (nI 99), .int ((hI h x3 (ix (nI 0))) + (hI h x3 (ix (nI 1)))), .int (nI 0), .ref x3], h) (rfl) ?_
    refine eb_b (c := ((hI h x3 (ix (nI 0))) + (hI h x3 (ix (nI 1)))) ≤ (nI 99)) (209, [.ref a0, .ref a1, .int a2, .int a3, .ref x3, d5, d6, d7, d8, d9], [.int (nI 0), .ref x3], h) (204, [.ref a0, .ref a1, .int a2, .int a3, .ref x3, d5, d6, d7, d8, d9], [.int (nI 0), .ref x3], h) rfl (fun c6 => ?_) (fun c6 => ?_)
    · replace e := ite_t c6 e
      refine eb_n 2 (212, [.ref a0, .ref a1, .int a2, .int a3, .ref x3, d5, d6, d7, d8, d9], [.int (nI 0), .ref x3, .int (nI 0), .ref x3], h) (rfl) ?_
      refine eb_g (p := hT h x3 = 101 ∧ inb (nI 0) (hL h x3)) (213, [.ref a0, .ref a1, .int a2, .int a3, .ref x3, d5, d6, d7, d8, d9], [.int (hI h x3 (ix (nI 0))), .int (nI 0), .ref x3], h) rfl g4 ?_
      refine eb_n 2 (216, [.ref a0, .ref a1, .int a2, .int a3, .ref x3, d5, d6, d7, d8, d9], [.int (nI 1), .ref x3, .int (hI h x3 (ix (nI 0))), .int (nI 0), .ref x3], h) (rfl) ?_
      refine eb_g (p := hT h x3 = 101 ∧ inb (nI 1) (hL h x3)) (217, [.ref a0, .ref a1, .int a2, .int a3, .ref x3, d5, d6, d7, d8, d9], [.int (hI h x3 (ix (nI 1))), .int (hI h x3 (ix (nI 0))), .int (nI 0), .ref x3], h) rfl g5 ?_
      refine eb_n 1 (218, [.ref a0, .ref a1, .int a2, .int a3, .ref x3, d5, d6, d7, d8, d9], [.int ((hI h x3 (ix (nI 0))) + (hI h x3 (ix (nI 1)))), .int (nI 0), .ref x3], h) (rfl) ?_
      exact f_Sim_pass_b218_ev d hd k177 hk177 _ _ _ _ _ _ _ _ _ _ _ _ _ _ e
    · replace e := ite_f c6 e
      refine eb_n 2 (218, [.ref a0, .ref a1, .int a2, .int a3, .ref x3, d5, d6, d7, d8, d9], [.int (nI 99), .int (nI 0), .ref x3], h) (rfl) ?_
      exact f_Sim_pass_b218_ev d hd k177 hk177 _ _ _ _ _ _ _ _ _ _ _ _ _ _ e
set_option maxRecDepth 100000 in
set_option maxHeartbeats 4000000 in
theorem f_Sim_pass_l177_ev {h' : AH} (d : Nat) (hd : 2 ≤ d)  : ∀ (n : Nat) (h : AH) (a0 : Nat) (a1 : Nat) (a2 : Int32) (a3 : Int32)  (d4 : Value) (d5 : Value) (d6 : Value) (d7 : Value) (d8 : Value) (d9 : Value) (_ : f_Sim_pass_l177  n h a0 a1 a2 a3 = some h'), Eb (Ev tb mL d) 20 (177, [.ref a0, .ref a1, .int a2, .int a3, d4, d5, d6, d7, d8, d9], [], h) h' none := by
  intro n
  induction n with
  | zero => intro h a0 a1 a2 a3 d4 d5 d6 d7 d8 d9 e; exact nomatch e
  | succ n ih =>
    intro h a0 a1 a2 a3 d4 d5 d6 d7 d8 d9 e
    exact f_Sim_pass_b177_ev d hd _ (fun h a0 a1 a2 a3 d4 d5 d6 d7 d8 d9 e => ih h a0 a1 a2 a3 d4 d5 d6 d7 d8 d9 e) h a0 a1 a2 a3 d4 d5 d6 d7 d8 d9 e
set_option maxRecDepth 100000 in
set_option maxHeartbeats 4000000 in
theorem f_Sim_pass_b151_ev {h' : AH} (d : Nat) (hd : 2 ≤ d) (k42 : AH → Nat → Nat → Int32 → Int32 → Option AH) (hk42 : ∀ (h : AH) (a0 : Nat) (a1 : Nat) (a2 : Int32) (a3 : Int32)  (d4 : Value) (d5 : Value) (d6 : Value) (d7 : Value) (d8 : Value) (d9 : Value), k42 h a0 a1 a2 a3 = some h' → Eb (Ev tb mL d) 20 (42, [.ref a0, .ref a1, .int a2, .int a3, d4, d5, d6, d7, d8, d9], [], h) h' none)  (h : AH) (a0 : Nat) (a1 : Nat) (a2 : Int32) (a3 : Int32)  (d4 : Value) (d5 : Value) (d6 : Value) (d7 : Value) (d8 : Value) (d9 : Value) (e : f_Sim_pass_b151 k42 h a0 a1 a2 a3 = some h') : Eb (Ev tb mL d) 20 (151, [.ref a0, .ref a1, .int a2, .int a3, d4, d5, d6, d7, d8, d9], [], h) h' none := by
  unfold f_Sim_pass_b151 at e
  obtain ⟨x1, hx1, e⟩ := lq_some e
  refine eb_n 1 (154, [.ref a0, .ref a1, .int a2, .int x1, d4, d5, d6, d7, d8, d9], [], h) (by subst hx1; rfl) ?_
  refine eb_n 1 (42, [.ref a0, .ref a1, .int a2, .int x1, d4, d5, d6, d7, d8, d9], [], h) (rfl) ?_
  exact hk42 _ _ _ _ _ _ _ _ _ _ _ e
set_option maxRecDepth 100000 in
set_option maxHeartbeats 4000000 in
theorem f_Sim_pass_b141_ev {h' : AH} (d : Nat) (hd : 2 ≤ d) (k42 : AH → Nat → Nat → Int32 → Int32 → Option AH) (hk42 : ∀ (h : AH) (a0 : Nat) (a1 : Nat) (a2 : Int32) (a3 : Int32)  (d4 : Value) (d5 : Value) (d6 : Value) (d7 : Value) (d8 : Value) (d9 : Value), k42 h a0 a1 a2 a3 = some h' → Eb (Ev tb mL d) 20 (42, [.ref a0, .ref a1, .int a2, .int a3, d4, d5, d6, d7, d8, d9], [], h) h' none)  (h : AH) (a0 : Nat) (a1 : Nat) (a2 : Int32) (a3 : Int32)  (d4 : Value) (d5 : Value) (d6 : Value) (d7 : Value) (d8 : Value) (d9 : Value) (e : f_Sim_pass_b141 k42 h a0 a1 a2 a3 = some h') : Eb (Ev tb mL d) 20 (141, [.ref a0, .ref a1, .int a2, .int a3, d4, d5, d6, d7, d8, d9], [], h) h' none := by
  unfold f_Sim_pass_b141 at e
  refine eb_n 2 (143, [.ref a0, .ref a1, .int a2, .int a3, d4, d5, d6, d7, d8, d9], [.ref a0, .ref a0], h) (rfl) ?_
  obtain ⟨g1, e⟩ := gd_some e
  refine eb_g (p := hT h a0 = 13) (146, [.ref a0, .ref a1, .int a2, .int a3, d4, d5, d6, d7, d8, d9], [.int (hI h a0 4), .ref a0], h) rfl g1 ?_
  refine eb_n 2 (148, [.ref a0, .ref a1, .int a2, .int a3, d4, d5, d6, d7, d8, d9], [.int ((hI h a0 4) + (nI 1)), .ref a0], h) (rfl) ?_
  obtain ⟨h2, eh2, e⟩ := lq_some e
  refine eb_g (p := hT h a0 = 13) (151, [.ref a0, .ref a1, .int a2, .int a3, d4, d5, d6, d7, d8, d9], [], h2) (by rw [eh2]; rfl) g1 ?_
  exact f_Sim_pass_b151_ev d hd k42 hk42 _ _ _ _ _ _ _ _ _ _ _ e
set_option maxRecDepth 100000 in
set_option maxHeartbeats 4000000 in
theorem f_Sim_pass_b42_ev {h' : AH} (d : Nat) (hd : 2 ≤ d) (k42 : AH → Nat → Nat → Int32 → Int32 → Option AH) (hk42 : ∀ (h : AH) (a0 : Nat) (a1 : Nat) (a2 : Int32) (a3 : Int32)  (d4 : Value) (d5 : Value) (d6 : Value) (d7 : Value) (d8 : Value) (d9 : Value), k42 h a0 a1 a2 a3 = some h' → Eb (Ev tb mL d) 20 (42, [.ref a0, .ref a1, .int a2, .int a3, d4, d5, d6, d7, d8, d9], [], h) h' none)  (h : AH) (a0 : Nat) (a1 : Nat) (a2 : Int32) (a3 : Int32)  (d4 : Value) (d5 : Value) (d6 : Value) (d7 : Value) (d8 : Value) (d9 : Value) (e : f_Sim_pass_b42 k42 h a0 a1 a2 a3 = some h') : Eb (Ev tb mL d) 20 (42, [.ref a0, .ref a1, .int a2, .int a3, d4, d5, d6, d7, d8, d9], [], h) h' none := by
  unfold f_Sim_pass_b42 at e
  refine eb_n 2 (44, [.ref a0, .ref a1, .int a2, .int a3, d4, d5, d6, d7, d8, d9], [.int a2, .int a3], h) (rfl) ?_
  refine eb_b (c := a2 ≤ a3) (157, [.ref a0, .ref a1, .int a2, .int a3, d4, d5, d6, d7, d8, d9], [], h) (47, [.ref a0, .ref a1, .int a2, .int a3, d4, d5, d6, d7, d8, d9], [], h) rfl (fun c1 => ?_) (fun c1 => ?_)
  · replace e := ite_t c1 e
    refine eb_n 1 (158, [.ref a0, .ref a1, .int a2, .int a3, d4, d5, d6, d7, d8, d9], [.ref a0], h) (rfl) ?_
    obtain ⟨g2, e⟩ := gd_some e
    refine eb_g (p := hT h a0 = 13) (161, [.ref a0, .ref a1, .int a2, .int a3, d4, d5, d6, d7, d8, d9], [.int (hI h a0 0)], h) rfl g2 ?_
    refine eb_n 1 (163, [.ref a0, .ref a1, .int a2, .int a3, d4, d5, d6, d7, d8, d9], [.int (nI 12), .int (hI h a0 0)], h) (rfl) ?_
    refine eb_g (p := ¬ (nI 12) = 0) (164, [.ref a0, .ref a1, .int a2, .int a3, d4, d5, d6, d7, d8, d9], [.int ((hI h a0 0) - (hI h a0 0) / (nI 12) * (nI 12))], h) rfl (by decide) ?_
    refine eb_b (c := ¬ ((hI h a0 0) - (hI h a0 0) / (nI 12) * (nI 12)) = 0) (225, [.ref a0, .ref a1, .int a2, .int a3, d4, d5, d6, d7, d8, d9], [], h) (167, [.ref a0, .ref a1, .int a2, .int a3, d4, d5, d6, d7, d8, d9], [], h) rfl (fun c3 => ?_) (fun c3 => ?_)
    · replace e := ite_t c3 e
      exact f_Sim_pass_b225_ev d hd   _ _ _ _ _ _ _ _ _ _ _ e
    · replace e := ite_f c3 e
      refine eb_n 1 (168, [.ref a0, .ref a1, .int a2, .int a3, d4, d5, d6, d7, d8, d9], [.ref a0], h) (rfl) ?_
      refine eb_g (p := hT h a0 = 13) (171, [.ref a0, .ref a1, .int a2, .int a3, d4, d5, d6, d7, d8, d9], [.ref (hR h a0 12)], h) rfl g2 ?_
      obtain ⟨x4, hx4, e⟩ := lq_some e
      refine eb_n 1 (172, [.ref a0, .ref x4, .int a2, .int a3, d4, d5, d6, d7, d8, d9], [], h) (by subst hx4; rfl) ?_
      refine eb_n 1 (173, [.ref a0, .ref x4, .int a2, .int a3, d4, d5, d6, d7, d8, d9], [.ref x4], h) (rfl) ?_
      obtain ⟨g5, e⟩ := gd_some e
      refine eb_g (p := hT h x4 = 109) (174, [.ref a0, .ref x4, .int a2, .int a3, d4, d5, d6, d7, d8, d9], [.int (nI (hL h x4))], h) rfl g5 ?_
      obtain ⟨x6, hx6, e⟩ := lq_some e
      refine eb_n 1 (175, [.ref a0, .ref x4, .int x6, .int a3, d4, d5, d6, d7, d8, d9], [], h) (by subst hx6; rfl) ?_
      refine eb_n 2 (177, [.ref a0, .ref x4, .int x6, .int (nI 0), d4, d5, d6, d7, d8, d9], [], h) (rfl) ?_
      exact f_Sim_pass_l177_ev d hd   FU _ _ _ _ _ _ _ _ _ _ _ e
  · replace e := ite_f c1 e
    refine eb_n 2 (49, [.ref a0, .ref a1, .int a2, .int a3, d4, d5, d6, d7, d8, d9], [.int a3, .ref a1], h) (rfl) ?_
    obtain ⟨g7, e⟩ := gd_some e
    refine eb_g (p := hT h a1 = 109 ∧ inb a3 (hL h a1)) (50, [.ref a0, .ref a1, .int a2, .int a3, d4, d5, d6, d7, d8, d9], [.ref (hR h a1 (ix a3))], h) rfl g7 ?_
    obtain ⟨x8, hx8, e⟩ := lq_some e
    refine eb_n 1 (52, [.ref a0, .ref a1, .int a2, .int a3, .ref x8, d5, d6, d7, d8, d9], [], h) (by subst hx8; rfl) ?_
    refine eb_n 2 (55, [.ref a0, .ref a1, .int a2, .int a3, .ref x8, d5, d6, d7, d8, d9], [.ref x8, .ref a0], h) (rfl) ?_
    obtain ⟨g9, e⟩ := gd_some e
    obtain ⟨h10, r11, eh10, e⟩ := bn_some e
    refine eb_cg (p := hT h a0 = 13) rfl g9 (f_Sim_holds_ev d (Nat.le_trans (by decide) hd) eh10) ?_
    show Eb _ 20 (58, [.ref a0, .ref a1, .int a2, .int a3, .ref x8, d5, d6, d7, d8, d9], [.int r11], h10) _ _
    refine eb_b (c := ¬ r11 = 0) (64, [.ref a0, .ref a1, .int a2, .int a3, .ref x8, d5, d6, d7, d8, d9], [], h10) (61, [.ref a0, .ref a1, .int a2, .int a3, .ref x8, d5, d6, d7, d8, d9], [], h10) rfl (fun c12 => ?_) (fun c12 => ?_)
    · replace e := ite_t c12 e
      refine eb_n 2 (67, [.ref a0, .ref a1, .int a2, .int a3, .ref x8, d5, d6, d7, d8, d9], [.int (nI 0), .ref x8], h10) (rfl) ?_
      obtain ⟨g13, e⟩ := gd_some e
      refine eb_g (p := hT h10 x8 = 101 ∧ inb (nI 0) (hL h10 x8)) (68, [.ref a0, .ref a1, .int a2, .int a3, .ref x8, d5, d6, d7, d8, d9], [.int (hI h10 x8 (ix (nI 0)))], h10) rfl g13 ?_
      refine eb_b (c := ¬ (hI h10 x8 (ix (nI 0))) = 0) (96, [.ref a0, .ref a1, .int a2, .int a3, .ref x8, d5, d6, d7, d8, d9], [], h10) (71, [.ref a0, .ref a1, .int a2, .int a3, .ref x8, d5, d6, d7, d8, d9], [], h10) rfl (fun c14 => ?_) (fun c14 => ?_)
      · replace e := ite_t c14 e
        refine eb_n 2 (99, [.ref a0, .ref a1, .int a2, .int a3, .ref x8, d5, d6, d7, d8, d9], [.int (nI 0), .ref x8], h10) (rfl) ?_
        refine eb_g (p := hT h10 x8 = 101 ∧ inb (nI 0) (hL h10 x8)) (100, [.ref a0, .ref a1, .int a2, .int a3, .ref x8, d5, d6, d7, d8, d9], [.int (hI h10 x8 (ix (nI 0)))], h10) rfl g13 ?_
        refine eb_n 1 (101, [.ref a0, .ref a1, .int a2, .int a3, .ref x8, d5, d6, d7, d8, d9], [.int (nI 1), .int (hI h10 x8 (ix (nI 0)))], h10) (rfl) ?_
        refine eb_b (c := ¬ (hI h10 x8 (ix (nI 0))) = (nI 1)) (128, [.ref a0, .ref a1, .int a2, .int a3, .ref x8, d5, d6, d7, d8, d9], [], h10) (104, [.ref a0, .ref a1, .int a2, .int a3, .ref x8, d5, d6, d7, d8, d9], [], h10) rfl (fun c15 => ?_) (fun c15 => ?_)
        · replace e := ite_t c15 e
          refine eb_n 1 (129, [.ref a0, .ref a1, .int a2, .int a3, .ref x8, d5, d6, d7, d8, d9], [.ref a0], h10) (rfl) ?_
          obtain ⟨g16, e⟩ := gd_some e
          refine eb_g (p := hT h10 a0 = 13) (132, [.ref a0, .ref a1, .int a2, .int a3, .ref x8, d5, d6, d7, d8, d9], [.ref (hR h10 a0 15)], h10) rfl g16 ?_
          refine eb_n 2 (135, [.ref a0, .ref a1, .int a2, .int a3, .ref x8, d5, d6, d7, d8, d9], [.int (nI 1), .ref x8, .ref (hR h10 a0 15)], h10) (rfl) ?_
          obtain ⟨g17, e⟩ := gd_some e
          refine eb_g (p := hT h10 x8 = 101 ∧ inb (nI 1) (hL h10 x8)) (136, [.ref a0, .ref a1, .int a2, .int a3, .ref x8, d5, d6, d7, d8, d9], [.int (hI h10 x8 (ix (nI 1))), .ref (hR h10 a0 15)], h10) rfl g17 ?_
          obtain ⟨g18, e⟩ := gd_some e
          refine eb_g (p := hT h10 (hR h10 a0 15) = 109 ∧ inb (hI h10 x8 (ix (nI 1))) (hL h10 (hR h10 a0 15))) (137, [.ref a0, .ref a1, .int a2, .int a3, .ref x8, d5, d6, d7, d8, d9], [.ref (hR h10 (hR h10 a0 15) (ix (hI h10 x8 (ix (nI 1)))))], h10) rfl g18 ?_
          refine eb_n 2 (140, [.ref a0, .ref a1, .int a2, .int a3, .ref x8, d5, d6, d7, d8, d9], [.int (nI 1), .int (nI 6), .ref (hR h10 (hR h10 a0 15) (ix (hI h10 x8 (ix (nI 1)))))], h10) (rfl) ?_
          obtain ⟨g19, e⟩ := gd_some e
          obtain ⟨h20, eh20, e⟩ := lq_some e
          refine eb_g (p := hT h10 (hR h10 (hR h10 a0 15) (ix (hI h10 x8 (ix (nI 1))))) = 101 ∧ inb (nI 6) (hL h10 (hR h10 (hR h10 a0 15) (ix (hI h10 x8 (ix (nI 1))))))) (141, [.ref a0, .ref a1, .int a2, .int a3, .ref x8, d5, d6, d7, d8, d9], [], h20) (by rw [eh20]; rfl) g19 ?_
          exact f_Sim_pass_b141_ev d hd k42 hk42 _ _ _ _ _ _ _ _ _ _ _ e
        · replace e := ite_f c15 e
          refine eb_n 3 (108, [.ref a0, .ref a1, .int a2, .int a3, .ref x8, d5, d6, d7, d8, d9], [.int (nI 1), .ref x8, .ref a0], h10) (rfl) ?_
          obtain ⟨g21, e⟩ := gd_some e
          refine eb_g (p := hT h10 x8 = 101 ∧ inb (nI 1) (hL h10 x8)) (109, [.ref a0, .ref a1, .int a2, .int a3, .ref x8, d5, d6, d7, d8, d9], [.int (hI h10 x8 (ix (nI 1))), .ref a0], h10) rfl g21 ?_
          refine eb_n 2 (112, [.ref a0, .ref a1, .int a2, .int a3, .ref x8, d5, d6, d7, d8, d9], [.int (nI 2), .ref x8, .int (hI h10 x8 (ix (nI 1))), .ref a0], h10) (rfl) ?_
          obtain ⟨g22, e⟩ := gd_some e
          refine eb_g (p := hT h10 x8 = 101 ∧ inb (nI 2) (hL h10 x8)) (113, [.ref a0, .ref a1, .int a2, .int a3, .ref x8, d5, d6, d7, d8, d9], [.int (hI h10 x8 (ix (nI 2))), .int (hI h10 x8 (ix (nI 1))), .ref a0], h10) rfl g22 ?_
          refine eb_n 2 (116, [.ref a0, .ref a1, .int a2, .int a3, .ref x8, d5, d6, d7, d8, d9], [.ref x8, .ref a0, .int (hI h10 x8 (ix (nI 2))), .int (hI h10 x8 (ix (nI 1))), .ref a0], h10) (rfl) ?_
          obtain ⟨g23, e⟩ := gd_some e
          obtain ⟨h24, r25, eh24, e⟩ := bn_some e
          refine eb_cg (p := hT h10 a0 = 13) rfl g23 (f_Sim_sum_ev d (Nat.le_trans (by decide) hd) eh24) ?_
          show Eb _ 20 (119, [.ref a0, .ref a1, .int a2, .int a3, .ref x8, d5, d6, d7, d8, d9], [.int r25, .int (hI h10 x8 (ix (nI 2))), .int (hI h10 x8 (ix (nI 1))), .ref a0], h24) _ _
          obtain ⟨g26, e⟩ := gd_some e
          obtain ⟨h27, r28, eh27, e⟩ := bn_some e
          refine eb_cg (p := hT h24 a0 = 13) rfl g26 (f_Sim_load_ev d (Nat.le_trans (by decide) hd) eh27) ?_
          show Eb _ 20 (122, [.ref a0, .ref a1, .int a2, .int a3, .ref x8, d5, d6, d7, d8, d9], [.int r28], h27) _ _
          refine eb_b (c := ¬ r28 = 0) (141, [.ref a0, .ref a1, .int a2, .int a3, .ref x8, d5, d6, d7, d8, d9], [], h27) (125, [.ref a0, .ref a1, .int a2, .int a3, .ref x8, d5, d6, d7, d8, d9], [], h27) rfl (fun c29 => ?_) (fun c29 => ?_)
          · replace e := ite_t c29 e
            exact f_Sim_pass_b141_ev d hd k42 hk42 _ _ _ _ _ _ _ _ _ _ _ e
          · replace e := ite_f c29 e
            refine eb_n 1 (151, [.ref a0, .ref a1, .int a2, .int a3, .ref x8, d5, d6, d7, d8, d9], [], h27) (rfl) ?_
            exact f_Sim_pass_b151_ev d hd k42 hk42 _ _ _ _ _ _ _ _ _ _ _ e
      · replace e := ite_f c14 e
        refine eb_n 3 (75, [.ref a0, .ref a1, .int a2, .int a3, .ref x8, d5, d6, d7, d8, d9], [.int (nI 1), .ref x8, .ref a0], h10) (rfl) ?_
        obtain ⟨g30, e⟩ := gd_some e
        refine eb_g (p := hT h10 x8 = 101 ∧ inb (nI 1) (hL h10 x8)) (76, [.ref a0, .ref a1, .int a2, .int a3, .ref x8, d5, d6, d7, d8, d9], [.int (hI h10 x8 (ix (nI 1))), .ref a0], h10) rfl g30 ?_
        obtain ⟨g31, e⟩ := gd_some e
        obtain ⟨h32, r33, eh32, e⟩ := bn_some e
        refine eb_cg (p := hT h10 a0 = 13) rfl g31 (f_Sim_canWhet_ev d (Nat.le_trans (by decide) hd) eh32) ?_
        show Eb _ 20 (79, [.ref a0, .ref a1, .int a2, .int a3, .ref x8, d5, d6, d7, d8, d9], [.int r33], h32) _ _
        refine eb_b (c := ¬ r33 = 0) (85, [.ref a0, .ref a1, .int a2, .int a3, .ref x8, d5, d6, d7, d8, d9], [], h32) (82, [.ref a0, .ref a1, .int a2, .int a3, .ref x8, d5, d6, d7, d8, d9], [], h32) rfl (fun c34 => ?_) (fun c34 => ?_)
        · replace e := ite_t c34 e
          refine eb_n 3 (89, [.ref a0, .ref a1, .int a2, .int a3, .ref x8, d5, d6, d7, d8, d9], [.int (nI 1), .ref x8, .ref a0], h32) (rfl) ?_
          obtain ⟨g35, e⟩ := gd_some e
          refine eb_g (p := hT h32 x8 = 101 ∧ inb (nI 1) (hL h32 x8)) (90, [.ref a0, .ref a1, .int a2, .int a3, .ref x8, d5, d6, d7, d8, d9], [.int (hI h32 x8 (ix (nI 1))), .ref a0], h32) rfl g35 ?_
          obtain ⟨g36, e⟩ := gd_some e
          obtain ⟨h37, eh37, e⟩ := bv_some e
          refine eb_cg (p := hT h32 a0 = 13) rfl g36 (f_Sim_whet_ev d (Nat.le_trans (by decide) hd) eh37) ?_
          show Eb _ 20 (93, [.ref a0, .ref a1, .int a2, .int a3, .ref x8, d5, d6, d7, d8, d9], [], h37) _ _
          refine eb_n 1 (141, [.ref a0, .ref a1, .int a2, .int a3, .ref x8, d5, d6, d7, d8, d9], [], h37) (rfl) ?_
          exact f_Sim_pass_b141_ev d hd k42 hk42 _ _ _ _ _ _ _ _ _ _ _ e
        · replace e := ite_f c34 e
          refine eb_n 1 (151, [.ref a0, .ref a1, .int a2, .int a3, .ref x8, d5, d6, d7, d8, d9], [], h32) (rfl) ?_
          exact f_Sim_pass_b151_ev d hd k42 hk42 _ _ _ _ _ _ _ _ _ _ _ e
    · replace e := ite_f c12 e
      refine eb_n 1 (151, [.ref a0, .ref a1, .int a2, .int a3, .ref x8, d5, d6, d7, d8, d9], [], h10) (rfl) ?_
      exact f_Sim_pass_b151_ev d hd k42 hk42 _ _ _ _ _ _ _ _ _ _ _ e
set_option maxRecDepth 100000 in
set_option maxHeartbeats 4000000 in
theorem f_Sim_pass_l42_ev {h' : AH} (d : Nat) (hd : 2 ≤ d)  : ∀ (n : Nat) (h : AH) (a0 : Nat) (a1 : Nat) (a2 : Int32) (a3 : Int32)  (d4 : Value) (d5 : Value) (d6 : Value) (d7 : Value) (d8 : Value) (d9 : Value) (_ : f_Sim_pass_l42  n h a0 a1 a2 a3 = some h'), Eb (Ev tb mL d) 20 (42, [.ref a0, .ref a1, .int a2, .int a3, d4, d5, d6, d7, d8, d9], [], h) h' none := by
  intro n
  induction n with
  | zero => intro h a0 a1 a2 a3 d4 d5 d6 d7 d8 d9 e; exact nomatch e
  | succ n ih =>
    intro h a0 a1 a2 a3 d4 d5 d6 d7 d8 d9 e
    exact f_Sim_pass_b42_ev d hd _ (fun h a0 a1 a2 a3 d4 d5 d6 d7 d8 d9 e => ih h a0 a1 a2 a3 d4 d5 d6 d7 d8 d9 e) h a0 a1 a2 a3 d4 d5 d6 d7 d8 d9 e
set_option maxRecDepth 100000 in
set_option maxHeartbeats 4000000 in
theorem f_Sim_pass_b10_ev {h' : AH} (d : Nat) (hd : 2 ≤ d) (k10 : AH → Nat → Nat → Int32 → Int32 → Option AH) (hk10 : ∀ (h : AH) (a0 : Nat) (a1 : Nat) (a2 : Int32) (a3 : Int32)  (d4 : Value) (d5 : Value) (d6 : Value) (d7 : Value) (d8 : Value) (d9 : Value), k10 h a0 a1 a2 a3 = some h' → Eb (Ev tb mL d) 20 (10, [.ref a0, .ref a1, .int a2, .int a3, d4, d5, d6, d7, d8, d9], [], h) h' none)  (h : AH) (a0 : Nat) (a1 : Nat) (a2 : Int32) (a3 : Int32)  (d4 : Value) (d5 : Value) (d6 : Value) (d7 : Value) (d8 : Value) (d9 : Value) (e : f_Sim_pass_b10 k10 h a0 a1 a2 a3 = some h') : Eb (Ev tb mL d) 20 (10, [.ref a0, .ref a1, .int a2, .int a3, d4, d5, d6, d7, d8, d9], [], h) h' none := by
  unfold f_Sim_pass_b10 at e
  refine eb_n 2 (12, [.ref a0, .ref a1, .int a2, .int a3, d4, d5, d6, d7, d8, d9], [.int a2, .int a3], h) (rfl) ?_
  refine eb_b (c := a2 ≤ a3) (32, [.ref a0, .ref a1, .int a2, .int a3, d4, d5, d6, d7, d8, d9], [], h) (15, [.ref a0, .ref a1, .int a2, .int a3, d4, d5, d6, d7, d8, d9], [], h) rfl (fun c1 => ?_) (fun c1 => ?_)
  · replace e := ite_t c1 e
    refine eb_n 1 (33, [.ref a0, .ref a1, .int a2, .int a3, d4, d5, d6, d7, d8, d9], [.ref a0], h) (rfl) ?_
    obtain ⟨g2, e⟩ := gd_some e
    refine eb_g (p := hT h a0 = 13) (36, [.ref a0, .ref a1, .int a2, .int a3, d4, d5, d6, d7, d8, d9], [.ref (hR h a0 17)], h) rfl g2 ?_
    obtain ⟨x3, hx3, e⟩ := lq_some e
    refine eb_n 1 (37, [.ref a0, .ref x3, .int a2, .int a3, d4, d5, d6, d7, d8, d9], [], h) (by subst hx3; rfl) ?_
    refine eb_n 1 (38, [.ref a0, .ref x3, .int a2, .int a3, d4, d5, d6, d7, d8, d9], [.ref x3], h) (rfl) ?_
    obtain ⟨g4, e⟩ := gd_some e
    refine eb_g (p := hT h x3 = 109) (39, [.ref a0, .ref x3, .int a2, .int a3, d4, d5, d6, d7, d8, d9], [.int (nI (hL h x3))], h) rfl g4 ?_
    obtain ⟨x5, hx5, e⟩ := lq_some e
    refine eb_n 1 (40, [.ref a0, .ref x3, .int x5, .int a3, d4, d5, d6, d7, d8, d9], [], h) (by subst hx5; rfl) ?_
    refine eb_n 2 (42, [.ref a0, .ref x3, .int x5, .int (nI 0), d4, d5, d6, d7, d8, d9], [], h) (rfl) ?_
    exact f_Sim_pass_l42_ev d hd   FU _ _ _ _ _ _ _ _ _ _ _ e
  · replace e := ite_f c1 e
    refine eb_n 2 (17, [.ref a0, .ref a1, .int a2, .int a3, d4, d5, d6, d7, d8, d9], [.int a3, .ref a1], h) (rfl) ?_
    obtain ⟨g6, e⟩ := gd_some e
    refine eb_g (p := hT h a1 = 109 ∧ inb a3 (hL h a1)) (18, [.ref a0, .ref a1, .int a2, .int a3, d4, d5, d6, d7, d8, d9], [.ref (hR h a1 (ix a3))], h) rfl g6 ?_
    obtain ⟨x7, hx7, e⟩ := lq_some e
    refine eb_n 1 (20, [.ref a0, .ref a1, .int a2, .int a3, .ref x7, d5, d6, d7, d8, d9], [], h) (by subst hx7; rfl) ?_
    refine eb_n 3 (25, [.ref a0, .ref a1, .int a2, .int a3, .ref x7, d5, d6, d7, d8, d9], [.int (nI 0), .int (nI 6), .ref x7], h) (rfl) ?_
    obtain ⟨g8, e⟩ := gd_some e
    obtain ⟨h9, eh9, e⟩ := lq_some e
    refine eb_g (p := hT h x7 = 101 ∧ inb (nI 6) (hL h x7)) (26, [.ref a0, .ref a1, .int a2, .int a3, .ref x7, d5, d6, d7, d8, d9], [], h9) (by rw [eh9]; rfl) g8 ?_
    obtain ⟨x10, hx10, e⟩ := lq_some e
    refine eb_n 1 (29, [.ref a0, .ref a1, .int a2, .int x10, .ref x7, d5, d6, d7, d8, d9], [], h9) (by subst hx10; rfl) ?_
    refine eb_n 1 (10, [.ref a0, .ref a1, .int a2, .int x10, .ref x7, d5, d6, d7, d8, d9], [], h9) (rfl) ?_
    exact hk10 _ _ _ _ _ _ _ _ _ _ _ e
set_option maxRecDepth 100000 in
set_option maxHeartbeats 4000000 in
theorem f_Sim_pass_l10_ev {h' : AH} (d : Nat) (hd : 2 ≤ d)  : ∀ (n : Nat) (h : AH) (a0 : Nat) (a1 : Nat) (a2 : Int32) (a3 : Int32)  (d4 : Value) (d5 : Value) (d6 : Value) (d7 : Value) (d8 : Value) (d9 : Value) (_ : f_Sim_pass_l10  n h a0 a1 a2 a3 = some h'), Eb (Ev tb mL d) 20 (10, [.ref a0, .ref a1, .int a2, .int a3, d4, d5, d6, d7, d8, d9], [], h) h' none := by
  intro n
  induction n with
  | zero => intro h a0 a1 a2 a3 d4 d5 d6 d7 d8 d9 e; exact nomatch e
  | succ n ih =>
    intro h a0 a1 a2 a3 d4 d5 d6 d7 d8 d9 e
    exact f_Sim_pass_b10_ev d hd _ (fun h a0 a1 a2 a3 d4 d5 d6 d7 d8 d9 e => ih h a0 a1 a2 a3 d4 d5 d6 d7 d8 d9 e) h a0 a1 a2 a3 d4 d5 d6 d7 d8 d9 e
set_option maxRecDepth 100000 in
set_option maxHeartbeats 4000000 in
theorem f_Sim_pass_ev (d0 : Nat) (hd0 : 3 ≤ d0) {h' : AH} {h : AH} {a0 : Nat} (e : f_Sim_pass h a0 = some h') : Ev tb mL d0 20 [.ref a0] h h' none := by
  obtain ⟨d, rfl⟩ : ∃ d, d0 = d + 1 := ⟨d0 - 1, by omega⟩
  have hd : 2 ≤ d := by omega
  refine ⟨Nat.le_of_ble_eq_true rfl, ?_⟩
  show Eb (Ev tb mL d) 20 (0, [.ref a0, .retAddr 0, .retAddr 0, .retAddr 0, .retAddr 0, .retAddr 0, .retAddr 0, .retAddr 0, .retAddr 0, .retAddr 0], [], h) h' none
  unfold f_Sim_pass at e
  refine eb_n 1 (1, [.ref a0, .retAddr 0, .retAddr 0, .retAddr 0, .retAddr 0, .retAddr 0, .retAddr 0, .retAddr 0, .retAddr 0, .retAddr 0], [.ref a0], h) (rfl) ?_
  obtain ⟨g1, e⟩ := gd_some e
  refine eb_g (p := hT h a0 = 13) (4, [.ref a0, .retAddr 0, .retAddr 0, .retAddr 0, .retAddr 0, .retAddr 0, .retAddr 0, .retAddr 0, .retAddr 0, .retAddr 0], [.ref (hR h a0 15)], h) rfl g1 ?_
  obtain ⟨x2, hx2, e⟩ := lq_some e
  refine eb_n 1 (5, [.ref a0, .ref x2, .retAddr 0, .retAddr 0, .retAddr 0, .retAddr 0, .retAddr 0, .retAddr 0, .retAddr 0, .retAddr 0], [], h) (by subst hx2; rfl) ?_
  refine eb_n 1 (6, [.ref a0, .ref x2, .retAddr 0, .retAddr 0, .retAddr 0, .retAddr 0, .retAddr 0, .retAddr 0, .retAddr 0, .retAddr 0], [.ref x2], h) (rfl) ?_
  obtain ⟨g3, e⟩ := gd_some e
  refine eb_g (p := hT h x2 = 109) (7, [.ref a0, .ref x2, .retAddr 0, .retAddr 0, .retAddr 0, .retAddr 0, .retAddr 0, .retAddr 0, .retAddr 0, .retAddr 0], [.int (nI (hL h x2))], h) rfl g3 ?_
  obtain ⟨x4, hx4, e⟩ := lq_some e
  refine eb_n 1 (8, [.ref a0, .ref x2, .int x4, .retAddr 0, .retAddr 0, .retAddr 0, .retAddr 0, .retAddr 0, .retAddr 0, .retAddr 0], [], h) (by subst hx4; rfl) ?_
  refine eb_n 2 (10, [.ref a0, .ref x2, .int x4, .int (nI 0), .retAddr 0, .retAddr 0, .retAddr 0, .retAddr 0, .retAddr 0, .retAddr 0], [], h) (rfl) ?_
  exact f_Sim_pass_l10_ev d hd   FU _ _ _ _ _ _ _ _ _ _ _ e

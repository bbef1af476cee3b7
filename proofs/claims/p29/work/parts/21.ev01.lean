/-! THEIR ANSWERS ARE RUNS (written by wip/p29/gen_sh.py) -/
set_option maxRecDepth 100000 in
set_option maxHeartbeats 4000000 in
theorem f_Integer_getChars_b104_ev {h' : AH} {r : Int32} (d : Nat) (hd : 0 ≤ d)  (h : AH) (a2 : Nat) (a5 : Int32) (a6 : Int32)  (d0 : Value) (d1 : Value) (d3 : Value) (d4 : Value) (e : f_Integer_getChars_b104  h a2 a5 a6 = some (h', r)) : Eb (Ev tb mL d) 124 (104, [d0, d1, .ref a2, d3, d4, .int a5, .int a6], [], h) h' (some (.int r)) := by
  unfold f_Integer_getChars_b104 at e
  refine eb_n 1 (106, [d0, d1, .ref a2, d3, d4, .int a5, .int a6], [.int a6], h) (rfl) ?_
  refine eb_b (c := a6 = 0) (118, [d0, d1, .ref a2, d3, d4, .int a5, .int a6], [], h) (109, [d0, d1, .ref a2, d3, d4, .int a5, .int a6], [], h) rfl (fun c1 => ?_) (fun c1 => ?_)
  · replace e := ite_t c1 e
    refine eb_n 1 (120, [d0, d1, .ref a2, d3, d4, .int a5, .int a6], [.int a5], h) (rfl) ?_
    rw [(sp_inj e).1, (sp_inj e).2]
    exact eb_rg (p := nrm 0 a5) rfl (nrm_0 _)
  · replace e := ite_f c1 e
    obtain ⟨x2, hx2, e⟩ := lq_some e
    refine eb_n 2 (113, [d0, d1, .ref a2, d3, d4, .int x2, .int a6], [.ref a2], h) (by subst hx2; rfl) ?_
    refine eb_n 2 (117, [d0, d1, .ref a2, d3, d4, .int x2, .int a6], [.int (nI 45), .int x2, .ref a2], h) (rfl) ?_
    obtain ⟨g3, e⟩ := gd_some e
    obtain ⟨h4, eh4, e⟩ := lq_some e
    refine eb_g (p := hT h a2 = 102 ∧ KK ≤ a2 ∧ inb x2 (hL h a2)) (118, [d0, d1, .ref a2, d3, d4, .int x2, .int a6], [], h4) (by rw [eh4]; rfl) g3 ?_
    refine eb_n 1 (120, [d0, d1, .ref a2, d3, d4, .int x2, .int a6], [.int x2], h4) (rfl) ?_
    rw [(sp_inj e).1, (sp_inj e).2]
    exact eb_rg (p := nrm 0 x2) rfl (nrm_0 _)
set_option maxRecDepth 100000 in
set_option maxHeartbeats 4000000 in
theorem f_Integer_getChars_b22_ev {h' : AH} {r : Int32} (d : Nat) (hd : 0 ≤ d) (k22 : AH → Int32 → Nat → Int32 → Int32 → Option (AH × Int32)) (hk22 : ∀ (h : AH) (a0 : Int32) (a2 : Nat) (a5 : Int32) (a6 : Int32)  (d1 : Value) (d3 : Value) (d4 : Value), k22 h a0 a2 a5 a6 = some (h', r) → Eb (Ev tb mL d) 124 (22, [.int a0, d1, .ref a2, d3, d4, .int a5, .int a6], [], h) h' (some (.int r)))  (h : AH) (a0 : Int32) (a2 : Nat) (a5 : Int32) (a6 : Int32)  (d1 : Value) (d3 : Value) (d4 : Value) (e : f_Integer_getChars_b22 k22 h a0 a2 a5 a6 = some (h', r)) : Eb (Ev tb mL d) 124 (22, [.int a0, d1, .ref a2, d3, d4, .int a5, .int a6], [], h) h' (some (.int r)) := by
  unfold f_Integer_getChars_b22 at e
  refine eb_n 2 (25, [.int a0, d1, .ref a2, d3, d4, .int a5, .int a6], [.int (-nI 100), .int a0], h) (rfl) ?_
  refine eb_b (c := (-nI 100) < a0) (72, [.int a0, d1, .ref a2, d3, d4, .int a5, .int a6], [], h) (28, [.int a0, d1, .ref a2, d3, d4, .int a5, .int a6], [], h) rfl (fun c1 => ?_) (fun c1 => ?_)
  · replace e := ite_t c1 e
    obtain ⟨x2, hx2, e⟩ := lq_some e
    refine eb_n 2 (76, [.int a0, d1, .ref a2, d3, d4, .int x2, .int a6], [.ref a2], h) (by subst hx2; rfl) ?_
    refine eb_n 4 (83, [.int a0, d1, .ref a2, d3, d4, .int x2, .int a6], [.int (-a0), .ref 3, .int x2, .ref a2], h) (rfl) ?_
    obtain ⟨g3, e⟩ := gd_some e
    refine eb_g (p := hT h 3 = 102 ∧ inb (-a0) (hL h 3)) (84, [.int a0, d1, .ref a2, d3, d4, .int x2, .int a6], [.int (hI h 3 (ix (-a0))), .int x2, .ref a2], h) rfl g3 ?_
    obtain ⟨g4, e⟩ := gd_some e
    obtain ⟨h5, eh5, e⟩ := lq_some e
    refine eb_g (p := hT h a2 = 102 ∧ KK ≤ a2 ∧ inb x2 (hL h a2)) (85, [.int a0, d1, .ref a2, d3, d4, .int x2, .int a6], [], h5) (by rw [eh5]; rfl) g4 ?_
    refine eb_n 2 (88, [.int a0, d1, .ref a2, d3, d4, .int x2, .int a6], [.int (-nI 9), .int a0], h5) (rfl) ?_
    refine eb_b (c := (-nI 9) ≤ a0) (104, [.int a0, d1, .ref a2, d3, d4, .int x2, .int a6], [], h5) (91, [.int a0, d1, .ref a2, d3, d4, .int x2, .int a6], [], h5) rfl (fun c6 => ?_) (fun c6 => ?_)
    · replace e := ite_t c6 e
      exact f_Integer_getChars_b104_ev d hd   _ _ _ _ _ _ _ _ e
    · replace e := ite_f c6 e
      obtain ⟨x7, hx7, e⟩ := lq_some e
      refine eb_n 2 (95, [.int a0, d1, .ref a2, d3, d4, .int x7, .int a6], [.ref a2], h5) (by subst hx7; rfl) ?_
      refine eb_n 4 (102, [.int a0, d1, .ref a2, d3, d4, .int x7, .int a6], [.int (-a0), .ref 4, .int x7, .ref a2], h5) (rfl) ?_
      obtain ⟨g8, e⟩ := gd_some e
      refine eb_g (p := hT h5 4 = 102 ∧ inb (-a0) (hL h5 4)) (103, [.int a0, d1, .ref a2, d3, d4, .int x7, .int a6], [.int (hI h5 4 (ix (-a0))), .int x7, .ref a2], h5) rfl g8 ?_
      obtain ⟨g9, e⟩ := gd_some e
      obtain ⟨h10, eh10, e⟩ := lq_some e
      refine eb_g (p := hT h5 a2 = 102 ∧ KK ≤ a2 ∧ inb x7 (hL h5 a2)) (104, [.int a0, d1, .ref a2, d3, d4, .int x7, .int a6], [], h10) (by rw [eh10]; rfl) g9 ?_
      exact f_Integer_getChars_b104_ev d hd   _ _ _ _ _ _ _ _ e
  · replace e := ite_f c1 e
    refine eb_n 2 (31, [.int a0, d1, .ref a2, d3, d4, .int a5, .int a6], [.int (nI 100), .int a0], h) (rfl) ?_
    refine eb_g (p := ¬ (nI 100) = 0) (32, [.int a0, d1, .ref a2, d3, d4, .int a5, .int a6], [.int (a0 / (nI 100))], h) rfl (by decide) ?_
    obtain ⟨x11, hx11, e⟩ := lq_some e
    refine eb_n 1 (33, [.int a0, d1, .ref a2, .int x11, d4, .int a5, .int a6], [], h) (by subst hx11; rfl) ?_
    obtain ⟨x12, hx12, e⟩ := lq_some e
    refine eb_n 6 (41, [.int a0, d1, .ref a2, .int x11, .int x12, .int a5, .int a6], [], h) (by subst hx12; rfl) ?_
    obtain ⟨x13, hx13, e⟩ := lq_some e
    refine eb_n 4 (47, [.int x11, d1, .ref a2, .int x11, .int x12, .int x13, .int a6], [.ref a2], h) (by subst hx13; rfl) ?_
    refine eb_n 3 (54, [.int x11, d1, .ref a2, .int x11, .int x12, .int x13, .int a6], [.int x12, .ref 3, .int x13, .ref a2], h) (rfl) ?_
    obtain ⟨g14, e⟩ := gd_some e
    refine eb_g (p := hT h 3 = 102 ∧ inb x12 (hL h 3)) (55, [.int x11, d1, .ref a2, .int x11, .int x12, .int x13, .int a6], [.int (hI h 3 (ix x12)), .int x13, .ref a2], h) rfl g14 ?_
    obtain ⟨g15, e⟩ := gd_some e
    obtain ⟨h16, eh16, e⟩ := lq_some e
    refine eb_g (p := hT h a2 = 102 ∧ KK ≤ a2 ∧ inb x13 (hL h a2)) (56, [.int x11, d1, .ref a2, .int x11, .int x12, .int x13, .int a6], [], h16) (by rw [eh16]; rfl) g15 ?_
    obtain ⟨x17, hx17, e⟩ := lq_some e
    refine eb_n 2 (60, [.int x11, d1, .ref a2, .int x11, .int x12, .int x17, .int a6], [.ref a2], h16) (by subst hx17; rfl) ?_
    refine eb_n 3 (67, [.int x11, d1, .ref a2, .int x11, .int x12, .int x17, .int a6], [.int x12, .ref 4, .int x17, .ref a2], h16) (rfl) ?_
    obtain ⟨g18, e⟩ := gd_some e
    refine eb_g (p := hT h16 4 = 102 ∧ inb x12 (hL h16 4)) (68, [.int x11, d1, .ref a2, .int x11, .int x12, .int x17, .int a6], [.int (hI h16 4 (ix x12)), .int x17, .ref a2], h16) rfl g18 ?_
    obtain ⟨g19, e⟩ := gd_some e
    obtain ⟨h20, eh20, e⟩ := lq_some e
    refine eb_g (p := hT h16 a2 = 102 ∧ KK ≤ a2 ∧ inb x17 (hL h16 a2)) (69, [.int x11, d1, .ref a2, .int x11, .int x12, .int x17, .int a6], [], h20) (by rw [eh20]; rfl) g19 ?_
    refine eb_n 1 (22, [.int x11, d1, .ref a2, .int x11, .int x12, .int x17, .int a6], [], h20) (rfl) ?_
    exact hk22 _ _ _ _ _ _ _ _ e
set_option maxRecDepth 100000 in
set_option maxHeartbeats 4000000 in
theorem f_Integer_getChars_l22_ev {h' : AH} {r : Int32} (d : Nat) (hd : 0 ≤ d)  : ∀ (n : Nat) (h : AH) (a0 : Int32) (a2 : Nat) (a5 : Int32) (a6 : Int32)  (d1 : Value) (d3 : Value) (d4 : Value) (_ : f_Integer_getChars_l22  n h a0 a2 a5 a6 = some (h', r)), Eb (Ev tb mL d) 124 (22, [.int a0, d1, .ref a2, d3, d4, .int a5, .int a6], [], h) h' (some (.int r)) := by
  intro n
  induction n with
  | zero => intro h a0 a2 a5 a6 d1 d3 d4 e; exact nomatch e
  | succ n ih =>
    intro h a0 a2 a5 a6 d1 d3 d4 e
    exact f_Integer_getChars_b22_ev d hd _ (fun h a0 a2 a5 a6 d1 d3 d4 e => ih h a0 a2 a5 a6 d1 d3 d4 e) h a0 a2 a5 a6 d1 d3 d4 e
set_option maxRecDepth 100000 in
set_option maxHeartbeats 4000000 in
theorem f_Integer_getChars_b12_ev {h' : AH} {r : Int32} (d : Nat) (hd : 0 ≤ d)  (h : AH) (a0 : Int32) (a2 : Nat) (a5 : Int32) (s0 : Int32) (d1 : Value) (d3 : Value) (d4 : Value) (d6 : Value) (e : f_Integer_getChars_b12  h a0 a2 a5 s0 = some (h', r)) : Eb (Ev tb mL d) 124 (12, [.int a0, d1, .ref a2, d3, d4, .int a5, d6], [.int s0], h) h' (some (.int r)) := by
  unfold f_Integer_getChars_b12 at e
  refine eb_n 2 (16, [.int a0, d1, .ref a2, d3, d4, .int a5, .int s0], [.int s0], h) (rfl) ?_
  refine eb_b (c := ¬ s0 = 0) (22, [.int a0, d1, .ref a2, d3, d4, .int a5, .int s0], [], h) (19, [.int a0, d1, .ref a2, d3, d4, .int a5, .int s0], [], h) rfl (fun c1 => ?_) (fun c1 => ?_)
  · replace e := ite_t c1 e
    exact f_Integer_getChars_l22_ev d hd   FU _ _ _ _ _ _ _ _ e
  · replace e := ite_f c1 e
    obtain ⟨x2, hx2, e⟩ := lq_some e
    refine eb_n 3 (22, [.int x2, d1, .ref a2, d3, d4, .int a5, .int s0], [], h) (by subst hx2; rfl) ?_
    exact f_Integer_getChars_l22_ev d hd   FU _ _ _ _ _ _ _ _ e
set_option maxRecDepth 100000 in
set_option maxHeartbeats 4000000 in
theorem f_Integer_getChars_ev (d0 : Nat) (hd0 : 1 ≤ d0) {h' : AH} {r : Int32} {h : AH} {a0 : Int32} {a1 : Int32} {a2 : Nat} (e : f_Integer_getChars h a0 a1 a2 = some (h', r)) : Ev tb mL d0 124 [.int a0, .int a1, .ref a2] h h' (some (.int r)) := by
  obtain ⟨d, rfl⟩ : ∃ d, d0 = d + 1 := ⟨d0 - 1, by omega⟩
  have hd : 0 ≤ d := by omega
  refine ⟨Nat.le_of_ble_eq_true rfl, ?_⟩
  show Eb (Ev tb mL d) 124 (0, [.int a0, .int a1, .ref a2, .retAddr 0, .retAddr 0, .retAddr 0, .retAddr 0], [], h) h' (some (.int r))
  unfold f_Integer_getChars at e
  refine eb_n 3 (4, [.int a0, .int a1, .ref a2, .retAddr 0, .retAddr 0, .int a1, .retAddr 0], [.int a0], h) (rfl) ?_
  refine eb_b (c := 0 ≤ a0) (11, [.int a0, .int a1, .ref a2, .retAddr 0, .retAddr 0, .int a1, .retAddr 0], [], h) (7, [.int a0, .int a1, .ref a2, .retAddr 0, .retAddr 0, .int a1, .retAddr 0], [], h) rfl (fun c1 => ?_) (fun c1 => ?_)
  · replace e := ite_t c1 e
    refine eb_n 1 (12, [.int a0, .int a1, .ref a2, .retAddr 0, .retAddr 0, .int a1, .retAddr 0], [.int (nI 0)], h) (rfl) ?_
    exact f_Integer_getChars_b12_ev d hd   _ _ _ _ _ _ _ _ _ e
  · replace e := ite_f c1 e
    refine eb_n 2 (12, [.int a0, .int a1, .ref a2, .retAddr 0, .retAddr 0, .int a1, .retAddr 0], [.int (nI 1)], h) (rfl) ?_
    exact f_Integer_getChars_b12_ev d hd   _ _ _ _ _ _ _ _ _ e
set_option maxRecDepth 100000 in
set_option maxHeartbeats 4000000 in
theorem f_ASB_append_I_ev (d0 : Nat) (hd0 : 5 ≤ d0) {h' : AH} {r : Nat} {h : AH} {a0 : Nat} {a1 : Int32} (e : f_ASB_append_I h a0 a1 = some (h', r)) : Ev tb mL d0 88 [.ref a0, .int a1] h h' (some (.ref r)) := by
  obtain ⟨d, rfl⟩ : ∃ d, d0 = d + 1 := ⟨d0 - 1, by omega⟩
  have hd : 4 ≤ d := by omega
  refine ⟨Nat.le_of_ble_eq_true rfl, ?_⟩
  show Eb (Ev tb mL d) 88 (0, [.ref a0, .int a1, .retAddr 0, .retAddr 0], [], h) h' (some (.ref r))
  unfold f_ASB_append_I at e
  refine eb_n 1 (1, [.ref a0, .int a1, .retAddr 0, .retAddr 0], [.ref a0], h) (rfl) ?_
  obtain ⟨g1, e⟩ := gd_some e
  refine eb_g (p := hT h a0 = 14) (4, [.ref a0, .int a1, .retAddr 0, .retAddr 0], [.int (hI h a0 3)], h) rfl g1 ?_
  obtain ⟨x2, hx2, e⟩ := lq_some e
  refine eb_n 1 (5, [.ref a0, .int a1, .int x2, .retAddr 0], [], h) (by subst hx2; rfl) ?_
  refine eb_n 2 (7, [.ref a0, .int a1, .int x2, .retAddr 0], [.int a1, .int x2], h) (rfl) ?_
  obtain ⟨h3, r4, eh3, e⟩ := bn_some e
  refine eb_c rfl (f_Integer_stringSize_ev d (Nat.le_trans (by decide) hd) eh3) ?_
  show Eb _ 88 (10, [.ref a0, .int a1, .int x2, .retAddr 0], [.int r4, .int x2], h3) _ _
  obtain ⟨x5, hx5, e⟩ := lq_some e
  refine eb_n 2 (12, [.ref a0, .int a1, .int x2, .int x5], [], h3) (by subst hx5; rfl) ?_
  refine eb_n 2 (14, [.ref a0, .int a1, .int x2, .int x5], [.int x5, .ref a0], h3) (rfl) ?_
  obtain ⟨g6, e⟩ := gd_some e
  obtain ⟨h7, eh7, e⟩ := bv_some e
  refine eb_cg (p := hT h3 a0 = 14) rfl g6 (f_ASB_ensureCapacityInternal_ev d (Nat.le_trans (by decide) hd) eh7) ?_
  show Eb _ 88 (17, [.ref a0, .int a1, .int x2, .int x5], [], h7) _ _
  refine eb_n 1 (18, [.ref a0, .int a1, .int x2, .int x5], [.ref a0], h7) (rfl) ?_
  obtain ⟨g8, e⟩ := gd_some e
  obtain ⟨h9, r10, eh9, e⟩ := bn_some e
  refine eb_cg (p := hT h7 a0 = 14) rfl g8 (f_ASB_isLatin1_ev d (Nat.le_trans (by decide) hd) eh9) ?_
  show Eb _ 88 (21, [.ref a0, .int a1, .int x2, .int x5], [.int r10], h9) _ _
  refine eb_b (c := r10 = 0) (37, [.ref a0, .int a1, .int x2, .int x5], [], h9) (24, [.ref a0, .int a1, .int x2, .int x5], [], h9) rfl (fun c11 => ?_) (fun c11 => ?_)
  · replace e := ite_t c11 e
    refine eb_n 4 (41, [.ref a0, .int a1, .int x2, .int x5], [.ref a0, .int x5, .int x2, .int a1], h9) (rfl) ?_
    obtain ⟨g12, e⟩ := gd_some e
    refine eb_g (p := hT h9 a0 = 14) (44, [.ref a0, .int a1, .int x2, .int x5], [.ref (hR h9 a0 0), .int x5, .int x2, .int a1], h9) rfl g12 ?_
    exact nomatch e
  · replace e := ite_f c11 e
    refine eb_n 3 (27, [.ref a0, .int a1, .int x2, .int x5], [.ref a0, .int x5, .int a1], h9) (rfl) ?_
    obtain ⟨g13, e⟩ := gd_some e
    refine eb_g (p := hT h9 a0 = 14) (30, [.ref a0, .int a1, .int x2, .int x5], [.ref (hR h9 a0 0), .int x5, .int a1], h9) rfl g13 ?_
    obtain ⟨h14, r15, eh14, e⟩ := bn_some e
    refine eb_c rfl (f_Integer_getChars_ev d (Nat.le_trans (by decide) hd) eh14) ?_
    show Eb _ 88 (33, [.ref a0, .int a1, .int x2, .int x5], [.int r15], h14) _ _
    refine eb_n 4 (50, [.ref a0, .int a1, .int x2, .int x5], [.int x5, .ref a0], h14) (rfl) ?_
    obtain ⟨g16, e⟩ := gd_some e
    obtain ⟨h17, eh17, e⟩ := lq_some e
    refine eb_g (p := hT h14 a0 = 14) (53, [.ref a0, .int a1, .int x2, .int x5], [], h17) (by rw [eh17]; rfl) g16 ?_
    refine eb_n 1 (54, [.ref a0, .int a1, .int x2, .int x5], [.ref a0], h17) (rfl) ?_
    rw [(sp_inj e).1, (sp_inj e).2]
    exact eb_r rfl
set_option maxRecDepth 100000 in
set_option maxHeartbeats 4000000 in
theorem f_SB_append_I_ev (d0 : Nat) (hd0 : 6 ≤ d0) {h' : AH} {r : Nat} {h : AH} {a0 : Nat} {a1 : Int32} (e : f_SB_append_I h a0 a1 = some (h', r)) : Ev tb mL d0 29 [.ref a0, .int a1] h h' (some (.ref r)) := by
  obtain ⟨d, rfl⟩ : ∃ d, d0 = d + 1 := ⟨d0 - 1, by omega⟩
  have hd : 5 ≤ d := by omega
  refine ⟨Nat.le_of_ble_eq_true rfl, ?_⟩
  show Eb (Ev tb mL d) 29 (0, [.ref a0, .int a1], [], h) h' (some (.ref r))
  unfold f_SB_append_I at e
  refine eb_n 2 (2, [.ref a0, .int a1], [.int a1, .ref a0], h) (rfl) ?_
  obtain ⟨g1, e⟩ := gd_some e
  obtain ⟨h2, r3, eh2, e⟩ := bn_some e
  refine eb_cg (p := hT h a0 = 14) rfl g1 (f_ASB_append_I_ev d (Nat.le_trans (by decide) hd) eh2) ?_
  show Eb _ 29 (5, [.ref a0, .int a1], [.ref r3], h2) _ _
  refine eb_n 2 (7, [.ref a0, .int a1], [.ref a0], h2) (rfl) ?_
  rw [(sp_inj e).1, (sp_inj e).2]
  exact eb_r rfl
set_option maxRecDepth 100000 in
set_option maxHeartbeats 4000000 in
theorem f_Lat_canEncode_C_ev (d0 : Nat) (hd0 : 1 ≤ d0) {h' : AH} {r : Int32} {h : AH} {a0 : Int32} (e : f_Lat_canEncode_C h a0 = some (h', r)) : Ev tb mL d0 125 [.int a0] h h' (some (.int r)) := by
  obtain ⟨d, rfl⟩ : ∃ d, d0 = d + 1 := ⟨d0 - 1, by omega⟩
  have hd : 0 ≤ d := by omega
  refine ⟨Nat.le_of_ble_eq_true rfl, ?_⟩
  show Eb (Ev tb mL d) 125 (0, [.int a0], [], h) h' (some (.int r))
  unfold f_Lat_canEncode_C at e
  refine eb_n 2 (4, [.int a0], [.int (nI 255), .int a0], h) (rfl) ?_
  refine eb_b (c := (nI 255) < a0) (11, [.int a0], [], h) (7, [.int a0], [], h) rfl (fun c1 => ?_) (fun c1 => ?_)
  · replace e := ite_t c1 e
    refine eb_n 1 (12, [.int a0], [.int (nI 0)], h) (rfl) ?_
    rw [(sp_inj e).1, (sp_inj e).2]
    exact eb_rg (p := nrm 3 (nI 0)) rfl nrm_30
  · replace e := ite_f c1 e
    refine eb_n 2 (12, [.int a0], [.int (nI 1)], h) (rfl) ?_
    rw [(sp_inj e).1, (sp_inj e).2]
    exact eb_rg (p := nrm 3 (nI 1)) rfl nrm_31
set_option maxRecDepth 100000 in
set_option maxHeartbeats 4000000 in
theorem f_ASB_append_C_b45_ev {h' : AH} {r : Nat} (d : Nat) (hd : 4 ≤ d)  (h : AH) (a0 : Nat) (a1 : Int32)   (e : f_ASB_append_C_b45  h a0 a1 = some (h', r)) : Eb (Ev tb mL d) 89 (45, [.ref a0, .int a1], [], h) h' (some (.ref r)) := by
  unfold f_ASB_append_C_b45 at e
  refine eb_n 1 (46, [.ref a0, .int a1], [.ref a0], h) (rfl) ?_
  obtain ⟨g1, e⟩ := gd_some e
  obtain ⟨h2, r3, eh2, e⟩ := bn_some e
  refine eb_cg (p := hT h a0 = 14) rfl g1 (f_ASB_isLatin1_ev d (Nat.le_trans (by decide) hd) eh2) ?_
  show Eb _ 89 (49, [.ref a0, .int a1], [.int r3], h2) _ _
  refine eb_b (c := r3 = 0) (56, [.ref a0, .int a1], [], h2) (52, [.ref a0, .int a1], [], h2) rfl (fun c4 => ?_) (fun c4 => ?_)
  · replace e := ite_t c4 e
    refine eb_n 1 (57, [.ref a0, .int a1], [.ref a0], h2) (rfl) ?_
    obtain ⟨g5, e⟩ := gd_some e
    refine eb_g (p := hT h2 a0 = 14) (60, [.ref a0, .int a1], [.ref (hR h2 a0 0)], h2) rfl g5 ?_
    refine eb_n 2 (62, [.ref a0, .int a1], [.ref a0, .ref a0, .ref (hR h2 a0 0)], h2) (rfl) ?_
    refine eb_g (p := hT h2 a0 = 14) (65, [.ref a0, .int a1], [.int (hI h2 a0 3), .ref a0, .ref (hR h2 a0 0)], h2) rfl g5 ?_
    refine eb_n 3 (68, [.ref a0, .int a1], [.int ((hI h2 a0 3) + (nI 1)), .ref a0, .int (hI h2 a0 3), .ref (hR h2 a0 0)], h2) (rfl) ?_
    obtain ⟨h6, eh6, e⟩ := lq_some e
    refine eb_g (p := hT h2 a0 = 14) (71, [.ref a0, .int a1], [.int (hI h2 a0 3), .ref (hR h2 a0 0)], h6) (by rw [eh6]; rfl) g5 ?_
    exact nomatch e
  · replace e := ite_f c4 e
    exact nomatch e
set_option maxRecDepth 100000 in
set_option maxHeartbeats 4000000 in
theorem f_ASB_append_C_ev (d0 : Nat) (hd0 : 5 ≤ d0) {h' : AH} {r : Nat} {h : AH} {a0 : Nat} {a1 : Int32} (e : f_ASB_append_C h a0 a1 = some (h', r)) : Ev tb mL d0 89 [.ref a0, .int a1] h h' (some (.ref r)) := by
  obtain ⟨d, rfl⟩ : ∃ d, d0 = d + 1 := ⟨d0 - 1, by omega⟩
  have hd : 4 ≤ d := by omega
  refine ⟨Nat.le_of_ble_eq_true rfl, ?_⟩
  show Eb (Ev tb mL d) 89 (0, [.ref a0, .int a1], [], h) h' (some (.ref r))
  unfold f_ASB_append_C at e
  refine eb_n 2 (2, [.ref a0, .int a1], [.ref a0, .ref a0], h) (rfl) ?_
  obtain ⟨g1, e⟩ := gd_some e
  refine eb_g (p := hT h a0 = 14) (5, [.ref a0, .int a1], [.int (hI h a0 3), .ref a0], h) rfl g1 ?_
  refine eb_n 2 (7, [.ref a0, .int a1], [.int ((hI h a0 3) + (nI 1)), .ref a0], h) (rfl) ?_
  obtain ⟨h2, eh2, e⟩ := bv_some e
  refine eb_cg (p := hT h a0 = 14) rfl g1 (f_ASB_ensureCapacityInternal_ev d (Nat.le_trans (by decide) hd) eh2) ?_
  show Eb _ 89 (10, [.ref a0, .int a1], [], h2) _ _
  refine eb_n 1 (11, [.ref a0, .int a1], [.ref a0], h2) (rfl) ?_
  obtain ⟨g3, e⟩ := gd_some e
  obtain ⟨h4, r5, eh4, e⟩ := bn_some e
  refine eb_cg (p := hT h2 a0 = 14) rfl g3 (f_ASB_isLatin1_ev d (Nat.le_trans (by decide) hd) eh4) ?_
  show Eb _ 89 (14, [.ref a0, .int a1], [.int r5], h4) _ _
  refine eb_b (c := r5 = 0) (45, [.ref a0, .int a1], [], h4) (17, [.ref a0, .int a1], [], h4) rfl (fun c6 => ?_) (fun c6 => ?_)
  · replace e := ite_t c6 e
    exact f_ASB_append_C_b45_ev d hd   _ _ _  e
  · replace e := ite_f c6 e
    refine eb_n 1 (18, [.ref a0, .int a1], [.int a1], h4) (rfl) ?_
    obtain ⟨h7, r8, eh7, e⟩ := bn_some e
    refine eb_c rfl (f_Lat_canEncode_C_ev d (Nat.le_trans (by decide) hd) eh7) ?_
    show Eb _ 89 (21, [.ref a0, .int a1], [.int r8], h7) _ _
    refine eb_b (c := r8 = 0) (45, [.ref a0, .int a1], [], h7) (24, [.ref a0, .int a1], [], h7) rfl (fun c9 => ?_) (fun c9 => ?_)
    · replace e := ite_t c9 e
      exact f_ASB_append_C_b45_ev d hd   _ _ _  e
    · replace e := ite_f c9 e
      refine eb_n 1 (25, [.ref a0, .int a1], [.ref a0], h7) (rfl) ?_
      obtain ⟨g10, e⟩ := gd_some e
      refine eb_g (p := hT h7 a0 = 14) (28, [.ref a0, .int a1], [.ref (hR h7 a0 0)], h7) rfl g10 ?_
      refine eb_n 2 (30, [.ref a0, .int a1], [.ref a0, .ref a0, .ref (hR h7 a0 0)], h7) (rfl) ?_
      refine eb_g (p := hT h7 a0 = 14) (33, [.ref a0, .int a1], [.int (hI h7 a0 3), .ref a0, .ref (hR h7 a0 0)], h7) rfl g10 ?_
      refine eb_n 3 (36, [.ref a0, .int a1], [.int ((hI h7 a0 3) + (nI 1)), .ref a0, .int (hI h7 a0 3), .ref (hR h7 a0 0)], h7) (rfl) ?_
      obtain ⟨h11, eh11, e⟩ := lq_some e
      refine eb_g (p := hT h7 a0 = 14) (39, [.ref a0, .int a1], [.int (hI h7 a0 3), .ref (hR h7 a0 0)], h11) (by rw [eh11]; rfl) g10 ?_
      refine eb_n 2 (41, [.ref a0, .int a1], [.int (Int8.toInt32 (Int32.toInt8 a1)), .int (hI h7 a0 3), .ref (hR h7 a0 0)], h11) (rfl) ?_
      obtain ⟨g12, e⟩ := gd_some e
      obtain ⟨h13, eh13, e⟩ := lq_some e
      refine eb_g (p := hT h11 (hR h7 a0 0) = 102 ∧ KK ≤ (hR h7 a0 0) ∧ inb (hI h7 a0 3) (hL h11 (hR h7 a0 0))) (42, [.ref a0, .int a1], [], h13) (by rw [eh13]; rfl) g12 ?_
      refine eb_n 2 (76, [.ref a0, .int a1], [.ref a0], h13) (rfl) ?_
      rw [(sp_inj e).1, (sp_inj e).2]
      exact eb_r rfl
set_option maxRecDepth 100000 in
set_option maxHeartbeats 4000000 in
theorem f_SB_append_C_ev (d0 : Nat) (hd0 : 6 ≤ d0) {h' : AH} {r : Nat} {h : AH} {a0 : Nat} {a1 : Int32} (e : f_SB_append_C h a0 a1 = some (h', r)) : Ev tb mL d0 30 [.ref a0, .int a1] h h' (some (.ref r)) := by
  obtain ⟨d, rfl⟩ : ∃ d, d0 = d + 1 := ⟨d0 - 1, by omega⟩
  have hd : 5 ≤ d := by omega
  refine ⟨Nat.le_of_ble_eq_true rfl, ?_⟩
  show Eb (Ev tb mL d) 30 (0, [.ref a0, .int a1], [], h) h' (some (.ref r))
  unfold f_SB_append_C at e
  refine eb_n 2 (2, [.ref a0, .int a1], [.int a1, .ref a0], h) (rfl) ?_
  obtain ⟨g1, e⟩ := gd_some e
  obtain ⟨h2, r3, eh2, e⟩ := bn_some e
  refine eb_cg (p := hT h a0 = 14) rfl g1 (f_ASB_append_C_ev d (Nat.le_trans (by decide) hd) eh2) ?_
  show Eb _ 30 (5, [.ref a0, .int a1], [.ref r3], h2) _ _
  refine eb_n 2 (7, [.ref a0, .int a1], [.ref a0], h2) (rfl) ?_
  rw [(sp_inj e).1, (sp_inj e).2]
  exact eb_r rfl
set_option maxRecDepth 100000 in
set_option maxHeartbeats 4000000 in
theorem f_ASB_getValue_ev (d0 : Nat) (hd0 : 1 ≤ d0) {h' : AH} {r : Nat} {h : AH} {a0 : Nat} (e : f_ASB_getValue h a0 = some (h', r)) : Ev tb mL d0 156 [.ref a0] h h' (some (.ref r)) := by
  obtain ⟨d, rfl⟩ : ∃ d, d0 = d + 1 := ⟨d0 - 1, by omega⟩
  have hd : 0 ≤ d := by omega
  refine ⟨Nat.le_of_ble_eq_true rfl, ?_⟩
  show Eb (Ev tb mL d) 156 (0, [.ref a0], [], h) h' (some (.ref r))
  unfold f_ASB_getValue at e
  refine eb_n 1 (1, [.ref a0], [.ref a0], h) (rfl) ?_
  obtain ⟨g1, e⟩ := gd_some e
  refine eb_g (p := hT h a0 = 14) (4, [.ref a0], [.ref (hR h a0 0)], h) rfl g1 ?_
  rw [(sp_inj e).1, (sp_inj e).2]
  exact eb_r rfl
set_option maxRecDepth 100000 in
set_option maxHeartbeats 4000000 in
theorem f_ASB_length_ev (d0 : Nat) (hd0 : 1 ≤ d0) {h' : AH} {r : Int32} {h : AH} {a0 : Nat} (e : f_ASB_length h a0 = some (h', r)) : Ev tb mL d0 157 [.ref a0] h h' (some (.int r)) := by
  obtain ⟨d, rfl⟩ : ∃ d, d0 = d + 1 := ⟨d0 - 1, by omega⟩
  have hd : 0 ≤ d := by omega
  refine ⟨Nat.le_of_ble_eq_true rfl, ?_⟩
  show Eb (Ev tb mL d) 157 (0, [.ref a0], [], h) h' (some (.int r))
  unfold f_ASB_length at e
  refine eb_n 1 (1, [.ref a0], [.ref a0], h) (rfl) ?_
  obtain ⟨g1, e⟩ := gd_some e
  refine eb_g (p := hT h a0 = 14) (4, [.ref a0], [.int (hI h a0 3)], h) rfl g1 ?_
  rw [(sp_inj e).1, (sp_inj e).2]
  exact eb_rg (p := nrm 0 (hI h a0 3)) rfl (nrm_0 _)
set_option maxRecDepth 100000 in
set_option maxHeartbeats 4000000 in
theorem f_SB_length_ev (d0 : Nat) (hd0 : 2 ≤ d0) {h' : AH} {r : Int32} {h : AH} {a0 : Nat} (e : f_SB_length h a0 = some (h', r)) : Ev tb mL d0 227 [.ref a0] h h' (some (.int r)) := by
  obtain ⟨d, rfl⟩ : ∃ d, d0 = d + 1 := ⟨d0 - 1, by omega⟩
  have hd : 1 ≤ d := by omega
  refine ⟨Nat.le_of_ble_eq_true rfl, ?_⟩
  show Eb (Ev tb mL d) 227 (0, [.ref a0], [], h) h' (some (.int r))
  unfold f_SB_length at e
  refine eb_n 1 (1, [.ref a0], [.ref a0], h) (rfl) ?_
  obtain ⟨g1, e⟩ := gd_some e
  obtain ⟨h2, r3, eh2, e⟩ := bn_some e
  refine eb_cg (p := hT h a0 = 14) rfl g1 (f_ASB_length_ev d (Nat.le_trans (by decide) hd) eh2) ?_
  show Eb _ 227 (4, [.ref a0], [.int r3], h2) _ _
  rw [(sp_inj e).1, (sp_inj e).2]
  exact eb_rg (p := nrm 0 r3) rfl (nrm_0 _)
set_option maxRecDepth 100000 in
set_option maxHeartbeats 4000000 in
theorem f_Arrays_checkLength_ev (d0 : Nat) (hd0 : 1 ≤ d0) {h' : AH} {h : AH} {a0 : Int32} {a1 : Int32} (e : f_Arrays_checkLength h a0 a1 = some h') : Ev tb mL d0 207 [.int a0, .int a1] h h' none := by
  obtain ⟨d, rfl⟩ : ∃ d, d0 = d + 1 := ⟨d0 - 1, by omega⟩
  have hd : 0 ≤ d := by omega
  refine ⟨Nat.le_of_ble_eq_true rfl, ?_⟩
  show Eb (Ev tb mL d) 207 (0, [.int a0, .int a1], [], h) h' none
  unfold f_Arrays_checkLength at e
  refine eb_n 2 (2, [.int a0, .int a1], [.int a0, .int a1], h) (rfl) ?_
  refine eb_b (c := a0 ≤ a1) (37, [.int a0, .int a1], [], h) (5, [.int a0, .int a1], [], h) rfl (fun c1 => ?_) (fun c1 => ?_)
  · replace e := ite_t c1 e
    rw [sv_inj e]
    exact eb_r rfl
  · replace e := ite_f c1 e
    exact nomatch e
set_option maxRecDepth 100000 in
set_option maxHeartbeats 4000000 in
theorem f_Arrays_copyOfRangeByte_ev (d0 : Nat) (hd0 : 2 ≤ d0) {h' : AH} {r : Nat} {h : AH} {a0 : Nat} {a1 : Int32} {a2 : Int32} (e : f_Arrays_copyOfRangeByte h a0 a1 a2 = some (h', r)) : Ev tb mL d0 183 [.ref a0, .int a1, .int a2] h h' (some (.ref r)) := by
  obtain ⟨d, rfl⟩ : ∃ d, d0 = d + 1 := ⟨d0 - 1, by omega⟩
  have hd : 1 ≤ d := by omega
  refine ⟨Nat.le_of_ble_eq_true rfl, ?_⟩
  show Eb (Ev tb mL d) 183 (0, [.ref a0, .int a1, .int a2, .retAddr 0, .retAddr 0], [], h) h' (some (.ref r))
  unfold f_Arrays_copyOfRangeByte at e
  refine eb_n 2 (2, [.ref a0, .int a1, .int a2, .retAddr 0, .retAddr 0], [.int a2, .int a1], h) (rfl) ?_
  obtain ⟨h1, eh1, e⟩ := bv_some e
  refine eb_c rfl (f_Arrays_checkLength_ev d (Nat.le_trans (by decide) hd) eh1) ?_
  show Eb _ 183 (5, [.ref a0, .int a1, .int a2, .retAddr 0, .retAddr 0], [], h1) _ _
  obtain ⟨x2, hx2, e⟩ := lq_some e
  refine eb_n 4 (9, [.ref a0, .int a1, .int a2, .int x2, .retAddr 0], [], h1) (by subst hx2; rfl) ?_
  refine eb_n 1 (10, [.ref a0, .int a1, .int a2, .int x2, .retAddr 0], [.int x2], h1) (rfl) ?_
  obtain ⟨g3, e⟩ := gd_some e
  obtain ⟨h4, eh4, e⟩ := lq_some e
  refine eb_g (p := ¬ x2 < 0 ∧ ix x2 ≤ 65536) (12, [.ref a0, .int a1, .int a2, .int x2, .retAddr 0], [.ref (hN h1)], h4) (by rw [eh4]; rfl) g3 ?_
  obtain ⟨x5, hx5, e⟩ := lq_some e
  refine eb_n 1 (14, [.ref a0, .int a1, .int a2, .int x2, .ref x5], [], h4) (by subst hx5; rfl) ?_
  refine eb_n 5 (20, [.ref a0, .int a1, .int a2, .int x2, .ref x5], [.ref a0, .int (nI 0), .ref x5, .int a1, .ref a0], h4) (rfl) ?_
  obtain ⟨g6, e⟩ := gd_some e
  refine eb_g (p := hT h4 a0 = 102) (21, [.ref a0, .int a1, .int a2, .int x2, .ref x5], [.int (nI (hL h4 a0)), .int (nI 0), .ref x5, .int a1, .ref a0], h4) rfl g6 ?_
  refine eb_n 3 (24, [.ref a0, .int a1, .int a2, .int x2, .ref x5], [.int x2, .int ((nI (hL h4 a0)) - a1), .int (nI 0), .ref x5, .int a1, .ref a0], h4) (rfl) ?_
  obtain ⟨h7, r8, eh7, e⟩ := bn_some e
  refine eb_c rfl (f_Math_min_ev d (Nat.le_trans (by decide) hd) eh7) ?_
  show Eb _ 183 (27, [.ref a0, .int a1, .int a2, .int x2, .ref x5], [.int r8, .int (nI 0), .ref x5, .int a1, .ref a0], h7) _ _
  obtain ⟨g9, e⟩ := gd_some e
  obtain ⟨h10, eh10, e⟩ := lq_some e
  refine eb_g (p := hT h7 a0 = 102 ∧ hT h7 x5 = 102 ∧ KK ≤ x5 ∧ ¬ a1 < 0 ∧ ¬ (nI 0) < 0 ∧ ¬ r8 < 0 ∧ ix a1 + ix r8 ≤ hL h7 a0 ∧ ix (nI 0) + ix r8 ≤ hL h7 x5) (30, [.ref a0, .int a1, .int a2, .int x2, .ref x5], [], h10) (by rw [eh10]; rfl) g9 ?_
  refine eb_n 1 (32, [.ref a0, .int a1, .int a2, .int x2, .ref x5], [.ref x5], h10) (rfl) ?_
  rw [(sp_inj e).1, (sp_inj e).2]
  exact eb_r rfl
set_option maxRecDepth 100000 in
set_option maxHeartbeats 4000000 in
theorem f_Arrays_copyOfRange_b10_ev {h' : AH} {r : Nat} (d : Nat) (hd : 2 ≤ d)  (h : AH) (a0 : Nat) (a1 : Int32) (a2 : Int32)   (e : f_Arrays_copyOfRange_b10  h a0 a1 a2 = some (h', r)) : Eb (Ev tb mL d) 158 (10, [.ref a0, .int a1, .int a2], [], h) h' (some (.ref r)) := by
  unfold f_Arrays_copyOfRange_b10 at e
  refine eb_n 3 (13, [.ref a0, .int a1, .int a2], [.int a2, .int a1, .ref a0], h) (rfl) ?_
  obtain ⟨h1, r2, eh1, e⟩ := bn_some e
  refine eb_c rfl (f_Arrays_copyOfRangeByte_ev d (Nat.le_trans (by decide) hd) eh1) ?_
  show Eb _ 158 (16, [.ref a0, .int a1, .int a2], [.ref r2], h1) _ _
  rw [(sp_inj e).1, (sp_inj e).2]
  exact eb_r rfl
set_option maxRecDepth 100000 in
set_option maxHeartbeats 4000000 in
theorem f_Arrays_copyOfRange_ev (d0 : Nat) (hd0 : 3 ≤ d0) {h' : AH} {r : Nat} {h : AH} {a0 : Nat} {a1 : Int32} {a2 : Int32} (e : f_Arrays_copyOfRange h a0 a1 a2 = some (h', r)) : Ev tb mL d0 158 [.ref a0, .int a1, .int a2] h h' (some (.ref r)) := by
  obtain ⟨d, rfl⟩ : ∃ d, d0 = d + 1 := ⟨d0 - 1, by omega⟩
  have hd : 2 ≤ d := by omega
  refine ⟨Nat.le_of_ble_eq_true rfl, ?_⟩
  show Eb (Ev tb mL d) 158 (0, [.ref a0, .int a1, .int a2], [], h) h' (some (.ref r))
  unfold f_Arrays_copyOfRange at e
  refine eb_n 1 (1, [.ref a0, .int a1, .int a2], [.int a1], h) (rfl) ?_
  refine eb_b (c := ¬ a1 = 0) (10, [.ref a0, .int a1, .int a2], [], h) (4, [.ref a0, .int a1, .int a2], [], h) rfl (fun c1 => ?_) (fun c1 => ?_)
  · replace e := ite_t c1 e
    exact f_Arrays_copyOfRange_b10_ev d hd   _ _ _ _  e
  · replace e := ite_f c1 e
    refine eb_n 2 (6, [.ref a0, .int a1, .int a2], [.ref a0, .int a2], h) (rfl) ?_
    obtain ⟨g2, e⟩ := gd_some e
    refine eb_g (p := hT h a0 = 102) (7, [.ref a0, .int a1, .int a2], [.int (nI (hL h a0)), .int a2], h) rfl g2 ?_
    refine eb_b (c := a2 = (nI (hL h a0))) (17, [.ref a0, .int a1, .int a2], [], h) (10, [.ref a0, .int a1, .int a2], [], h) rfl (fun c3 => ?_) (fun c3 => ?_)
    · replace e := ite_t c3 e
      refine eb_n 1 (18, [.ref a0, .int a1, .int a2], [.ref a0], h) (rfl) ?_
      obtain ⟨h4, eh4, e⟩ := lq_some e
      refine eb_g (p := hT h a0 = 102) (21, [.ref a0, .int a1, .int a2], [.ref (hN h)], h4) (by rw [eh4]; rfl) g2 ?_
      obtain ⟨g5, e⟩ := gd_some e
      refine eb_g (p := hT h4 (hN h) = 102) (24, [.ref a0, .int a1, .int a2], [.ref (hN h)], h4) rfl g5 ?_
      rw [(sp_inj e).1, (sp_inj e).2]
      exact eb_r rfl
    · replace e := ite_f c3 e
      exact f_Arrays_copyOfRange_b10_ev d hd   _ _ _ _  e
set_option maxRecDepth 100000 in
set_option maxHeartbeats 4000000 in
theorem f_String_init_av_b79_ev {h' : AH} (d : Nat) (hd : 3 ≤ d)  (h : AH) (a0 : Nat) (a3 : Nat) (a4 : Int32)  (d1 : Value) (d2 : Value) (e : f_String_init_av_b79  h a0 a3 a4 = some h') : Eb (Ev tb mL d) 126 (79, [.ref a0, d1, d2, .ref a3, .int a4], [], h) h' none := by
  unfold f_String_init_av_b79 at e
  refine eb_n 2 (81, [.ref a0, d1, d2, .ref a3, .int a4], [.int (nI 1), .ref a0], h) (rfl) ?_
  obtain ⟨g1, e⟩ := gd_some e
  obtain ⟨h2, eh2, e⟩ := lq_some e
  refine eb_g (p := hT h a0 = 15 ∧ KK ≤ a0 ∧ Int8.toInt32 (Int32.toInt8 (nI 1)) = (nI 1)) (84, [.ref a0, d1, d2, .ref a3, .int a4], [], h2) (by rw [eh2]; rfl) g1 ?_
  refine eb_n 6 (91, [.ref a0, d1, d2, .ref a3, .int a4], [.int (a4 <<< ((nI 1) &&& 31)), .int (nI 0), .ref a3, .ref a0], h2) (rfl) ?_
  obtain ⟨h3, r4, eh3, e⟩ := bn_some e
  refine eb_c rfl (f_Arrays_copyOfRange_ev d (Nat.le_trans (by decide) hd) eh3) ?_
  show Eb _ 126 (94, [.ref a0, d1, d2, .ref a3, .int a4], [.ref r4, .ref a0], h3) _ _
  obtain ⟨g5, e⟩ := gd_some e
  obtain ⟨h6, eh6, e⟩ := lq_some e
  refine eb_g (p := hT h3 a0 = 15 ∧ KK ≤ a0) (97, [.ref a0, d1, d2, .ref a3, .int a4], [], h6) (by rw [eh6]; rfl) g5 ?_
  rw [sv_inj e]
  exact eb_r rfl
set_option maxRecDepth 100000 in
set_option maxHeartbeats 4000000 in
theorem f_String_init_av_ev (d0 : Nat) (hd0 : 4 ≤ d0) {h' : AH} {h : AH} {a0 : Nat} {a1 : Nat} {a2 : Nat} (e : f_String_init_av h a0 a1 a2 = some h') : Ev tb mL d0 126 [.ref a0, .ref a1, .ref a2] h h' none := by
  obtain ⟨d, rfl⟩ : ∃ d, d0 = d + 1 := ⟨d0 - 1, by omega⟩
  have hd : 3 ≤ d := by omega
  refine ⟨Nat.le_of_ble_eq_true rfl, ?_⟩
  show Eb (Ev tb mL d) 126 (0, [.ref a0, .ref a1, .ref a2, .retAddr 0, .retAddr 0], [], h) h' none
  unfold f_String_init_av at e
  refine eb_n 1 (1, [.ref a0, .ref a1, .ref a2, .retAddr 0, .retAddr 0], [.ref a0], h) (rfl) ?_
  obtain ⟨g1, e⟩ := gd_some e
  refine eb_g (p := hT h a0 = 15) (4, [.ref a0, .ref a1, .ref a2, .retAddr 0, .retAddr 0], [], h) rfl g1 ?_
  refine eb_n 1 (5, [.ref a0, .ref a1, .ref a2, .retAddr 0, .retAddr 0], [.ref a1], h) (rfl) ?_
  obtain ⟨g2, e⟩ := gd_some e
  obtain ⟨h3, r4, eh3, e⟩ := bn_some e
  refine eb_cg (p := hT h a1 = 14) rfl g2 (f_ASB_getValue_ev d (Nat.le_trans (by decide) hd) eh3) ?_
  show Eb _ 126 (8, [.ref a0, .ref a1, .ref a2, .retAddr 0, .retAddr 0], [.ref r4], h3) _ _
  refine eb_n 2 (10, [.ref a0, .ref a1, .ref a2, .ref r4, .retAddr 0], [.ref a1], h3) (rfl) ?_
  obtain ⟨g5, e⟩ := gd_some e
  obtain ⟨h6, r7, eh6, e⟩ := bn_some e
  refine eb_cg (p := hT h3 a1 = 14) rfl g5 (f_SB_length_ev d (Nat.le_trans (by decide) hd) eh6) ?_
  show Eb _ 126 (13, [.ref a0, .ref a1, .ref a2, .ref r4, .retAddr 0], [.int r7], h6) _ _
  refine eb_n 2 (16, [.ref a0, .ref a1, .ref a2, .ref r4, .int r7], [.ref a1], h6) (rfl) ?_
  obtain ⟨g8, e⟩ := gd_some e
  obtain ⟨h9, r10, eh9, e⟩ := bn_some e
  refine eb_cg (p := hT h6 a1 = 14) rfl g8 (f_ASB_isLatin1_ev d (Nat.le_trans (by decide) hd) eh9) ?_
  show Eb _ 126 (19, [.ref a0, .ref a1, .ref a2, .ref r4, .int r7], [.int r10], h9) _ _
  refine eb_b (c := r10 = 0) (41, [.ref a0, .ref a1, .ref a2, .ref r4, .int r7], [], h9) (22, [.ref a0, .ref a1, .ref a2, .ref r4, .int r7], [], h9) rfl (fun c11 => ?_) (fun c11 => ?_)
  · replace e := ite_t c11 e
    refine eb_n 1 (44, [.ref a0, .ref a1, .ref a2, .ref r4, .int r7], [.int (nI 1)], h9) (rfl) ?_
    refine eb_b (c := (nI 1) = 0) (79, [.ref a0, .ref a1, .ref a2, .ref r4, .int r7], [], h9) (47, [.ref a0, .ref a1, .ref a2, .ref r4, .int r7], [], h9) rfl (fun c12 => ?_) (fun c12 => ?_)
    · replace e := ite_t c12 e
      exact f_String_init_av_b79_ev d hd   _ _ _ _ _ _ e
    · replace e := ite_f c12 e
      refine eb_n 1 (48, [.ref a0, .ref a1, .ref a2, .ref r4, .int r7], [.ref a1], h9) (rfl) ?_
      obtain ⟨g13, e⟩ := gd_some e
      refine eb_g (p := hT h9 a1 = 14) (51, [.ref a0, .ref a1, .ref a2, .ref r4, .int r7], [.int (hI h9 a1 2)], h9) rfl g13 ?_
      refine eb_b (c := (hI h9 a1 2) = 0) (79, [.ref a0, .ref a1, .ref a2, .ref r4, .int r7], [], h9) (54, [.ref a0, .ref a1, .ref a2, .ref r4, .int r7], [], h9) rfl (fun c14 => ?_) (fun c14 => ?_)
      · replace e := ite_t c14 e
        exact f_String_init_av_b79_ev d hd   _ _ _ _ _ _ e
      · replace e := ite_f c14 e
        exact nomatch e
  · replace e := ite_f c11 e
    refine eb_n 2 (24, [.ref a0, .ref a1, .ref a2, .ref r4, .int r7], [.int (nI 0), .ref a0], h9) (rfl) ?_
    obtain ⟨g15, e⟩ := gd_some e
    obtain ⟨h16, eh16, e⟩ := lq_some e
    refine eb_g (p := hT h9 a0 = 15 ∧ KK ≤ a0 ∧ Int8.toInt32 (Int32.toInt8 (nI 0)) = (nI 0)) (27, [.ref a0, .ref a1, .ref a2, .ref r4, .int r7], [], h16) (by rw [eh16]; rfl) g15 ?_
    refine eb_n 4 (32, [.ref a0, .ref a1, .ref a2, .ref r4, .int r7], [.int r7, .int (nI 0), .ref r4, .ref a0], h16) (rfl) ?_
    obtain ⟨h17, r18, eh17, e⟩ := bn_some e
    refine eb_c rfl (f_Arrays_copyOfRange_ev d (Nat.le_trans (by decide) hd) eh17) ?_
    show Eb _ 126 (35, [.ref a0, .ref a1, .ref a2, .ref r4, .int r7], [.ref r18, .ref a0], h17) _ _
    obtain ⟨g19, e⟩ := gd_some e
    obtain ⟨h20, eh20, e⟩ := lq_some e
    refine eb_g (p := hT h17 a0 = 15 ∧ KK ≤ a0) (38, [.ref a0, .ref a1, .ref a2, .ref r4, .int r7], [], h20) (by rw [eh20]; rfl) g19 ?_
    refine eb_n 1 (97, [.ref a0, .ref a1, .ref a2, .ref r4, .int r7], [], h20) (rfl) ?_
    rw [sv_inj e]
    exact eb_r rfl
set_option maxRecDepth 100000 in
set_option maxHeartbeats 4000000 in
theorem f_String_init_s_ev (d0 : Nat) (hd0 : 5 ≤ d0) {h' : AH} {h : AH} {a0 : Nat} {a1 : Nat} (e : f_String_init_s h a0 a1 = some h') : Ev tb mL d0 90 [.ref a0, .ref a1] h h' none := by
  obtain ⟨d, rfl⟩ : ∃ d, d0 = d + 1 := ⟨d0 - 1, by omega⟩
  have hd : 4 ≤ d := by omega
  refine ⟨Nat.le_of_ble_eq_true rfl, ?_⟩
  show Eb (Ev tb mL d) 90 (0, [.ref a0, .ref a1], [], h) h' none
  unfold f_String_init_s at e
  refine eb_n 3 (3, [.ref a0, .ref a1], [.ref 0, .ref a1, .ref a0], h) (rfl) ?_
  obtain ⟨g1, e⟩ := gd_some e
  obtain ⟨h2, eh2, e⟩ := bv_some e
  refine eb_cg (p := hT h a0 = 15) rfl g1 (f_String_init_av_ev d (Nat.le_trans (by decide) hd) eh2) ?_
  show Eb _ 90 (6, [.ref a0, .ref a1], [], h2) _ _
  rw [sv_inj e]
  exact eb_r rfl
set_option maxRecDepth 100000 in
set_option maxHeartbeats 4000000 in
theorem f_SB_toString_ev (d0 : Nat) (hd0 : 6 ≤ d0) {h' : AH} {r : Nat} {h : AH} {a0 : Nat} (e : f_SB_toString h a0 = some (h', r)) : Ev tb mL d0 33 [.ref a0] h h' (some (.ref r)) := by
  obtain ⟨d, rfl⟩ : ∃ d, d0 = d + 1 := ⟨d0 - 1, by omega⟩
  have hd : 5 ≤ d := by omega
  refine ⟨Nat.le_of_ble_eq_true rfl, ?_⟩
  show Eb (Ev tb mL d) 33 (0, [.ref a0], [], h) h' (some (.ref r))
  unfold f_SB_toString at e
  obtain ⟨h1, eh1, e⟩ := lq_some e
  refine eb_n 1 (3, [.ref a0], [.ref (hN h)], h1) (by rw [eh1]; rfl) ?_
  refine eb_n 2 (5, [.ref a0], [.ref a0, .ref (hN h), .ref (hN h)], h1) (rfl) ?_
  obtain ⟨g2, e⟩ := gd_some e
  obtain ⟨h3, eh3, e⟩ := bv_some e
  refine eb_cg (p := hT h1 (hN h) = 15) rfl g2 (f_String_init_s_ev d (Nat.le_trans (by decide) hd) eh3) ?_
  show Eb _ 33 (8, [.ref a0], [.ref (hN h)], h3) _ _
  rw [(sp_inj e).1, (sp_inj e).2]
  exact eb_r rfl
set_option maxRecDepth 100000 in
set_option maxHeartbeats 4000000 in
theorem f_Sim_sumOf_ev (d0 : Nat) (hd0 : 7 ≤ d0) {h' : AH} {r : Nat} {h : AH} {a0 : Nat} (e : f_Sim_sumOf h a0 = some (h', r)) : Ev tb mL d0 31 [.ref a0] h h' (some (.ref r)) := by
  obtain ⟨d, rfl⟩ : ∃ d, d0 = d + 1 := ⟨d0 - 1, by omega⟩
  have hd : 6 ≤ d := by omega
  refine ⟨Nat.le_of_ble_eq_true rfl, ?_⟩
  show Eb (Ev tb mL d) 31 (0, [.ref a0, .retAddr 0], [], h) h' (some (.ref r))
  unfold f_Sim_sumOf at e
  refine eb_n 3 (5, [.ref a0, .retAddr 0], [.int (nI 2), .ref a0, .ref 2], h) (rfl) ?_
  obtain ⟨g1, e⟩ := gd_some e
  refine eb_g (p := hT h a0 = 101 ∧ inb (nI 2) (hL h a0)) (6, [.ref a0, .retAddr 0], [.int (hI h a0 (ix (nI 2))), .ref 2], h) rfl g1 ?_
  obtain ⟨g2, e⟩ := gd_some e
  refine eb_g (p := hT h 2 = 111 ∧ inb (hI h a0 (ix (nI 2))) (hL h 2)) (7, [.ref a0, .retAddr 0], [.ref (hR h 2 (ix (hI h a0 (ix (nI 2)))))], h) rfl g2 ?_
  obtain ⟨x3, hx3, e⟩ := lq_some e
  refine eb_n 1 (8, [.ref a0, .ref x3], [], h) (by subst hx3; rfl) ?_
  refine eb_n 2 (10, [.ref a0, .ref x3], [.int (nI 3), .ref a0], h) (rfl) ?_
  obtain ⟨g4, e⟩ := gd_some e
  refine eb_g (p := hT h a0 = 101 ∧ inb (nI 3) (hL h a0)) (11, [.ref a0, .ref x3], [.int (hI h a0 (ix (nI 3)))], h) rfl g4 ?_
  refine eb_b (c := ¬ (hI h a0 (ix (nI 3))) = 0) (41, [.ref a0, .ref x3], [], h) (14, [.ref a0, .ref x3], [], h) rfl (fun c5 => ?_) (fun c5 => ?_)
  · replace e := ite_t c5 e
    refine eb_n 2 (43, [.ref a0, .ref x3], [.int (nI 3), .ref a0], h) (rfl) ?_
    refine eb_g (p := hT h a0 = 101 ∧ inb (nI 3) (hL h a0)) (44, [.ref a0, .ref x3], [.int (hI h a0 (ix (nI 3)))], h) rfl g4 ?_
    refine eb_n 1 (45, [.ref a0, .ref x3], [.int (nI 1), .int (hI h a0 (ix (nI 3)))], h) (rfl) ?_
    refine eb_b (c := ¬ (hI h a0 (ix (nI 3))) = (nI 1)) (84, [.ref a0, .ref x3], [], h) (48, [.ref a0, .ref x3], [], h) rfl (fun c6 => ?_) (fun c6 => ?_)
    · replace e := ite_t c6 e
      refine eb_n 2 (86, [.ref a0, .ref x3], [.int (nI 3), .ref a0], h) (rfl) ?_
      refine eb_g (p := hT h a0 = 101 ∧ inb (nI 3) (hL h a0)) (87, [.ref a0, .ref x3], [.int (hI h a0 (ix (nI 3)))], h) rfl g4 ?_
      refine eb_n 1 (88, [.ref a0, .ref x3], [.int (nI 2), .int (hI h a0 (ix (nI 3)))], h) (rfl) ?_
      refine eb_b (c := ¬ (hI h a0 (ix (nI 3))) = (nI 2)) (132, [.ref a0, .ref x3], [], h) (91, [.ref a0, .ref x3], [], h) rfl (fun c7 => ?_) (fun c7 => ?_)
      · replace e := ite_t c7 e
        obtain ⟨h8, eh8, e⟩ := lq_some e
        refine eb_n 1 (135, [.ref a0, .ref x3], [.ref (hN h)], h8) (by rw [eh8]; rfl) ?_
        refine eb_n 1 (136, [.ref a0, .ref x3], [.ref (hN h), .ref (hN h)], h8) (rfl) ?_
        obtain ⟨g9, e⟩ := gd_some e
        obtain ⟨h10, eh10, e⟩ := bv_some e
        refine eb_cg (p := hT h8 (hN h) = 14) rfl g9 (f_SB_init_ev d (Nat.le_trans (by decide) hd) eh10) ?_
        show Eb _ 31 (139, [.ref a0, .ref x3], [.ref (hN h)], h10) _ _
        refine eb_n 1 (141, [.ref a0, .ref x3], [.ref 46, .ref (hN h)], h10) (rfl) ?_
        obtain ⟨g11, e⟩ := gd_some e
        obtain ⟨h12, r13, eh12, e⟩ := bn_some e
        refine eb_cg (p := hT h10 (hN h) = 14) rfl g11 (f_SB_append_s_ev d (Nat.le_trans (by decide) hd) eh12) ?_
        show Eb _ 31 (144, [.ref a0, .ref x3], [.ref r13], h12) _ _
        refine eb_n 1 (145, [.ref a0, .ref x3], [.ref x3, .ref r13], h12) (rfl) ?_
        obtain ⟨g14, e⟩ := gd_some e
        obtain ⟨h15, r16, eh15, e⟩ := bn_some e
        refine eb_cg (p := hT h12 r13 = 14) rfl g14 (f_SB_append_s_ev d (Nat.le_trans (by decide) hd) eh15) ?_
        show Eb _ 31 (148, [.ref a0, .ref x3], [.ref r16], h15) _ _
        refine eb_n 1 (150, [.ref a0, .ref x3], [.ref 74, .ref r16], h15) (rfl) ?_
        obtain ⟨g17, e⟩ := gd_some e
        obtain ⟨h18, r19, eh18, e⟩ := bn_some e
        refine eb_cg (p := hT h15 r16 = 14) rfl g17 (f_SB_append_s_ev d (Nat.le_trans (by decide) hd) eh18) ?_
        show Eb _ 31 (153, [.ref a0, .ref x3], [.ref r19], h18) _ _
        refine eb_n 2 (155, [.ref a0, .ref x3], [.int (nI 4), .ref a0, .ref r19], h18) (rfl) ?_
        obtain ⟨g20, e⟩ := gd_some e
        refine eb_g (p := hT h18 a0 = 101 ∧ inb (nI 4) (hL h18 a0)) (156, [.ref a0, .ref x3], [.int (hI h18 a0 (ix (nI 4))), .ref r19], h18) rfl g20 ?_
        refine eb_n 1 (157, [.ref a0, .ref x3], [.int (nI 5), .int (hI h18 a0 (ix (nI 4))), .ref r19], h18) (rfl) ?_
        refine eb_g (p := ¬ (nI 5) = 0) (158, [.ref a0, .ref x3], [.int ((hI h18 a0 (ix (nI 4))) - (hI h18 a0 (ix (nI 4))) / (nI 5) * (nI 5)), .ref r19], h18) rfl (by decide) ?_
        obtain ⟨g21, e⟩ := gd_some e
        obtain ⟨h22, r23, eh22, e⟩ := bn_some e
        refine eb_cg (p := hT h18 r19 = 14) rfl g21 (f_SB_append_I_ev d (Nat.le_trans (by decide) hd) eh22) ?_
        show Eb _ 31 (161, [.ref a0, .ref x3], [.ref r23], h22) _ _
        obtain ⟨g24, e⟩ := gd_some e
        obtain ⟨h25, r26, eh25, e⟩ := bn_some e
        refine eb_cg (p := hT h22 r23 = 14) rfl g24 (f_SB_toString_ev d (Nat.le_trans (by decide) hd) eh25) ?_
        show Eb _ 31 (164, [.ref a0, .ref x3], [.ref r26], h25) _ _
        rw [(sp_inj e).1, (sp_inj e).2]
        exact eb_r rfl
      · replace e := ite_f c7 e
        obtain ⟨h27, eh27, e⟩ := lq_some e
        refine eb_n 1 (94, [.ref a0, .ref x3], [.ref (hN h)], h27) (by rw [eh27]; rfl) ?_
        refine eb_n 1 (95, [.ref a0, .ref x3], [.ref (hN h), .ref (hN h)], h27) (rfl) ?_
        obtain ⟨g28, e⟩ := gd_some e
        obtain ⟨h29, eh29, e⟩ := bv_some e
        refine eb_cg (p := hT h27 (hN h) = 14) rfl g28 (f_SB_init_ev d (Nat.le_trans (by decide) hd) eh29) ?_
        show Eb _ 31 (98, [.ref a0, .ref x3], [.ref (hN h)], h29) _ _
        refine eb_n 1 (100, [.ref a0, .ref x3], [.ref 68, .ref (hN h)], h29) (rfl) ?_
        obtain ⟨g30, e⟩ := gd_some e
        obtain ⟨h31, r32, eh31, e⟩ := bn_some e
        refine eb_cg (p := hT h29 (hN h) = 14) rfl g30 (f_SB_append_s_ev d (Nat.le_trans (by decide) hd) eh31) ?_
        show Eb _ 31 (103, [.ref a0, .ref x3], [.ref r32], h31) _ _
        refine eb_n 1 (104, [.ref a0, .ref x3], [.ref x3, .ref r32], h31) (rfl) ?_
        obtain ⟨g33, e⟩ := gd_some e
        obtain ⟨h34, r35, eh34, e⟩ := bn_some e
        refine eb_cg (p := hT h31 r32 = 14) rfl g33 (f_SB_append_s_ev d (Nat.le_trans (by decide) hd) eh34) ?_
        show Eb _ 31 (107, [.ref a0, .ref x3], [.ref r35], h34) _ _
        refine eb_n 1 (109, [.ref a0, .ref x3], [.ref 70, .ref r35], h34) (rfl) ?_
        obtain ⟨g36, e⟩ := gd_some e
        obtain ⟨h37, r38, eh37, e⟩ := bn_some e
        refine eb_cg (p := hT h34 r35 = 14) rfl g36 (f_SB_append_s_ev d (Nat.le_trans (by decide) hd) eh37) ?_
        show Eb _ 31 (112, [.ref a0, .ref x3], [.ref r38], h37) _ _
        refine eb_n 2 (114, [.ref a0, .ref x3], [.int (nI 4), .ref a0, .ref r38], h37) (rfl) ?_
        obtain ⟨g39, e⟩ := gd_some e
        refine eb_g (p := hT h37 a0 = 101 ∧ inb (nI 4) (hL h37 a0)) (115, [.ref a0, .ref x3], [.int (hI h37 a0 (ix (nI 4))), .ref r38], h37) rfl g39 ?_
        refine eb_n 1 (117, [.ref a0, .ref x3], [.int (nI 9), .int (hI h37 a0 (ix (nI 4))), .ref r38], h37) (rfl) ?_
        refine eb_g (p := ¬ (nI 9) = 0) (118, [.ref a0, .ref x3], [.int ((hI h37 a0 (ix (nI 4))) - (hI h37 a0 (ix (nI 4))) / (nI 9) * (nI 9)), .ref r38], h37) rfl (by decide) ?_
        obtain ⟨g40, e⟩ := gd_some e
        obtain ⟨h41, r42, eh41, e⟩ := bn_some e
        refine eb_cg (p := hT h37 r38 = 14) rfl g40 (f_SB_append_I_ev d (Nat.le_trans (by decide) hd) eh41) ?_
        show Eb _ 31 (121, [.ref a0, .ref x3], [.ref r42], h41) _ _
        refine eb_n 1 (123, [.ref a0, .ref x3], [.ref 72, .ref r42], h41) (rfl) ?_
        obtain ⟨g43, e⟩ := gd_some e
        obtain ⟨h44, r45, eh44, e⟩ := bn_some e
        refine eb_cg (p := hT h41 r42 = 14) rfl g43 (f_SB_append_s_ev d (Nat.le_trans (by decide) hd) eh44) ?_
        show Eb _ 31 (126, [.ref a0, .ref x3], [.ref r45], h44) _ _
        obtain ⟨g46, e⟩ := gd_some e
        obtain ⟨h47, r48, eh47, e⟩ := bn_some e
        refine eb_cg (p := hT h44 r45 = 14) rfl g46 (f_SB_toString_ev d (Nat.le_trans (by decide) hd) eh47) ?_
        show Eb _ 31 (129, [.ref a0, .ref x3], [.ref r48], h47) _ _
        refine eb_n 1 (164, [.ref a0, .ref x3], [.ref r48], h47) (rfl) ?_
        rw [(sp_inj e).1, (sp_inj e).2]
        exact eb_r rfl
    · replace e := ite_f c6 e
      obtain ⟨h49, eh49, e⟩ := lq_some e
      refine eb_n 1 (51, [.ref a0, .ref x3], [.ref (hN h)], h49) (by rw [eh49]; rfl) ?_
      refine eb_n 1 (52, [.ref a0, .ref x3], [.ref (hN h), .ref (hN h)], h49) (rfl) ?_
      obtain ⟨g50, e⟩ := gd_some e
      obtain ⟨h51, eh51, e⟩ := bv_some e
      refine eb_cg (p := hT h49 (hN h) = 14) rfl g50 (f_SB_init_ev d (Nat.le_trans (by decide) hd) eh51) ?_
      show Eb _ 31 (55, [.ref a0, .ref x3], [.ref (hN h)], h51) _ _
      refine eb_n 1 (57, [.ref a0, .ref x3], [.ref 64, .ref (hN h)], h51) (rfl) ?_
      obtain ⟨g52, e⟩ := gd_some e
      obtain ⟨h53, r54, eh53, e⟩ := bn_some e
      refine eb_cg (p := hT h51 (hN h) = 14) rfl g52 (f_SB_append_s_ev d (Nat.le_trans (by decide) hd) eh53) ?_
      show Eb _ 31 (60, [.ref a0, .ref x3], [.ref r54], h53) _ _
      refine eb_n 1 (61, [.ref a0, .ref x3], [.ref x3, .ref r54], h53) (rfl) ?_
      obtain ⟨g55, e⟩ := gd_some e
      obtain ⟨h56, r57, eh56, e⟩ := bn_some e
      refine eb_cg (p := hT h53 r54 = 14) rfl g55 (f_SB_append_s_ev d (Nat.le_trans (by decide) hd) eh56) ?_
      show Eb _ 31 (64, [.ref a0, .ref x3], [.ref r57], h56) _ _
      refine eb_n 1 (66, [.ref a0, .ref x3], [.ref 66, .ref r57], h56) (rfl) ?_
      obtain ⟨g58, e⟩ := gd_some e
      obtain ⟨h59, r60, eh59, e⟩ := bn_some e
      refine eb_cg (p := hT h56 r57 = 14) rfl g58 (f_SB_append_s_ev d (Nat.le_trans (by decide) hd) eh59) ?_
      show Eb _ 31 (69, [.ref a0, .ref x3], [.ref r60], h59) _ _
      refine eb_n 2 (71, [.ref a0, .ref x3], [.int (nI 4), .ref a0, .ref r60], h59) (rfl) ?_
      obtain ⟨g61, e⟩ := gd_some e
      refine eb_g (p := hT h59 a0 = 101 ∧ inb (nI 4) (hL h59 a0)) (72, [.ref a0, .ref x3], [.int (hI h59 a0 (ix (nI 4))), .ref r60], h59) rfl g61 ?_
      refine eb_n 1 (74, [.ref a0, .ref x3], [.int (nI 7), .int (hI h59 a0 (ix (nI 4))), .ref r60], h59) (rfl) ?_
      refine eb_g (p := ¬ (nI 7) = 0) (75, [.ref a0, .ref x3], [.int ((hI h59 a0 (ix (nI 4))) - (hI h59 a0 (ix (nI 4))) / (nI 7) * (nI 7)), .ref r60], h59) rfl (by decide) ?_
      obtain ⟨g62, e⟩ := gd_some e
      obtain ⟨h63, r64, eh63, e⟩ := bn_some e
      refine eb_cg (p := hT h59 r60 = 14) rfl g62 (f_SB_append_I_ev d (Nat.le_trans (by decide) hd) eh63) ?_
      show Eb _ 31 (78, [.ref a0, .ref x3], [.ref r64], h63) _ _
      obtain ⟨g65, e⟩ := gd_some e
      obtain ⟨h66, r67, eh66, e⟩ := bn_some e
      refine eb_cg (p := hT h63 r64 = 14) rfl g65 (f_SB_toString_ev d (Nat.le_trans (by decide) hd) eh66) ?_
      show Eb _ 31 (81, [.ref a0, .ref x3], [.ref r67], h66) _ _
      refine eb_n 1 (164, [.ref a0, .ref x3], [.ref r67], h66) (rfl) ?_
      rw [(sp_inj e).1, (sp_inj e).2]
      exact eb_r rfl
  · replace e := ite_f c5 e
    obtain ⟨h68, eh68, e⟩ := lq_some e
    refine eb_n 1 (17, [.ref a0, .ref x3], [.ref (hN h)], h68) (by rw [eh68]; rfl) ?_
    refine eb_n 1 (18, [.ref a0, .ref x3], [.ref (hN h), .ref (hN h)], h68) (rfl) ?_
    obtain ⟨g69, e⟩ := gd_some e
    obtain ⟨h70, eh70, e⟩ := bv_some e
    refine eb_cg (p := hT h68 (hN h) = 14) rfl g69 (f_SB_init_ev d (Nat.le_trans (by decide) hd) eh70) ?_
    show Eb _ 31 (21, [.ref a0, .ref x3], [.ref (hN h)], h70) _ _
    refine eb_n 1 (23, [.ref a0, .ref x3], [.ref 62, .ref (hN h)], h70) (rfl) ?_
    obtain ⟨g71, e⟩ := gd_some e
    obtain ⟨h72, r73, eh72, e⟩ := bn_some e
    refine eb_cg (p := hT h70 (hN h) = 14) rfl g71 (f_SB_append_s_ev d (Nat.le_trans (by decide) hd) eh72) ?_
    show Eb _ 31 (26, [.ref a0, .ref x3], [.ref r73], h72) _ _
    refine eb_n 2 (28, [.ref a0, .ref x3], [.int (nI 4), .ref a0, .ref r73], h72) (rfl) ?_
    obtain ⟨g74, e⟩ := gd_some e
    refine eb_g (p := hT h72 a0 = 101 ∧ inb (nI 4) (hL h72 a0)) (29, [.ref a0, .ref x3], [.int (hI h72 a0 (ix (nI 4))), .ref r73], h72) rfl g74 ?_
    refine eb_n 1 (31, [.ref a0, .ref x3], [.int (nI 50), .int (hI h72 a0 (ix (nI 4))), .ref r73], h72) (rfl) ?_
    refine eb_g (p := ¬ (nI 50) = 0) (32, [.ref a0, .ref x3], [.int ((hI h72 a0 (ix (nI 4))) - (hI h72 a0 (ix (nI 4))) / (nI 50) * (nI 50)), .ref r73], h72) rfl (by decide) ?_
    obtain ⟨g75, e⟩ := gd_some e
    obtain ⟨h76, r77, eh76, e⟩ := bn_some e
    refine eb_cg (p := hT h72 r73 = 14) rfl g75 (f_SB_append_I_ev d (Nat.le_trans (by decide) hd) eh76) ?_
    show Eb _ 31 (35, [.ref a0, .ref x3], [.ref r77], h76) _ _
    obtain ⟨g78, e⟩ := gd_some e
    obtain ⟨h79, r80, eh79, e⟩ := bn_some e
    refine eb_cg (p := hT h76 r77 = 14) rfl g78 (f_SB_toString_ev d (Nat.le_trans (by decide) hd) eh79) ?_
    show Eb _ 31 (38, [.ref a0, .ref x3], [.ref r80], h79) _ _
    refine eb_n 1 (164, [.ref a0, .ref x3], [.ref r80], h79) (rfl) ?_
    rw [(sp_inj e).1, (sp_inj e).2]
    exact eb_r rfl
set_option maxRecDepth 100000 in
set_option maxHeartbeats 4000000 in
theorem f_Sim_test_ev (d0 : Nat) (hd0 : 7 ≤ d0) {h' : AH} {r : Nat} {h : AH} {a0 : Nat} {a1 : Nat} (e : f_Sim_test h a0 a1 = some (h', r)) : Ev tb mL d0 32 [.ref a0, .ref a1] h h' (some (.ref r)) := by
  obtain ⟨d, rfl⟩ : ∃ d, d0 = d + 1 := ⟨d0 - 1, by omega⟩
  have hd : 6 ≤ d := by omega
  refine ⟨Nat.le_of_ble_eq_true rfl, ?_⟩
  show Eb (Ev tb mL d) 32 (0, [.ref a0, .ref a1, .retAddr 0, .retAddr 0, .retAddr 0, .retAddr 0], [], h) h' (some (.ref r))
  unfold f_Sim_test at e
  refine eb_n 2 (3, [.ref a0, .ref a1, .retAddr 0, .retAddr 0, .retAddr 0, .retAddr 0], [.int (nI 6), .ref a1], h) (rfl) ?_
  obtain ⟨g1, e⟩ := gd_some e
  refine eb_g (p := hT h a1 = 101 ∧ inb (nI 6) (hL h a1)) (4, [.ref a0, .ref a1, .retAddr 0, .retAddr 0, .retAddr 0, .retAddr 0], [.int (hI h a1 (ix (nI 6)))], h) rfl g1 ?_
  obtain ⟨x2, hx2, e⟩ := lq_some e
  refine eb_n 1 (5, [.ref a0, .ref a1, .int x2, .retAddr 0, .retAddr 0, .retAddr 0], [], h) (by subst hx2; rfl) ?_
  refine eb_n 2 (8, [.ref a0, .ref a1, .int x2, .retAddr 0, .retAddr 0, .retAddr 0], [.int (nI 7), .ref a1], h) (rfl) ?_
  obtain ⟨g3, e⟩ := gd_some e
  refine eb_g (p := hT h a1 = 101 ∧ inb (nI 7) (hL h a1)) (9, [.ref a0, .ref a1, .int x2, .retAddr 0, .retAddr 0, .retAddr 0], [.int (hI h a1 (ix (nI 7)))], h) rfl g3 ?_
  obtain ⟨x4, hx4, e⟩ := lq_some e
  refine eb_n 1 (10, [.ref a0, .ref a1, .int x2, .int x4, .retAddr 0, .retAddr 0], [], h) (by subst hx4; rfl) ?_
  obtain ⟨h5, eh5, e⟩ := lq_some e
  refine eb_n 1 (13, [.ref a0, .ref a1, .int x2, .int x4, .retAddr 0, .retAddr 0], [.ref (hN h)], h5) (by rw [eh5]; rfl) ?_
  refine eb_n 1 (14, [.ref a0, .ref a1, .int x2, .int x4, .retAddr 0, .retAddr 0], [.ref (hN h), .ref (hN h)], h5) (rfl) ?_
  obtain ⟨g6, e⟩ := gd_some e
  obtain ⟨h7, eh7, e⟩ := bv_some e
  refine eb_cg (p := hT h5 (hN h) = 14) rfl g6 (f_SB_init_ev d (Nat.le_trans (by decide) hd) eh7) ?_
  show Eb _ 32 (17, [.ref a0, .ref a1, .int x2, .int x4, .retAddr 0, .retAddr 0], [.ref (hN h)], h7) _ _
  refine eb_n 1 (19, [.ref a0, .ref a1, .int x2, .int x4, .retAddr 0, .retAddr 0], [.ref 76, .ref (hN h)], h7) (rfl) ?_
  obtain ⟨g8, e⟩ := gd_some e
  obtain ⟨h9, r10, eh9, e⟩ := bn_some e
  refine eb_cg (p := hT h7 (hN h) = 14) rfl g8 (f_SB_append_s_ev d (Nat.le_trans (by decide) hd) eh9) ?_
  show Eb _ 32 (22, [.ref a0, .ref a1, .int x2, .int x4, .retAddr 0, .retAddr 0], [.ref r10], h9) _ _
  refine eb_n 2 (24, [.ref a0, .ref a1, .int x2, .int x4, .retAddr 0, .retAddr 0], [.ref a0, .int x2, .ref r10], h9) (rfl) ?_
  obtain ⟨g11, e⟩ := gd_some e
  refine eb_g (p := hT h9 a0 = 13) (27, [.ref a0, .ref a1, .int x2, .int x4, .retAddr 0, .retAddr 0], [.ref (hR h9 a0 15), .int x2, .ref r10], h9) rfl g11 ?_
  obtain ⟨g12, e⟩ := gd_some e
  refine eb_g (p := hT h9 (hR h9 a0 15) = 109) (28, [.ref a0, .ref a1, .int x2, .int x4, .retAddr 0, .retAddr 0], [.int (nI (hL h9 (hR h9 a0 15))), .int x2, .ref r10], h9) rfl g12 ?_
  obtain ⟨g13, e⟩ := gd_some e
  refine eb_g (p := ¬ (nI (hL h9 (hR h9 a0 15))) = 0) (29, [.ref a0, .ref a1, .int x2, .int x4, .retAddr 0, .retAddr 0], [.int (x2 - x2 / (nI (hL h9 (hR h9 a0 15))) * (nI (hL h9 (hR h9 a0 15)))), .ref r10], h9) rfl g13 ?_
  obtain ⟨g14, e⟩ := gd_some e
  obtain ⟨h15, r16, eh15, e⟩ := bn_some e
  refine eb_cg (p := hT h9 r10 = 14) rfl g14 (f_SB_append_I_ev d (Nat.le_trans (by decide) hd) eh15) ?_
  show Eb _ 32 (32, [.ref a0, .ref a1, .int x2, .int x4, .retAddr 0, .retAddr 0], [.ref r16], h15) _ _
  obtain ⟨g17, e⟩ := gd_some e
  obtain ⟨h18, r19, eh18, e⟩ := bn_some e
  refine eb_cg (p := hT h15 r16 = 14) rfl g17 (f_SB_toString_ev d (Nat.le_trans (by decide) hd) eh18) ?_
  show Eb _ 32 (35, [.ref a0, .ref a1, .int x2, .int x4, .retAddr 0, .retAddr 0], [.ref r19], h18) _ _
  refine eb_n 1 (37, [.ref a0, .ref a1, .int x2, .int x4, .ref r19, .retAddr 0], [], h18) (rfl) ?_
  obtain ⟨h20, eh20, e⟩ := lq_some e
  refine eb_n 1 (40, [.ref a0, .ref a1, .int x2, .int x4, .ref r19, .retAddr 0], [.ref (hN h18)], h20) (by rw [eh20]; rfl) ?_
  refine eb_n 1 (41, [.ref a0, .ref a1, .int x2, .int x4, .ref r19, .retAddr 0], [.ref (hN h18), .ref (hN h18)], h20) (rfl) ?_
  obtain ⟨g21, e⟩ := gd_some e
  obtain ⟨h22, eh22, e⟩ := bv_some e
  refine eb_cg (p := hT h20 (hN h18) = 14) rfl g21 (f_SB_init_ev d (Nat.le_trans (by decide) hd) eh22) ?_
  show Eb _ 32 (44, [.ref a0, .ref a1, .int x2, .int x4, .ref r19, .retAddr 0], [.ref (hN h18)], h22) _ _
  refine eb_n 1 (46, [.ref a0, .ref a1, .int x2, .int x4, .ref r19, .retAddr 0], [.ref 78, .ref (hN h18)], h22) (rfl) ?_
  obtain ⟨g23, e⟩ := gd_some e
  obtain ⟨h24, r25, eh24, e⟩ := bn_some e
  refine eb_cg (p := hT h22 (hN h18) = 14) rfl g23 (f_SB_append_s_ev d (Nat.le_trans (by decide) hd) eh24) ?_
  show Eb _ 32 (49, [.ref a0, .ref a1, .int x2, .int x4, .ref r19, .retAddr 0], [.ref r25], h24) _ _
  refine eb_n 2 (51, [.ref a0, .ref a1, .int x2, .int x4, .ref r19, .retAddr 0], [.ref a0, .int x2, .ref r25], h24) (rfl) ?_
  obtain ⟨g26, e⟩ := gd_some e
  refine eb_g (p := hT h24 a0 = 13) (54, [.ref a0, .ref a1, .int x2, .int x4, .ref r19, .retAddr 0], [.ref (hR h24 a0 16), .int x2, .ref r25], h24) rfl g26 ?_
  obtain ⟨g27, e⟩ := gd_some e
  refine eb_g (p := hT h24 (hR h24 a0 16) = 109) (55, [.ref a0, .ref a1, .int x2, .int x4, .ref r19, .retAddr 0], [.int (nI (hL h24 (hR h24 a0 16))), .int x2, .ref r25], h24) rfl g27 ?_
  obtain ⟨g28, e⟩ := gd_some e
  refine eb_g (p := ¬ (nI (hL h24 (hR h24 a0 16))) = 0) (56, [.ref a0, .ref a1, .int x2, .int x4, .ref r19, .retAddr 0], [.int (x2 - x2 / (nI (hL h24 (hR h24 a0 16))) * (nI (hL h24 (hR h24 a0 16)))), .ref r25], h24) rfl g28 ?_
  obtain ⟨g29, e⟩ := gd_some e
  obtain ⟨h30, r31, eh30, e⟩ := bn_some e
  refine eb_cg (p := hT h24 r25 = 14) rfl g29 (f_SB_append_I_ev d (Nat.le_trans (by decide) hd) eh30) ?_
  show Eb _ 32 (59, [.ref a0, .ref a1, .int x2, .int x4, .ref r19, .retAddr 0], [.ref r31], h30) _ _
  obtain ⟨g32, e⟩ := gd_some e
  obtain ⟨h33, r34, eh33, e⟩ := bn_some e
  refine eb_cg (p := hT h30 r31 = 14) rfl g32 (f_SB_toString_ev d (Nat.le_trans (by decide) hd) eh33) ?_
  show Eb _ 32 (62, [.ref a0, .ref a1, .int x2, .int x4, .ref r19, .retAddr 0], [.ref r34], h33) _ _
  refine eb_n 3 (66, [.ref a0, .ref a1, .int x2, .int x4, .ref r19, .ref r34], [.int (nI 5), .ref a1], h33) (rfl) ?_
  obtain ⟨g35, e⟩ := gd_some e
  refine eb_g (p := hT h33 a1 = 101 ∧ inb (nI 5) (hL h33 a1)) (67, [.ref a0, .ref a1, .int x2, .int x4, .ref r19, .ref r34], [.int (hI h33 a1 (ix (nI 5)))], h33) rfl g35 ?_
  obtain ⟨x36, hx36, e⟩ := lq_some e
  rw [← hx36]
  by_cases c37 : x36 = nI 0
  · replace e := ite_t c37 e
    refine eb_n 1 (112, [.ref a0, .ref a1, .int x2, .int x4, .ref r19, .ref r34], [], h33) (by rw [c37]; rfl) ?_
    obtain ⟨h38, eh38, e⟩ := lq_some e
    refine eb_n 1 (115, [.ref a0, .ref a1, .int x2, .int x4, .ref r19, .ref r34], [.ref (hN h33)], h38) (by rw [eh38]; rfl) ?_
    refine eb_n 1 (116, [.ref a0, .ref a1, .int x2, .int x4, .ref r19, .ref r34], [.ref (hN h33), .ref (hN h33)], h38) (rfl) ?_
    obtain ⟨g39, e⟩ := gd_some e
    obtain ⟨h40, eh40, e⟩ := bv_some e
    refine eb_cg (p := hT h38 (hN h33) = 14) rfl g39 (f_SB_init_ev d (Nat.le_trans (by decide) hd) eh40) ?_
    show Eb _ 32 (119, [.ref a0, .ref a1, .int x2, .int x4, .ref r19, .ref r34], [.ref (hN h33)], h40) _ _
    refine eb_n 1 (121, [.ref a0, .ref a1, .int x2, .int x4, .ref r19, .ref r34], [.ref 80, .ref (hN h33)], h40) (rfl) ?_
    obtain ⟨g41, e⟩ := gd_some e
    obtain ⟨h42, r43, eh42, e⟩ := bn_some e
    refine eb_cg (p := hT h40 (hN h33) = 14) rfl g41 (f_SB_append_s_ev d (Nat.le_trans (by decide) hd) eh42) ?_
    show Eb _ 32 (124, [.ref a0, .ref a1, .int x2, .int x4, .ref r19, .ref r34], [.ref r43], h42) _ _
    refine eb_n 2 (127, [.ref a0, .ref a1, .int x2, .int x4, .ref r19, .ref r34], [.int (nI 12), .int x4, .ref r43], h42) (rfl) ?_
    refine eb_g (p := ¬ (nI 12) = 0) (128, [.ref a0, .ref a1, .int x2, .int x4, .ref r19, .ref r34], [.int (x4 - x4 / (nI 12) * (nI 12)), .ref r43], h42) rfl (by decide) ?_
    obtain ⟨g44, e⟩ := gd_some e
    obtain ⟨h45, r46, eh45, e⟩ := bn_some e
    refine eb_cg (p := hT h42 r43 = 14) rfl g44 (f_SB_append_I_ev d (Nat.le_trans (by decide) hd) eh45) ?_
    show Eb _ 32 (131, [.ref a0, .ref a1, .int x2, .int x4, .ref r19, .ref r34], [.ref r46], h45) _ _
    obtain ⟨g47, e⟩ := gd_some e
    obtain ⟨h48, r49, eh48, e⟩ := bn_some e
    refine eb_cg (p := hT h45 r46 = 14) rfl g47 (f_SB_toString_ev d (Nat.le_trans (by decide) hd) eh48) ?_
    show Eb _ 32 (134, [.ref a0, .ref a1, .int x2, .int x4, .ref r19, .ref r34], [.ref r49], h48) _ _
    rw [(sp_inj e).1, (sp_inj e).2]
    exact eb_r rfl
  replace e := ite_f c37 e
  by_cases c50 : x36 = nI 1
  · replace e := ite_t c50 e
    refine eb_n 1 (135, [.ref a0, .ref a1, .int x2, .int x4, .ref r19, .ref r34], [], h33) (by rw [c50]; rfl) ?_
    obtain ⟨h51, eh51, e⟩ := lq_some e
    refine eb_n 1 (138, [.ref a0, .ref a1, .int x2, .int x4, .ref r19, .ref r34], [.ref (hN h33)], h51) (by rw [eh51]; rfl) ?_
    refine eb_n 1 (139, [.ref a0, .ref a1, .int x2, .int x4, .ref r19, .ref r34], [.ref (hN h33), .ref (hN h33)], h51) (rfl) ?_
    obtain ⟨g52, e⟩ := gd_some e
    obtain ⟨h53, eh53, e⟩ := bv_some e
    refine eb_cg (p := hT h51 (hN h33) = 14) rfl g52 (f_SB_init_ev d (Nat.le_trans (by decide) hd) eh53) ?_
    show Eb _ 32 (142, [.ref a0, .ref a1, .int x2, .int x4, .ref r19, .ref r34], [.ref (hN h33)], h53) _ _
    refine eb_n 1 (144, [.ref a0, .ref a1, .int x2, .int x4, .ref r19, .ref r34], [.ref 82, .ref (hN h33)], h53) (rfl) ?_
    obtain ⟨g54, e⟩ := gd_some e
    obtain ⟨h55, r56, eh55, e⟩ := bn_some e
    refine eb_cg (p := hT h53 (hN h33) = 14) rfl g54 (f_SB_append_s_ev d (Nat.le_trans (by decide) hd) eh55) ?_
    show Eb _ 32 (147, [.ref a0, .ref a1, .int x2, .int x4, .ref r19, .ref r34], [.ref r56], h55) _ _
    refine eb_n 1 (149, [.ref a0, .ref a1, .int x2, .int x4, .ref r19, .ref r34], [.ref r19, .ref r56], h55) (rfl) ?_
    obtain ⟨g57, e⟩ := gd_some e
    obtain ⟨h58, r59, eh58, e⟩ := bn_some e
    refine eb_cg (p := hT h55 r56 = 14) rfl g57 (f_SB_append_s_ev d (Nat.le_trans (by decide) hd) eh58) ?_
    show Eb _ 32 (152, [.ref a0, .ref a1, .int x2, .int x4, .ref r19, .ref r34], [.ref r59], h58) _ _
    refine eb_n 1 (154, [.ref a0, .ref a1, .int x2, .int x4, .ref r19, .ref r34], [.ref 84, .ref r59], h58) (rfl) ?_
    obtain ⟨g60, e⟩ := gd_some e
    obtain ⟨h61, r62, eh61, e⟩ := bn_some e
    refine eb_cg (p := hT h58 r59 = 14) rfl g60 (f_SB_append_s_ev d (Nat.le_trans (by decide) hd) eh61) ?_
    show Eb _ 32 (157, [.ref a0, .ref a1, .int x2, .int x4, .ref r19, .ref r34], [.ref r62], h61) _ _
    refine eb_n 2 (160, [.ref a0, .ref a1, .int x2, .int x4, .ref r19, .ref r34], [.int (nI 21), .int x4, .ref r62], h61) (rfl) ?_
    refine eb_g (p := ¬ (nI 21) = 0) (161, [.ref a0, .ref a1, .int x2, .int x4, .ref r19, .ref r34], [.int (x4 - x4 / (nI 21) * (nI 21)), .ref r62], h61) rfl (by decide) ?_
    obtain ⟨g63, e⟩ := gd_some e
    obtain ⟨h64, r65, eh64, e⟩ := bn_some e
    refine eb_cg (p := hT h61 r62 = 14) rfl g63 (f_SB_append_I_ev d (Nat.le_trans (by decide) hd) eh64) ?_
    show Eb _ 32 (164, [.ref a0, .ref a1, .int x2, .int x4, .ref r19, .ref r34], [.ref r65], h64) _ _
    obtain ⟨g66, e⟩ := gd_some e
    obtain ⟨h67, r68, eh67, e⟩ := bn_some e
    refine eb_cg (p := hT h64 r65 = 14) rfl g66 (f_SB_toString_ev d (Nat.le_trans (by decide) hd) eh67) ?_
    show Eb _ 32 (167, [.ref a0, .ref a1, .int x2, .int x4, .ref r19, .ref r34], [.ref r68], h67) _ _
    rw [(sp_inj e).1, (sp_inj e).2]
    exact eb_r rfl
  replace e := ite_f c50 e
  by_cases c69 : x36 = nI 2
  · replace e := ite_t c69 e
    refine eb_n 1 (168, [.ref a0, .ref a1, .int x2, .int x4, .ref r19, .ref r34], [], h33) (by rw [c69]; rfl) ?_
    obtain ⟨h70, eh70, e⟩ := lq_some e
    refine eb_n 1 (171, [.ref a0, .ref a1, .int x2, .int x4, .ref r19, .ref r34], [.ref (hN h33)], h70) (by rw [eh70]; rfl) ?_
    refine eb_n 1 (172, [.ref a0, .ref a1, .int x2, .int x4, .ref r19, .ref r34], [.ref (hN h33), .ref (hN h33)], h70) (rfl) ?_
    obtain ⟨g71, e⟩ := gd_some e
    obtain ⟨h72, eh72, e⟩ := bv_some e
    refine eb_cg (p := hT h70 (hN h33) = 14) rfl g71 (f_SB_init_ev d (Nat.le_trans (by decide) hd) eh72) ?_
    show Eb _ 32 (175, [.ref a0, .ref a1, .int x2, .int x4, .ref r19, .ref r34], [.ref (hN h33)], h72) _ _
    refine eb_n 1 (177, [.ref a0, .ref a1, .int x2, .int x4, .ref r19, .ref r34], [.ref 86, .ref (hN h33)], h72) (rfl) ?_
    obtain ⟨g73, e⟩ := gd_some e
    obtain ⟨h74, r75, eh74, e⟩ := bn_some e
    refine eb_cg (p := hT h72 (hN h33) = 14) rfl g73 (f_SB_append_s_ev d (Nat.le_trans (by decide) hd) eh74) ?_
    show Eb _ 32 (180, [.ref a0, .ref a1, .int x2, .int x4, .ref r19, .ref r34], [.ref r75], h74) _ _
    refine eb_n 1 (182, [.ref a0, .ref a1, .int x2, .int x4, .ref r19, .ref r34], [.ref r19, .ref r75], h74) (rfl) ?_
    obtain ⟨g76, e⟩ := gd_some e
    obtain ⟨h77, r78, eh77, e⟩ := bn_some e
    refine eb_cg (p := hT h74 r75 = 14) rfl g76 (f_SB_append_s_ev d (Nat.le_trans (by decide) hd) eh77) ?_
    show Eb _ 32 (185, [.ref a0, .ref a1, .int x2, .int x4, .ref r19, .ref r34], [.ref r78], h77) _ _
    obtain ⟨g79, e⟩ := gd_some e
    obtain ⟨h80, r81, eh80, e⟩ := bn_some e
    refine eb_cg (p := hT h77 r78 = 14) rfl g79 (f_SB_toString_ev d (Nat.le_trans (by decide) hd) eh80) ?_
    show Eb _ 32 (188, [.ref a0, .ref a1, .int x2, .int x4, .ref r19, .ref r34], [.ref r81], h80) _ _
    rw [(sp_inj e).1, (sp_inj e).2]
    exact eb_r rfl
  replace e := ite_f c69 e
  by_cases c82 : x36 = nI 3
  · replace e := ite_t c82 e
    refine eb_n 1 (189, [.ref a0, .ref a1, .int x2, .int x4, .ref r19, .ref r34], [], h33) (by rw [c82]; rfl) ?_
    obtain ⟨h83, eh83, e⟩ := lq_some e
    refine eb_n 1 (192, [.ref a0, .ref a1, .int x2, .int x4, .ref r19, .ref r34], [.ref (hN h33)], h83) (by rw [eh83]; rfl) ?_
    refine eb_n 1 (193, [.ref a0, .ref a1, .int x2, .int x4, .ref r19, .ref r34], [.ref (hN h33), .ref (hN h33)], h83) (rfl) ?_
    obtain ⟨g84, e⟩ := gd_some e
    obtain ⟨h85, eh85, e⟩ := bv_some e
    refine eb_cg (p := hT h83 (hN h33) = 14) rfl g84 (f_SB_init_ev d (Nat.le_trans (by decide) hd) eh85) ?_
    show Eb _ 32 (196, [.ref a0, .ref a1, .int x2, .int x4, .ref r19, .ref r34], [.ref (hN h33)], h85) _ _
    refine eb_n 1 (198, [.ref a0, .ref a1, .int x2, .int x4, .ref r19, .ref r34], [.ref 88, .ref (hN h33)], h85) (rfl) ?_
    obtain ⟨g86, e⟩ := gd_some e
    obtain ⟨h87, r88, eh87, e⟩ := bn_some e
    refine eb_cg (p := hT h85 (hN h33) = 14) rfl g86 (f_SB_append_s_ev d (Nat.le_trans (by decide) hd) eh87) ?_
    show Eb _ 32 (201, [.ref a0, .ref a1, .int x2, .int x4, .ref r19, .ref r34], [.ref r88], h87) _ _
    refine eb_n 1 (203, [.ref a0, .ref a1, .int x2, .int x4, .ref r19, .ref r34], [.ref r34, .ref r88], h87) (rfl) ?_
    obtain ⟨g89, e⟩ := gd_some e
    obtain ⟨h90, r91, eh90, e⟩ := bn_some e
    refine eb_cg (p := hT h87 r88 = 14) rfl g89 (f_SB_append_s_ev d (Nat.le_trans (by decide) hd) eh90) ?_
    show Eb _ 32 (206, [.ref a0, .ref a1, .int x2, .int x4, .ref r19, .ref r34], [.ref r91], h90) _ _
    obtain ⟨g92, e⟩ := gd_some e
    obtain ⟨h93, r94, eh93, e⟩ := bn_some e
    refine eb_cg (p := hT h90 r91 = 14) rfl g92 (f_SB_toString_ev d (Nat.le_trans (by decide) hd) eh93) ?_
    show Eb _ 32 (209, [.ref a0, .ref a1, .int x2, .int x4, .ref r19, .ref r34], [.ref r94], h93) _ _
    rw [(sp_inj e).1, (sp_inj e).2]
    exact eb_r rfl
  replace e := ite_f c82 e
  by_cases c95 : x36 = nI 4
  · replace e := ite_t c95 e
    refine eb_n 1 (210, [.ref a0, .ref a1, .int x2, .int x4, .ref r19, .ref r34], [], h33) (by rw [c95]; rfl) ?_
    obtain ⟨h96, eh96, e⟩ := lq_some e
    refine eb_n 1 (213, [.ref a0, .ref a1, .int x2, .int x4, .ref r19, .ref r34], [.ref (hN h33)], h96) (by rw [eh96]; rfl) ?_
    refine eb_n 1 (214, [.ref a0, .ref a1, .int x2, .int x4, .ref r19, .ref r34], [.ref (hN h33), .ref (hN h33)], h96) (rfl) ?_
    obtain ⟨g97, e⟩ := gd_some e
    obtain ⟨h98, eh98, e⟩ := bv_some e
    refine eb_cg (p := hT h96 (hN h33) = 14) rfl g97 (f_SB_init_ev d (Nat.le_trans (by decide) hd) eh98) ?_
    show Eb _ 32 (217, [.ref a0, .ref a1, .int x2, .int x4, .ref r19, .ref r34], [.ref (hN h33)], h98) _ _
    refine eb_n 1 (219, [.ref a0, .ref a1, .int x2, .int x4, .ref r19, .ref r34], [.ref 90, .ref (hN h33)], h98) (rfl) ?_
    obtain ⟨g99, e⟩ := gd_some e
    obtain ⟨h100, r101, eh100, e⟩ := bn_some e
    refine eb_cg (p := hT h98 (hN h33) = 14) rfl g99 (f_SB_append_s_ev d (Nat.le_trans (by decide) hd) eh100) ?_
    show Eb _ 32 (222, [.ref a0, .ref a1, .int x2, .int x4, .ref r19, .ref r34], [.ref r101], h100) _ _
    refine eb_n 1 (223, [.ref a0, .ref a1, .int x2, .int x4, .ref r19, .ref r34], [.int x4, .ref r101], h100) (rfl) ?_
    obtain ⟨g102, e⟩ := gd_some e
    obtain ⟨h103, r104, eh103, e⟩ := bn_some e
    refine eb_cg (p := hT h100 r101 = 14) rfl g102 (f_SB_append_I_ev d (Nat.le_trans (by decide) hd) eh103) ?_
    show Eb _ 32 (226, [.ref a0, .ref a1, .int x2, .int x4, .ref r19, .ref r34], [.ref r104], h103) _ _
    obtain ⟨g105, e⟩ := gd_some e
    obtain ⟨h106, r107, eh106, e⟩ := bn_some e
    refine eb_cg (p := hT h103 r104 = 14) rfl g105 (f_SB_toString_ev d (Nat.le_trans (by decide) hd) eh106) ?_
    show Eb _ 32 (229, [.ref a0, .ref a1, .int x2, .int x4, .ref r19, .ref r34], [.ref r107], h106) _ _
    rw [(sp_inj e).1, (sp_inj e).2]
    exact eb_r rfl
  replace e := ite_f c95 e
  by_cases c108 : x36 = nI 5
  · replace e := ite_t c108 e
    refine eb_n 1 (230, [.ref a0, .ref a1, .int x2, .int x4, .ref r19, .ref r34], [], h33) (by rw [c108]; rfl) ?_
    obtain ⟨h109, eh109, e⟩ := lq_some e
    refine eb_n 1 (233, [.ref a0, .ref a1, .int x2, .int x4, .ref r19, .ref r34], [.ref (hN h33)], h109) (by rw [eh109]; rfl) ?_
    refine eb_n 1 (234, [.ref a0, .ref a1, .int x2, .int x4, .ref r19, .ref r34], [.ref (hN h33), .ref (hN h33)], h109) (rfl) ?_
    obtain ⟨g110, e⟩ := gd_some e
    obtain ⟨h111, eh111, e⟩ := bv_some e
    refine eb_cg (p := hT h109 (hN h33) = 14) rfl g110 (f_SB_init_ev d (Nat.le_trans (by decide) hd) eh111) ?_
    show Eb _ 32 (237, [.ref a0, .ref a1, .int x2, .int x4, .ref r19, .ref r34], [.ref (hN h33)], h111) _ _
    refine eb_n 1 (239, [.ref a0, .ref a1, .int x2, .int x4, .ref r19, .ref r34], [.ref 92, .ref (hN h33)], h111) (rfl) ?_
    obtain ⟨g112, e⟩ := gd_some e
    obtain ⟨h113, r114, eh113, e⟩ := bn_some e
    refine eb_cg (p := hT h111 (hN h33) = 14) rfl g112 (f_SB_append_s_ev d (Nat.le_trans (by decide) hd) eh113) ?_
    show Eb _ 32 (242, [.ref a0, .ref a1, .int x2, .int x4, .ref r19, .ref r34], [.ref r114], h113) _ _
    refine eb_n 2 (244, [.ref a0, .ref a1, .int x2, .int x4, .ref r19, .ref r34], [.ref a0, .int x2, .ref r114], h113) (rfl) ?_
    obtain ⟨g115, e⟩ := gd_some e
    refine eb_g (p := hT h113 a0 = 13) (247, [.ref a0, .ref a1, .int x2, .int x4, .ref r19, .ref r34], [.ref (hR h113 a0 14), .int x2, .ref r114], h113) rfl g115 ?_
    obtain ⟨g116, e⟩ := gd_some e
    refine eb_g (p := hT h113 (hR h113 a0 14) = 110) (248, [.ref a0, .ref a1, .int x2, .int x4, .ref r19, .ref r34], [.int (nI (hL h113 (hR h113 a0 14))), .int x2, .ref r114], h113) rfl g116 ?_
    obtain ⟨g117, e⟩ := gd_some e
    refine eb_g (p := ¬ (nI (hL h113 (hR h113 a0 14))) = 0) (249, [.ref a0, .ref a1, .int x2, .int x4, .ref r19, .ref r34], [.int (x2 - x2 / (nI (hL h113 (hR h113 a0 14))) * (nI (hL h113 (hR h113 a0 14)))), .ref r114], h113) rfl g117 ?_
    obtain ⟨g118, e⟩ := gd_some e
    obtain ⟨h119, r120, eh119, e⟩ := bn_some e
    refine eb_cg (p := hT h113 r114 = 14) rfl g118 (f_SB_append_I_ev d (Nat.le_trans (by decide) hd) eh119) ?_
    show Eb _ 32 (252, [.ref a0, .ref a1, .int x2, .int x4, .ref r19, .ref r34], [.ref r120], h119) _ _
    refine eb_n 1 (254, [.ref a0, .ref a1, .int x2, .int x4, .ref r19, .ref r34], [.ref 94, .ref r120], h119) (rfl) ?_
    obtain ⟨g121, e⟩ := gd_some e
    obtain ⟨h122, r123, eh122, e⟩ := bn_some e
    refine eb_cg (p := hT h119 r120 = 14) rfl g121 (f_SB_append_s_ev d (Nat.le_trans (by decide) hd) eh122) ?_
    show Eb _ 32 (257, [.ref a0, .ref a1, .int x2, .int x4, .ref r19, .ref r34], [.ref r123], h122) _ _
    refine eb_n 2 (260, [.ref a0, .ref a1, .int x2, .int x4, .ref r19, .ref r34], [.int (nI 30), .int x4, .ref r123], h122) (rfl) ?_
    refine eb_g (p := ¬ (nI 30) = 0) (261, [.ref a0, .ref a1, .int x2, .int x4, .ref r19, .ref r34], [.int (x4 - x4 / (nI 30) * (nI 30)), .ref r123], h122) rfl (by decide) ?_
    obtain ⟨g124, e⟩ := gd_some e
    obtain ⟨h125, r126, eh125, e⟩ := bn_some e
    refine eb_cg (p := hT h122 r123 = 14) rfl g124 (f_SB_append_I_ev d (Nat.le_trans (by decide) hd) eh125) ?_
    show Eb _ 32 (264, [.ref a0, .ref a1, .int x2, .int x4, .ref r19, .ref r34], [.ref r126], h125) _ _
    refine eb_n 1 (266, [.ref a0, .ref a1, .int x2, .int x4, .ref r19, .ref r34], [.ref 96, .ref r126], h125) (rfl) ?_
    obtain ⟨g127, e⟩ := gd_some e
    obtain ⟨h128, r129, eh128, e⟩ := bn_some e
    refine eb_cg (p := hT h125 r126 = 14) rfl g127 (f_SB_append_s_ev d (Nat.le_trans (by decide) hd) eh128) ?_
    show Eb _ 32 (269, [.ref a0, .ref a1, .int x2, .int x4, .ref r19, .ref r34], [.ref r129], h128) _ _
    refine eb_n 3 (274, [.ref a0, .ref a1, .int x2, .int x4, .ref r19, .ref r34], [.int (nI 4), .int x2, .ref 2, .ref r129], h128) (rfl) ?_
    refine eb_g (p := ¬ (nI 4) = 0) (275, [.ref a0, .ref a1, .int x2, .int x4, .ref r19, .ref r34], [.int (x2 - x2 / (nI 4) * (nI 4)), .ref 2, .ref r129], h128) rfl (by decide) ?_
    obtain ⟨g130, e⟩ := gd_some e
    refine eb_g (p := hT h128 2 = 111 ∧ inb (x2 - x2 / (nI 4) * (nI 4)) (hL h128 2)) (276, [.ref a0, .ref a1, .int x2, .int x4, .ref r19, .ref r34], [.ref (hR h128 2 (ix (x2 - x2 / (nI 4) * (nI 4)))), .ref r129], h128) rfl g130 ?_
    obtain ⟨g131, e⟩ := gd_some e
    obtain ⟨h132, r133, eh132, e⟩ := bn_some e
    refine eb_cg (p := hT h128 r129 = 14) rfl g131 (f_SB_append_s_ev d (Nat.le_trans (by decide) hd) eh132) ?_
    show Eb _ 32 (279, [.ref a0, .ref a1, .int x2, .int x4, .ref r19, .ref r34], [.ref r133], h132) _ _
    refine eb_n 1 (281, [.ref a0, .ref a1, .int x2, .int x4, .ref r19, .ref r34], [.ref 98, .ref r133], h132) (rfl) ?_
    obtain ⟨g134, e⟩ := gd_some e
    obtain ⟨h135, r136, eh135, e⟩ := bn_some e
    refine eb_cg (p := hT h132 r133 = 14) rfl g134 (f_SB_append_s_ev d (Nat.le_trans (by decide) hd) eh135) ?_
    show Eb _ 32 (284, [.ref a0, .ref a1, .int x2, .int x4, .ref r19, .ref r34], [.ref r136], h135) _ _
    refine eb_n 2 (287, [.ref a0, .ref a1, .int x2, .int x4, .ref r19, .ref r34], [.int (nI 9), .int x4, .ref r136], h135) (rfl) ?_
    refine eb_g (p := ¬ (nI 9) = 0) (288, [.ref a0, .ref a1, .int x2, .int x4, .ref r19, .ref r34], [.int (x4 - x4 / (nI 9) * (nI 9)), .ref r136], h135) rfl (by decide) ?_
    obtain ⟨g137, e⟩ := gd_some e
    obtain ⟨h138, r139, eh138, e⟩ := bn_some e
    refine eb_cg (p := hT h135 r136 = 14) rfl g137 (f_SB_append_I_ev d (Nat.le_trans (by decide) hd) eh138) ?_
    show Eb _ 32 (291, [.ref a0, .ref a1, .int x2, .int x4, .ref r19, .ref r34], [.ref r139], h138) _ _
    obtain ⟨g140, e⟩ := gd_some e
    obtain ⟨h141, r142, eh141, e⟩ := bn_some e
    refine eb_cg (p := hT h138 r139 = 14) rfl g140 (f_SB_toString_ev d (Nat.le_trans (by decide) hd) eh141) ?_
    show Eb _ 32 (294, [.ref a0, .ref a1, .int x2, .int x4, .ref r19, .ref r34], [.ref r142], h141) _ _
    rw [(sp_inj e).1, (sp_inj e).2]
    exact eb_r rfl
  replace e := ite_f c108 e
  by_cases c143 : x36 = nI 6
  · replace e := ite_t c143 e
    refine eb_n 1 (295, [.ref a0, .ref a1, .int x2, .int x4, .ref r19, .ref r34], [], h33) (by rw [c143]; rfl) ?_
    obtain ⟨h144, eh144, e⟩ := lq_some e
    refine eb_n 1 (298, [.ref a0, .ref a1, .int x2, .int x4, .ref r19, .ref r34], [.ref (hN h33)], h144) (by rw [eh144]; rfl) ?_
    refine eb_n 1 (299, [.ref a0, .ref a1, .int x2, .int x4, .ref r19, .ref r34], [.ref (hN h33), .ref (hN h33)], h144) (rfl) ?_
    obtain ⟨g145, e⟩ := gd_some e
    obtain ⟨h146, eh146, e⟩ := bv_some e
    refine eb_cg (p := hT h144 (hN h33) = 14) rfl g145 (f_SB_init_ev d (Nat.le_trans (by decide) hd) eh146) ?_
    show Eb _ 32 (302, [.ref a0, .ref a1, .int x2, .int x4, .ref r19, .ref r34], [.ref (hN h33)], h146) _ _
    refine eb_n 1 (304, [.ref a0, .ref a1, .int x2, .int x4, .ref r19, .ref r34], [.ref 100, .ref (hN h33)], h146) (rfl) ?_
    obtain ⟨g147, e⟩ := gd_some e
    obtain ⟨h148, r149, eh148, e⟩ := bn_some e
    refine eb_cg (p := hT h146 (hN h33) = 14) rfl g147 (f_SB_append_s_ev d (Nat.le_trans (by decide) hd) eh148) ?_
    show Eb _ 32 (307, [.ref a0, .ref a1, .int x2, .int x4, .ref r19, .ref r34], [.ref r149], h148) _ _
    refine eb_n 2 (309, [.ref a0, .ref a1, .int x2, .int x4, .ref r19, .ref r34], [.ref a0, .int x2, .ref r149], h148) (rfl) ?_
    obtain ⟨g150, e⟩ := gd_some e
    refine eb_g (p := hT h148 a0 = 13) (312, [.ref a0, .ref a1, .int x2, .int x4, .ref r19, .ref r34], [.ref (hR h148 a0 12), .int x2, .ref r149], h148) rfl g150 ?_
    obtain ⟨g151, e⟩ := gd_some e
    refine eb_g (p := hT h148 (hR h148 a0 12) = 109) (313, [.ref a0, .ref a1, .int x2, .int x4, .ref r19, .ref r34], [.int (nI (hL h148 (hR h148 a0 12))), .int x2, .ref r149], h148) rfl g151 ?_
    obtain ⟨g152, e⟩ := gd_some e
    refine eb_g (p := ¬ (nI (hL h148 (hR h148 a0 12))) = 0) (314, [.ref a0, .ref a1, .int x2, .int x4, .ref r19, .ref r34], [.int (x2 - x2 / (nI (hL h148 (hR h148 a0 12))) * (nI (hL h148 (hR h148 a0 12)))), .ref r149], h148) rfl g152 ?_
    obtain ⟨g153, e⟩ := gd_some e
    obtain ⟨h154, r155, eh154, e⟩ := bn_some e
    refine eb_cg (p := hT h148 r149 = 14) rfl g153 (f_SB_append_I_ev d (Nat.le_trans (by decide) hd) eh154) ?_
    show Eb _ 32 (317, [.ref a0, .ref a1, .int x2, .int x4, .ref r19, .ref r34], [.ref r155], h154) _ _
    refine eb_n 1 (319, [.ref a0, .ref a1, .int x2, .int x4, .ref r19, .ref r34], [.ref 98, .ref r155], h154) (rfl) ?_
    obtain ⟨g156, e⟩ := gd_some e
    obtain ⟨h157, r158, eh157, e⟩ := bn_some e
    refine eb_cg (p := hT h154 r155 = 14) rfl g156 (f_SB_append_s_ev d (Nat.le_trans (by decide) hd) eh157) ?_
    show Eb _ 32 (322, [.ref a0, .ref a1, .int x2, .int x4, .ref r19, .ref r34], [.ref r158], h157) _ _
    refine eb_n 2 (325, [.ref a0, .ref a1, .int x2, .int x4, .ref r19, .ref r34], [.int (nI 60), .int x4, .ref r158], h157) (rfl) ?_
    refine eb_g (p := ¬ (nI 60) = 0) (326, [.ref a0, .ref a1, .int x2, .int x4, .ref r19, .ref r34], [.int (x4 - x4 / (nI 60) * (nI 60)), .ref r158], h157) rfl (by decide) ?_
    obtain ⟨g159, e⟩ := gd_some e
    obtain ⟨h160, r161, eh160, e⟩ := bn_some e
    refine eb_cg (p := hT h157 r158 = 14) rfl g159 (f_SB_append_I_ev d (Nat.le_trans (by decide) hd) eh160) ?_
    show Eb _ 32 (329, [.ref a0, .ref a1, .int x2, .int x4, .ref r19, .ref r34], [.ref r161], h160) _ _
    refine eb_n 1 (331, [.ref a0, .ref a1, .int x2, .int x4, .ref r19, .ref r34], [.ref 102, .ref r161], h160) (rfl) ?_
    obtain ⟨g162, e⟩ := gd_some e
    obtain ⟨h163, r164, eh163, e⟩ := bn_some e
    refine eb_cg (p := hT h160 r161 = 14) rfl g162 (f_SB_append_s_ev d (Nat.le_trans (by decide) hd) eh163) ?_
    show Eb _ 32 (334, [.ref a0, .ref a1, .int x2, .int x4, .ref r19, .ref r34], [.ref r164], h163) _ _
    refine eb_n 3 (339, [.ref a0, .ref a1, .int x2, .int x4, .ref r19, .ref r34], [.int (nI 4), .int x2, .ref 2, .ref r164], h163) (rfl) ?_
    refine eb_g (p := ¬ (nI 4) = 0) (340, [.ref a0, .ref a1, .int x2, .int x4, .ref r19, .ref r34], [.int (x2 - x2 / (nI 4) * (nI 4)), .ref 2, .ref r164], h163) rfl (by decide) ?_
    obtain ⟨g165, e⟩ := gd_some e
    refine eb_g (p := hT h163 2 = 111 ∧ inb (x2 - x2 / (nI 4) * (nI 4)) (hL h163 2)) (341, [.ref a0, .ref a1, .int x2, .int x4, .ref r19, .ref r34], [.ref (hR h163 2 (ix (x2 - x2 / (nI 4) * (nI 4)))), .ref r164], h163) rfl g165 ?_
    obtain ⟨g166, e⟩ := gd_some e
    obtain ⟨h167, r168, eh167, e⟩ := bn_some e
    refine eb_cg (p := hT h163 r164 = 14) rfl g166 (f_SB_append_s_ev d (Nat.le_trans (by decide) hd) eh167) ?_
    show Eb _ 32 (344, [.ref a0, .ref a1, .int x2, .int x4, .ref r19, .ref r34], [.ref r168], h167) _ _
    refine eb_n 1 (346, [.ref a0, .ref a1, .int x2, .int x4, .ref r19, .ref r34], [.ref 104, .ref r168], h167) (rfl) ?_
    obtain ⟨g169, e⟩ := gd_some e
    obtain ⟨h170, r171, eh170, e⟩ := bn_some e
    refine eb_cg (p := hT h167 r168 = 14) rfl g169 (f_SB_append_s_ev d (Nat.le_trans (by decide) hd) eh170) ?_
    show Eb _ 32 (349, [.ref a0, .ref a1, .int x2, .int x4, .ref r19, .ref r34], [.ref r171], h170) _ _
    obtain ⟨g172, e⟩ := gd_some e
    obtain ⟨h173, r174, eh173, e⟩ := bn_some e
    refine eb_cg (p := hT h170 r171 = 14) rfl g172 (f_SB_toString_ev d (Nat.le_trans (by decide) hd) eh173) ?_
    show Eb _ 32 (352, [.ref a0, .ref a1, .int x2, .int x4, .ref r19, .ref r34], [.ref r174], h173) _ _
    rw [(sp_inj e).1, (sp_inj e).2]
    exact eb_r rfl
  replace e := ite_f c143 e
  by_cases c175 : x36 = nI 7
  · replace e := ite_t c175 e
    refine eb_n 1 (353, [.ref a0, .ref a1, .int x2, .int x4, .ref r19, .ref r34], [], h33) (by rw [c175]; rfl) ?_
    obtain ⟨h176, eh176, e⟩ := lq_some e
    refine eb_n 1 (356, [.ref a0, .ref a1, .int x2, .int x4, .ref r19, .ref r34], [.ref (hN h33)], h176) (by rw [eh176]; rfl) ?_
    refine eb_n 1 (357, [.ref a0, .ref a1, .int x2, .int x4, .ref r19, .ref r34], [.ref (hN h33), .ref (hN h33)], h176) (rfl) ?_
    obtain ⟨g177, e⟩ := gd_some e
    obtain ⟨h178, eh178, e⟩ := bv_some e
    refine eb_cg (p := hT h176 (hN h33) = 14) rfl g177 (f_SB_init_ev d (Nat.le_trans (by decide) hd) eh178) ?_
    show Eb _ 32 (360, [.ref a0, .ref a1, .int x2, .int x4, .ref r19, .ref r34], [.ref (hN h33)], h178) _ _
    refine eb_n 1 (362, [.ref a0, .ref a1, .int x2, .int x4, .ref r19, .ref r34], [.ref 106, .ref (hN h33)], h178) (rfl) ?_
    obtain ⟨g179, e⟩ := gd_some e
    obtain ⟨h180, r181, eh180, e⟩ := bn_some e
    refine eb_cg (p := hT h178 (hN h33) = 14) rfl g179 (f_SB_append_s_ev d (Nat.le_trans (by decide) hd) eh180) ?_
    show Eb _ 32 (365, [.ref a0, .ref a1, .int x2, .int x4, .ref r19, .ref r34], [.ref r181], h180) _ _
    refine eb_n 1 (367, [.ref a0, .ref a1, .int x2, .int x4, .ref r19, .ref r34], [.ref r34, .ref r181], h180) (rfl) ?_
    obtain ⟨g182, e⟩ := gd_some e
    obtain ⟨h183, r184, eh183, e⟩ := bn_some e
    refine eb_cg (p := hT h180 r181 = 14) rfl g182 (f_SB_append_s_ev d (Nat.le_trans (by decide) hd) eh183) ?_
    show Eb _ 32 (370, [.ref a0, .ref a1, .int x2, .int x4, .ref r19, .ref r34], [.ref r184], h183) _ _
    refine eb_n 1 (372, [.ref a0, .ref a1, .int x2, .int x4, .ref r19, .ref r34], [.ref 108, .ref r184], h183) (rfl) ?_
    obtain ⟨g185, e⟩ := gd_some e
    obtain ⟨h186, r187, eh186, e⟩ := bn_some e
    refine eb_cg (p := hT h183 r184 = 14) rfl g185 (f_SB_append_s_ev d (Nat.le_trans (by decide) hd) eh186) ?_
    show Eb _ 32 (375, [.ref a0, .ref a1, .int x2, .int x4, .ref r19, .ref r34], [.ref r187], h186) _ _
    refine eb_n 2 (378, [.ref a0, .ref a1, .int x2, .int x4, .ref r19, .ref r34], [.int (nI 20), .int x4, .ref r187], h186) (rfl) ?_
    refine eb_g (p := ¬ (nI 20) = 0) (379, [.ref a0, .ref a1, .int x2, .int x4, .ref r19, .ref r34], [.int (x4 - x4 / (nI 20) * (nI 20)), .ref r187], h186) rfl (by decide) ?_
    obtain ⟨g188, e⟩ := gd_some e
    obtain ⟨h189, r190, eh189, e⟩ := bn_some e
    refine eb_cg (p := hT h186 r187 = 14) rfl g188 (f_SB_append_I_ev d (Nat.le_trans (by decide) hd) eh189) ?_
    show Eb _ 32 (382, [.ref a0, .ref a1, .int x2, .int x4, .ref r19, .ref r34], [.ref r190], h189) _ _
    obtain ⟨g191, e⟩ := gd_some e
    obtain ⟨h192, r193, eh192, e⟩ := bn_some e
    refine eb_cg (p := hT h189 r190 = 14) rfl g191 (f_SB_toString_ev d (Nat.le_trans (by decide) hd) eh192) ?_
    show Eb _ 32 (385, [.ref a0, .ref a1, .int x2, .int x4, .ref r19, .ref r34], [.ref r193], h192) _ _
    rw [(sp_inj e).1, (sp_inj e).2]
    exact eb_r rfl
  replace e := ite_f c175 e
  refine eb_1 (f' := (386, [.ref a0, .ref a1, .int x2, .int x4, .ref r19, .ref r34], [], h33)) (tsw_d (tsw_out (x := x36) (lo := 0) (n := 8) (by decide) (by decide) (fun k hk => match k, hk with | 0, _ => c37 | 1, _ => c50 | 2, _ => c69 | 3, _ => c82 | 4, _ => c95 | 5, _ => c108 | 6, _ => c143 | 7, _ => c175 | k + 8, hk => absurd hk (by omega))) rfl rfl) ?_
  refine eb_n 1 (388, [.ref a0, .ref a1, .int x2, .int x4, .ref r19, .ref r34], [.ref 110], h33) (rfl) ?_
  rw [(sp_inj e).1, (sp_inj e).2]
  exact eb_r rfl
set_option maxRecDepth 100000 in
set_option maxHeartbeats 4000000 in
theorem f_Sim_text_b621_ev {h' : AH} {r : Nat} (d : Nat) (hd : 7 ≤ d) (k477 : AH → Nat → Nat → Nat → Int32 → Int32 → Option (AH × Nat)) (hk477 : ∀ (h : AH) (a0 : Nat) (a1 : Nat) (a3 : Nat) (a4 : Int32) (a5 : Int32)  (d2 : Value) (d6 : Value), k477 h a0 a1 a3 a4 a5 = some (h', r) → Eb (Ev tb mL d) 3 (477, [.ref a0, .ref a1, d2, .ref a3, .int a4, .int a5, d6], [], h) h' (some (.ref r)))  (h : AH) (a0 : Nat) (a1 : Nat) (a3 : Nat) (a4 : Int32) (a5 : Int32)  (d2 : Value) (d6 : Value) (e : f_Sim_text_b621 k477 h a0 a1 a3 a4 a5 = some (h', r)) : Eb (Ev tb mL d) 3 (621, [.ref a0, .ref a1, d2, .ref a3, .int a4, .int a5, d6], [], h) h' (some (.ref r)) := by
  unfold f_Sim_text_b621 at e
  refine eb_n 2 (625, [.ref a0, .ref a1, d2, .ref a3, .int a4, .int a5, d6], [.ref 60, .ref a1], h) (rfl) ?_
  obtain ⟨g1, e⟩ := gd_some e
  obtain ⟨h2, r3, eh2, e⟩ := bn_some e
  refine eb_cg (p := hT h a1 = 14) rfl g1 (f_SB_append_s_ev d (Nat.le_trans (by decide) hd) eh2) ?_
  show Eb _ 3 (628, [.ref a0, .ref a1, d2, .ref a3, .int a4, .int a5, d6], [.ref r3], h2) _ _
  obtain ⟨x4, hx4, e⟩ := lq_some e
  refine eb_n 2 (632, [.ref a0, .ref a1, d2, .ref a3, .int a4, .int x4, d6], [], h2) (by subst hx4; rfl) ?_
  refine eb_n 1 (477, [.ref a0, .ref a1, d2, .ref a3, .int a4, .int x4, d6], [], h2) (rfl) ?_
  exact hk477 _ _ _ _ _ _ _ _ e
set_option maxRecDepth 100000 in
set_option maxHeartbeats 4000000 in
theorem f_Sim_text_b604_ev {h' : AH} {r : Nat} (d : Nat) (hd : 7 ≤ d) (k477 : AH → Nat → Nat → Nat → Int32 → Int32 → Option (AH × Nat)) (hk477 : ∀ (h : AH) (a0 : Nat) (a1 : Nat) (a3 : Nat) (a4 : Int32) (a5 : Int32)  (d2 : Value) (d6 : Value), k477 h a0 a1 a3 a4 a5 = some (h', r) → Eb (Ev tb mL d) 3 (477, [.ref a0, .ref a1, d2, .ref a3, .int a4, .int a5, d6], [], h) h' (some (.ref r)))  (h : AH) (a0 : Nat) (a1 : Nat) (a3 : Nat) (a4 : Int32) (a5 : Int32) (a6 : Nat)  (d2 : Value) (e : f_Sim_text_b604 k477 h a0 a1 a3 a4 a5 a6 = some (h', r)) : Eb (Ev tb mL d) 3 (604, [.ref a0, .ref a1, d2, .ref a3, .int a4, .int a5, .ref a6], [], h) h' (some (.ref r)) := by
  unfold f_Sim_text_b604 at e
  refine eb_n 2 (608, [.ref a0, .ref a1, d2, .ref a3, .int a4, .int a5, .ref a6], [.ref 58, .ref a1], h) (rfl) ?_
  obtain ⟨g1, e⟩ := gd_some e
  obtain ⟨h2, r3, eh2, e⟩ := bn_some e
  refine eb_cg (p := hT h a1 = 14) rfl g1 (f_SB_append_s_ev d (Nat.le_trans (by decide) hd) eh2) ?_
  show Eb _ 3 (611, [.ref a0, .ref a1, d2, .ref a3, .int a4, .int a5, .ref a6], [.ref r3], h2) _ _
  refine eb_n 2 (614, [.ref a0, .ref a1, d2, .ref a3, .int a4, .int a5, .ref a6], [.ref a6, .ref a0, .ref r3], h2) (rfl) ?_
  obtain ⟨g4, e⟩ := gd_some e
  obtain ⟨h5, r6, eh5, e⟩ := bn_some e
  refine eb_cg (p := hT h2 a0 = 13) rfl g4 (f_Sim_test_ev d (Nat.le_trans (by decide) hd) eh5) ?_
  show Eb _ 3 (617, [.ref a0, .ref a1, d2, .ref a3, .int a4, .int a5, .ref a6], [.ref r6, .ref r3], h5) _ _
  obtain ⟨g7, e⟩ := gd_some e
  obtain ⟨h8, r9, eh8, e⟩ := bn_some e
  refine eb_cg (p := hT h5 r3 = 14) rfl g7 (f_SB_append_s_ev d (Nat.le_trans (by decide) hd) eh8) ?_
  show Eb _ 3 (620, [.ref a0, .ref a1, d2, .ref a3, .int a4, .int a5, .ref a6], [.ref r9], h8) _ _
  refine eb_n 1 (621, [.ref a0, .ref a1, d2, .ref a3, .int a4, .int a5, .ref a6], [], h8) (rfl) ?_
  exact f_Sim_text_b621_ev d hd k477 hk477 _ _ _ _ _ _ _ _ e
set_option maxRecDepth 100000 in
set_option maxHeartbeats 4000000 in
theorem f_Sim_text_b587_ev {h' : AH} {r : Nat} (d : Nat) (hd : 7 ≤ d) (k477 : AH → Nat → Nat → Nat → Int32 → Int32 → Option (AH × Nat)) (hk477 : ∀ (h : AH) (a0 : Nat) (a1 : Nat) (a3 : Nat) (a4 : Int32) (a5 : Int32)  (d2 : Value) (d6 : Value), k477 h a0 a1 a3 a4 a5 = some (h', r) → Eb (Ev tb mL d) 3 (477, [.ref a0, .ref a1, d2, .ref a3, .int a4, .int a5, d6], [], h) h' (some (.ref r)))  (h : AH) (a0 : Nat) (a1 : Nat) (a3 : Nat) (a4 : Int32) (a5 : Int32) (a6 : Nat)  (d2 : Value) (e : f_Sim_text_b587 k477 h a0 a1 a3 a4 a5 a6 = some (h', r)) : Eb (Ev tb mL d) 3 (587, [.ref a0, .ref a1, d2, .ref a3, .int a4, .int a5, .ref a6], [], h) h' (some (.ref r)) := by
  unfold f_Sim_text_b587 at e
  refine eb_n 2 (590, [.ref a0, .ref a1, d2, .ref a3, .int a4, .int a5, .ref a6], [.int (nI 0), .ref a6], h) (rfl) ?_
  obtain ⟨g1, e⟩ := gd_some e
  refine eb_g (p := hT h a6 = 101 ∧ inb (nI 0) (hL h a6)) (591, [.ref a0, .ref a1, d2, .ref a3, .int a4, .int a5, .ref a6], [.int (hI h a6 (ix (nI 0)))], h) rfl g1 ?_
  refine eb_n 1 (592, [.ref a0, .ref a1, d2, .ref a3, .int a4, .int a5, .ref a6], [.int (nI 1), .int (hI h a6 (ix (nI 0)))], h) (rfl) ?_
  refine eb_b (c := ¬ (hI h a6 (ix (nI 0))) = (nI 1)) (604, [.ref a0, .ref a1, d2, .ref a3, .int a4, .int a5, .ref a6], [], h) (595, [.ref a0, .ref a1, d2, .ref a3, .int a4, .int a5, .ref a6], [], h) rfl (fun c2 => ?_) (fun c2 => ?_)
  · replace e := ite_t c2 e
    exact f_Sim_text_b604_ev d hd k477 hk477 _ _ _ _ _ _ _ _ e
  · replace e := ite_f c2 e
    refine eb_n 2 (598, [.ref a0, .ref a1, d2, .ref a3, .int a4, .int a5, .ref a6], [.int (nI 5), .ref a6], h) (rfl) ?_
    obtain ⟨g3, e⟩ := gd_some e
    refine eb_g (p := hT h a6 = 101 ∧ inb (nI 5) (hL h a6)) (599, [.ref a0, .ref a1, d2, .ref a3, .int a4, .int a5, .ref a6], [.int (hI h a6 (ix (nI 5)))], h) rfl g3 ?_
    refine eb_n 1 (601, [.ref a0, .ref a1, d2, .ref a3, .int a4, .int a5, .ref a6], [.int (nI 8), .int (hI h a6 (ix (nI 5)))], h) (rfl) ?_
    refine eb_b (c := (nI 8) ≤ (hI h a6 (ix (nI 5)))) (621, [.ref a0, .ref a1, d2, .ref a3, .int a4, .int a5, .ref a6], [], h) (604, [.ref a0, .ref a1, d2, .ref a3, .int a4, .int a5, .ref a6], [], h) rfl (fun c4 => ?_) (fun c4 => ?_)
    · replace e := ite_t c4 e
      exact f_Sim_text_b621_ev d hd k477 hk477 _ _ _ _ _ _ _ _ e
    · replace e := ite_f c4 e
      exact f_Sim_text_b604_ev d hd k477 hk477 _ _ _ _ _ _ _ _ e
set_option maxRecDepth 100000 in
set_option maxHeartbeats 4000000 in
theorem f_Sim_text_b477_ev {h' : AH} {r : Nat} (d : Nat) (hd : 7 ≤ d) (k477 : AH → Nat → Nat → Nat → Int32 → Int32 → Option (AH × Nat)) (hk477 : ∀ (h : AH) (a0 : Nat) (a1 : Nat) (a3 : Nat) (a4 : Int32) (a5 : Int32)  (d2 : Value) (d6 : Value), k477 h a0 a1 a3 a4 a5 = some (h', r) → Eb (Ev tb mL d) 3 (477, [.ref a0, .ref a1, d2, .ref a3, .int a4, .int a5, d6], [], h) h' (some (.ref r)))  (h : AH) (a0 : Nat) (a1 : Nat) (a3 : Nat) (a4 : Int32) (a5 : Int32)  (d2 : Value) (d6 : Value) (e : f_Sim_text_b477 k477 h a0 a1 a3 a4 a5 = some (h', r)) : Eb (Ev tb mL d) 3 (477, [.ref a0, .ref a1, d2, .ref a3, .int a4, .int a5, d6], [], h) h' (some (.ref r)) := by
  unfold f_Sim_text_b477 at e
  refine eb_n 2 (481, [.ref a0, .ref a1, d2, .ref a3, .int a4, .int a5, d6], [.int a4, .int a5], h) (rfl) ?_
  refine eb_b (c := a4 ≤ a5) (635, [.ref a0, .ref a1, d2, .ref a3, .int a4, .int a5, d6], [], h) (484, [.ref a0, .ref a1, d2, .ref a3, .int a4, .int a5, d6], [], h) rfl (fun c1 => ?_) (fun c1 => ?_)
  · replace e := ite_t c1 e
    refine eb_n 1 (636, [.ref a0, .ref a1, d2, .ref a3, .int a4, .int a5, d6], [.ref a1], h) (rfl) ?_
    obtain ⟨g2, e⟩ := gd_some e
    obtain ⟨h3, r4, eh3, e⟩ := bn_some e
    refine eb_cg (p := hT h a1 = 14) rfl g2 (f_SB_toString_ev d (Nat.le_trans (by decide) hd) eh3) ?_
    show Eb _ 3 (639, [.ref a0, .ref a1, d2, .ref a3, .int a4, .int a5, d6], [.ref r4], h3) _ _
    rw [(sp_inj e).1, (sp_inj e).2]
    exact eb_r rfl
  · replace e := ite_f c1 e
    refine eb_n 2 (487, [.ref a0, .ref a1, d2, .ref a3, .int a4, .int a5, d6], [.int a5, .ref a3], h) (rfl) ?_
    obtain ⟨g5, e⟩ := gd_some e
    refine eb_g (p := hT h a3 = 109 ∧ inb a5 (hL h a3)) (488, [.ref a0, .ref a1, d2, .ref a3, .int a4, .int a5, d6], [.ref (hR h a3 (ix a5))], h) rfl g5 ?_
    obtain ⟨x6, hx6, e⟩ := lq_some e
    refine eb_n 1 (490, [.ref a0, .ref a1, d2, .ref a3, .int a4, .int a5, .ref x6], [], h) (by subst hx6; rfl) ?_
    refine eb_n 2 (493, [.ref a0, .ref a1, d2, .ref a3, .int a4, .int a5, .ref x6], [.int (nI 0), .ref x6], h) (rfl) ?_
    obtain ⟨g7, e⟩ := gd_some e
    refine eb_g (p := hT h x6 = 101 ∧ inb (nI 0) (hL h x6)) (494, [.ref a0, .ref a1, d2, .ref a3, .int a4, .int a5, .ref x6], [.int (hI h x6 (ix (nI 0)))], h) rfl g7 ?_
    refine eb_b (c := ¬ (hI h x6 (ix (nI 0))) = 0) (515, [.ref a0, .ref a1, d2, .ref a3, .int a4, .int a5, .ref x6], [], h) (497, [.ref a0, .ref a1, d2, .ref a3, .int a4, .int a5, .ref x6], [], h) rfl (fun c8 => ?_) (fun c8 => ?_)
    · replace e := ite_t c8 e
      refine eb_n 2 (518, [.ref a0, .ref a1, d2, .ref a3, .int a4, .int a5, .ref x6], [.int (nI 0), .ref x6], h) (rfl) ?_
      refine eb_g (p := hT h x6 = 101 ∧ inb (nI 0) (hL h x6)) (519, [.ref a0, .ref a1, d2, .ref a3, .int a4, .int a5, .ref x6], [.int (hI h x6 (ix (nI 0)))], h) rfl g7 ?_
      refine eb_n 1 (520, [.ref a0, .ref a1, d2, .ref a3, .int a4, .int a5, .ref x6], [.int (nI 1), .int (hI h x6 (ix (nI 0)))], h) (rfl) ?_
      refine eb_b (c := ¬ (hI h x6 (ix (nI 0))) = (nI 1)) (572, [.ref a0, .ref a1, d2, .ref a3, .int a4, .int a5, .ref x6], [], h) (523, [.ref a0, .ref a1, d2, .ref a3, .int a4, .int a5, .ref x6], [], h) rfl (fun c9 => ?_) (fun c9 => ?_)
      · replace e := ite_t c9 e
        refine eb_n 2 (576, [.ref a0, .ref a1, d2, .ref a3, .int a4, .int a5, .ref x6], [.ref 56, .ref a1], h) (rfl) ?_
        obtain ⟨g10, e⟩ := gd_some e
        obtain ⟨h11, r12, eh11, e⟩ := bn_some e
        refine eb_cg (p := hT h a1 = 14) rfl g10 (f_SB_append_s_ev d (Nat.le_trans (by decide) hd) eh11) ?_
        show Eb _ 3 (579, [.ref a0, .ref a1, d2, .ref a3, .int a4, .int a5, .ref x6], [.ref r12], h11) _ _
        refine eb_n 2 (582, [.ref a0, .ref a1, d2, .ref a3, .int a4, .int a5, .ref x6], [.int (nI 1), .ref x6, .ref r12], h11) (rfl) ?_
        obtain ⟨g13, e⟩ := gd_some e
        refine eb_g (p := hT h11 x6 = 101 ∧ inb (nI 1) (hL h11 x6)) (583, [.ref a0, .ref a1, d2, .ref a3, .int a4, .int a5, .ref x6], [.int (hI h11 x6 (ix (nI 1))), .ref r12], h11) rfl g13 ?_
        obtain ⟨g14, e⟩ := gd_some e
        obtain ⟨h15, r16, eh15, e⟩ := bn_some e
        refine eb_cg (p := hT h11 r12 = 14) rfl g14 (f_SB_append_I_ev d (Nat.le_trans (by decide) hd) eh15) ?_
        show Eb _ 3 (586, [.ref a0, .ref a1, d2, .ref a3, .int a4, .int a5, .ref x6], [.ref r16], h15) _ _
        refine eb_n 1 (587, [.ref a0, .ref a1, d2, .ref a3, .int a4, .int a5, .ref x6], [], h15) (rfl) ?_
        exact f_Sim_text_b587_ev d hd k477 hk477 _ _ _ _ _ _ _ _ e
      · replace e := ite_f c9 e
        refine eb_n 2 (527, [.ref a0, .ref a1, d2, .ref a3, .int a4, .int a5, .ref x6], [.ref 50, .ref a1], h) (rfl) ?_
        obtain ⟨g17, e⟩ := gd_some e
        obtain ⟨h18, r19, eh18, e⟩ := bn_some e
        refine eb_cg (p := hT h a1 = 14) rfl g17 (f_SB_append_s_ev d (Nat.le_trans (by decide) hd) eh18) ?_
        show Eb _ 3 (530, [.ref a0, .ref a1, d2, .ref a3, .int a4, .int a5, .ref x6], [.ref r19], h18) _ _
        refine eb_n 2 (533, [.ref a0, .ref a1, d2, .ref a3, .int a4, .int a5, .ref x6], [.int (nI 1), .ref x6, .ref r19], h18) (rfl) ?_
        obtain ⟨g20, e⟩ := gd_some e
        refine eb_g (p := hT h18 x6 = 101 ∧ inb (nI 1) (hL h18 x6)) (534, [.ref a0, .ref a1, d2, .ref a3, .int a4, .int a5, .ref x6], [.int (hI h18 x6 (ix (nI 1))), .ref r19], h18) rfl g20 ?_
        obtain ⟨g21, e⟩ := gd_some e
        obtain ⟨h22, r23, eh22, e⟩ := bn_some e
        refine eb_cg (p := hT h18 r19 = 14) rfl g21 (f_SB_append_I_ev d (Nat.le_trans (by decide) hd) eh22) ?_
        show Eb _ 3 (537, [.ref a0, .ref a1, d2, .ref a3, .int a4, .int a5, .ref x6], [.ref r23], h22) _ _
        refine eb_n 1 (540, [.ref a0, .ref a1, d2, .ref a3, .int a4, .int a5, .ref x6], [.ref 52, .ref r23], h22) (rfl) ?_
        obtain ⟨g24, e⟩ := gd_some e
        obtain ⟨h25, r26, eh25, e⟩ := bn_some e
        refine eb_cg (p := hT h22 r23 = 14) rfl g24 (f_SB_append_s_ev d (Nat.le_trans (by decide) hd) eh25) ?_
        show Eb _ 3 (543, [.ref a0, .ref a1, d2, .ref a3, .int a4, .int a5, .ref x6], [.ref r26], h25) _ _
        refine eb_n 1 (545, [.ref a0, .ref a1, d2, .ref a3, .int a4, .int a5, .ref x6], [.ref x6, .ref r26], h25) (rfl) ?_
        obtain ⟨h27, r28, eh27, e⟩ := bn_some e
        refine eb_c rfl (f_Sim_sumOf_ev d (Nat.le_trans (by decide) hd) eh27) ?_
        show Eb _ 3 (548, [.ref a0, .ref a1, d2, .ref a3, .int a4, .int a5, .ref x6], [.ref r28, .ref r26], h27) _ _
        obtain ⟨g29, e⟩ := gd_some e
        obtain ⟨h30, r31, eh30, e⟩ := bn_some e
        refine eb_cg (p := hT h27 r26 = 14) rfl g29 (f_SB_append_s_ev d (Nat.le_trans (by decide) hd) eh30) ?_
        show Eb _ 3 (551, [.ref a0, .ref a1, d2, .ref a3, .int a4, .int a5, .ref x6], [.ref r31], h30) _ _
        refine eb_n 1 (554, [.ref a0, .ref a1, d2, .ref a3, .int a4, .int a5, .ref x6], [.ref 54, .ref r31], h30) (rfl) ?_
        obtain ⟨g32, e⟩ := gd_some e
        obtain ⟨h33, r34, eh33, e⟩ := bn_some e
        refine eb_cg (p := hT h30 r31 = 14) rfl g32 (f_SB_append_s_ev d (Nat.le_trans (by decide) hd) eh33) ?_
        show Eb _ 3 (557, [.ref a0, .ref a1, d2, .ref a3, .int a4, .int a5, .ref x6], [.ref r34], h33) _ _
        refine eb_n 3 (563, [.ref a0, .ref a1, d2, .ref a3, .int a4, .int a5, .ref x6], [.int (nI 2), .ref x6, .ref 2, .ref r34], h33) (rfl) ?_
        obtain ⟨g35, e⟩ := gd_some e
        refine eb_g (p := hT h33 x6 = 101 ∧ inb (nI 2) (hL h33 x6)) (564, [.ref a0, .ref a1, d2, .ref a3, .int a4, .int a5, .ref x6], [.int (hI h33 x6 (ix (nI 2))), .ref 2, .ref r34], h33) rfl g35 ?_
        obtain ⟨g36, e⟩ := gd_some e
        refine eb_g (p := hT h33 2 = 111 ∧ inb (hI h33 x6 (ix (nI 2))) (hL h33 2)) (565, [.ref a0, .ref a1, d2, .ref a3, .int a4, .int a5, .ref x6], [.ref (hR h33 2 (ix (hI h33 x6 (ix (nI 2))))), .ref r34], h33) rfl g36 ?_
        obtain ⟨g37, e⟩ := gd_some e
        obtain ⟨h38, r39, eh38, e⟩ := bn_some e
        refine eb_cg (p := hT h33 r34 = 14) rfl g37 (f_SB_append_s_ev d (Nat.le_trans (by decide) hd) eh38) ?_
        show Eb _ 3 (568, [.ref a0, .ref a1, d2, .ref a3, .int a4, .int a5, .ref x6], [.ref r39], h38) _ _
        refine eb_n 2 (587, [.ref a0, .ref a1, d2, .ref a3, .int a4, .int a5, .ref x6], [], h38) (rfl) ?_
        exact f_Sim_text_b587_ev d hd k477 hk477 _ _ _ _ _ _ _ _ e
    · replace e := ite_f c8 e
      refine eb_n 2 (501, [.ref a0, .ref a1, d2, .ref a3, .int a4, .int a5, .ref x6], [.ref 48, .ref a1], h) (rfl) ?_
      obtain ⟨g40, e⟩ := gd_some e
      obtain ⟨h41, r42, eh41, e⟩ := bn_some e
      refine eb_cg (p := hT h a1 = 14) rfl g40 (f_SB_append_s_ev d (Nat.le_trans (by decide) hd) eh41) ?_
      show Eb _ 3 (504, [.ref a0, .ref a1, d2, .ref a3, .int a4, .int a5, .ref x6], [.ref r42], h41) _ _
      refine eb_n 2 (507, [.ref a0, .ref a1, d2, .ref a3, .int a4, .int a5, .ref x6], [.int (nI 1), .ref x6, .ref r42], h41) (rfl) ?_
      obtain ⟨g43, e⟩ := gd_some e
      refine eb_g (p := hT h41 x6 = 101 ∧ inb (nI 1) (hL h41 x6)) (508, [.ref a0, .ref a1, d2, .ref a3, .int a4, .int a5, .ref x6], [.int (hI h41 x6 (ix (nI 1))), .ref r42], h41) rfl g43 ?_
      obtain ⟨g44, e⟩ := gd_some e
      obtain ⟨h45, r46, eh45, e⟩ := bn_some e
      refine eb_cg (p := hT h41 r42 = 14) rfl g44 (f_SB_append_I_ev d (Nat.le_trans (by decide) hd) eh45) ?_
      show Eb _ 3 (511, [.ref a0, .ref a1, d2, .ref a3, .int a4, .int a5, .ref x6], [.ref r46], h45) _ _
      refine eb_n 2 (587, [.ref a0, .ref a1, d2, .ref a3, .int a4, .int a5, .ref x6], [], h45) (rfl) ?_
      exact f_Sim_text_b587_ev d hd k477 hk477 _ _ _ _ _ _ _ _ e
set_option maxRecDepth 100000 in
set_option maxHeartbeats 4000000 in
theorem f_Sim_text_l477_ev {h' : AH} {r : Nat} (d : Nat) (hd : 7 ≤ d)  : ∀ (n : Nat) (h : AH) (a0 : Nat) (a1 : Nat) (a3 : Nat) (a4 : Int32) (a5 : Int32)  (d2 : Value) (d6 : Value) (_ : f_Sim_text_l477  n h a0 a1 a3 a4 a5 = some (h', r)), Eb (Ev tb mL d) 3 (477, [.ref a0, .ref a1, d2, .ref a3, .int a4, .int a5, d6], [], h) h' (some (.ref r)) := by
  intro n
  induction n with
  | zero => intro h a0 a1 a3 a4 a5 d2 d6 e; exact nomatch e
  | succ n ih =>
    intro h a0 a1 a3 a4 a5 d2 d6 e
    exact f_Sim_text_b477_ev d hd _ (fun h a0 a1 a3 a4 a5 d2 d6 e => ih h a0 a1 a3 a4 a5 d2 d6 e) h a0 a1 a3 a4 a5 d2 d6 e
set_option maxRecDepth 100000 in
set_option maxHeartbeats 4000000 in
theorem f_Sim_text_b459_ev {h' : AH} {r : Nat} (d : Nat) (hd : 7 ≤ d) (k408 : AH → Nat → Nat → Nat → Int32 → Option (AH × Nat)) (hk408 : ∀ (h : AH) (a0 : Nat) (a1 : Nat) (a2 : Nat) (a3 : Int32)  (d4 : Value) (d5 : Value) (d6 : Value), k408 h a0 a1 a2 a3 = some (h', r) → Eb (Ev tb mL d) 3 (408, [.ref a0, .ref a1, .ref a2, .int a3, d4, d5, d6], [], h) h' (some (.ref r)))  (h : AH) (a0 : Nat) (a1 : Nat) (a2 : Nat) (a3 : Int32)  (d4 : Value) (d5 : Value) (d6 : Value) (e : f_Sim_text_b459 k408 h a0 a1 a2 a3 = some (h', r)) : Eb (Ev tb mL d) 3 (459, [.ref a0, .ref a1, .ref a2, .int a3, d4, d5, d6], [], h) h' (some (.ref r)) := by
  unfold f_Sim_text_b459 at e
  obtain ⟨x1, hx1, e⟩ := lq_some e
  refine eb_n 1 (462, [.ref a0, .ref a1, .ref a2, .int x1, d4, d5, d6], [], h) (by subst hx1; rfl) ?_
  refine eb_n 1 (408, [.ref a0, .ref a1, .ref a2, .int x1, d4, d5, d6], [], h) (rfl) ?_
  exact hk408 _ _ _ _ _ _ _ _ e
set_option maxRecDepth 100000 in
set_option maxHeartbeats 4000000 in
theorem f_Sim_text_b408_ev {h' : AH} {r : Nat} (d : Nat) (hd : 7 ≤ d) (k408 : AH → Nat → Nat → Nat → Int32 → Option (AH × Nat)) (hk408 : ∀ (h : AH) (a0 : Nat) (a1 : Nat) (a2 : Nat) (a3 : Int32)  (d4 : Value) (d5 : Value) (d6 : Value), k408 h a0 a1 a2 a3 = some (h', r) → Eb (Ev tb mL d) 3 (408, [.ref a0, .ref a1, .ref a2, .int a3, d4, d5, d6], [], h) h' (some (.ref r)))  (h : AH) (a0 : Nat) (a1 : Nat) (a2 : Nat) (a3 : Int32)  (d4 : Value) (d5 : Value) (d6 : Value) (e : f_Sim_text_b408 k408 h a0 a1 a2 a3 = some (h', r)) : Eb (Ev tb mL d) 3 (408, [.ref a0, .ref a1, .ref a2, .int a3, d4, d5, d6], [], h) h' (some (.ref r)) := by
  unfold f_Sim_text_b408 at e
  refine eb_n 2 (410, [.ref a0, .ref a1, .ref a2, .int a3, d4, d5, d6], [.int (nI 4), .int a3], h) (rfl) ?_
  refine eb_b (c := (nI 4) ≤ a3) (465, [.ref a0, .ref a1, .ref a2, .int a3, d4, d5, d6], [], h) (413, [.ref a0, .ref a1, .ref a2, .int a3, d4, d5, d6], [], h) rfl (fun c1 => ?_) (fun c1 => ?_)
  · replace e := ite_t c1 e
    refine eb_n 1 (466, [.ref a0, .ref a1, .ref a2, .int a3, d4, d5, d6], [.ref a0], h) (rfl) ?_
    obtain ⟨g2, e⟩ := gd_some e
    refine eb_g (p := hT h a0 = 13) (469, [.ref a0, .ref a1, .ref a2, .int a3, d4, d5, d6], [.ref (hR h a0 17)], h) rfl g2 ?_
    obtain ⟨x3, hx3, e⟩ := lq_some e
    refine eb_n 1 (470, [.ref a0, .ref a1, .ref a2, .ref x3, d4, d5, d6], [], h) (by subst hx3; rfl) ?_
    refine eb_n 1 (471, [.ref a0, .ref a1, .ref a2, .ref x3, d4, d5, d6], [.ref x3], h) (rfl) ?_
    obtain ⟨g4, e⟩ := gd_some e
    refine eb_g (p := hT h x3 = 109) (472, [.ref a0, .ref a1, .ref a2, .ref x3, d4, d5, d6], [.int (nI (hL h x3))], h) rfl g4 ?_
    obtain ⟨x5, hx5, e⟩ := lq_some e
    refine eb_n 1 (474, [.ref a0, .ref a1, .ref a2, .ref x3, .int x5, d5, d6], [], h) (by subst hx5; rfl) ?_
    refine eb_n 2 (477, [.ref a0, .ref a1, .ref a2, .ref x3, .int x5, .int (nI 0), d6], [], h) (rfl) ?_
    exact f_Sim_text_l477_ev d hd   FU _ _ _ _ _ _ _ _ e
  · replace e := ite_f c1 e
    refine eb_n 1 (414, [.ref a0, .ref a1, .ref a2, .int a3, d4, d5, d6], [.ref a0], h) (rfl) ?_
    obtain ⟨g6, e⟩ := gd_some e
    refine eb_g (p := hT h a0 = 13) (417, [.ref a0, .ref a1, .ref a2, .int a3, d4, d5, d6], [.ref (hR h a0 8)], h) rfl g6 ?_
    refine eb_n 1 (418, [.ref a0, .ref a1, .ref a2, .int a3, d4, d5, d6], [.int a3, .ref (hR h a0 8)], h) (rfl) ?_
    obtain ⟨g7, e⟩ := gd_some e
    refine eb_g (p := hT h (hR h a0 8) = 101 ∧ inb a3 (hL h (hR h a0 8))) (419, [.ref a0, .ref a1, .ref a2, .int a3, d4, d5, d6], [.int (hI h (hR h a0 8) (ix a3))], h) rfl g7 ?_
    refine eb_n 2 (421, [.ref a0, .ref a1, .ref a2, .int a3, d4, d5, d6], [.int a3, .ref a2, .int (hI h (hR h a0 8) (ix a3))], h) (rfl) ?_
    obtain ⟨g8, e⟩ := gd_some e
    refine eb_g (p := hT h a2 = 101 ∧ inb a3 (hL h a2)) (422, [.ref a0, .ref a1, .ref a2, .int a3, d4, d5, d6], [.int (hI h a2 (ix a3)), .int (hI h (hR h a0 8) (ix a3))], h) rfl g8 ?_
    refine eb_b (c := (hI h (hR h a0 8) (ix a3)) = (hI h a2 (ix a3))) (459, [.ref a0, .ref a1, .ref a2, .int a3, d4, d5, d6], [], h) (425, [.ref a0, .ref a1, .ref a2, .int a3, d4, d5, d6], [], h) rfl (fun c9 => ?_) (fun c9 => ?_)
    · replace e := ite_t c9 e
      exact f_Sim_text_b459_ev d hd k408 hk408 _ _ _ _ _ _ _ _ e
    · replace e := ite_f c9 e
      refine eb_n 2 (428, [.ref a0, .ref a1, .ref a2, .int a3, d4, d5, d6], [.ref 46, .ref a1], h) (rfl) ?_
      obtain ⟨g10, e⟩ := gd_some e
      obtain ⟨h11, r12, eh11, e⟩ := bn_some e
      refine eb_cg (p := hT h a1 = 14) rfl g10 (f_SB_append_s_ev d (Nat.le_trans (by decide) hd) eh11) ?_
      show Eb _ 3 (431, [.ref a0, .ref a1, .ref a2, .int a3, d4, d5, d6], [.ref r12], h11) _ _
      refine eb_n 2 (435, [.ref a0, .ref a1, .ref a2, .int a3, d4, d5, d6], [.int a3, .ref 2, .ref r12], h11) (rfl) ?_
      obtain ⟨g13, e⟩ := gd_some e
      refine eb_g (p := hT h11 2 = 111 ∧ inb a3 (hL h11 2)) (436, [.ref a0, .ref a1, .ref a2, .int a3, d4, d5, d6], [.ref (hR h11 2 (ix a3)), .ref r12], h11) rfl g13 ?_
      obtain ⟨g14, e⟩ := gd_some e
      obtain ⟨h15, r16, eh15, e⟩ := bn_some e
      refine eb_cg (p := hT h11 r12 = 14) rfl g14 (f_SB_append_s_ev d (Nat.le_trans (by decide) hd) eh15) ?_
      show Eb _ 3 (439, [.ref a0, .ref a1, .ref a2, .int a3, d4, d5, d6], [.ref r16], h15) _ _
      refine eb_n 1 (441, [.ref a0, .ref a1, .ref a2, .int a3, d4, d5, d6], [.int (nI 32), .ref r16], h15) (rfl) ?_
      obtain ⟨g17, e⟩ := gd_some e
      obtain ⟨h18, r19, eh18, e⟩ := bn_some e
      refine eb_cg (p := hT h15 r16 = 14) rfl g17 (f_SB_append_C_ev d (Nat.le_trans (by decide) hd) eh18) ?_
      show Eb _ 3 (444, [.ref a0, .ref a1, .ref a2, .int a3, d4, d5, d6], [.ref r19], h18) _ _
      refine eb_n 1 (445, [.ref a0, .ref a1, .ref a2, .int a3, d4, d5, d6], [.ref a0, .ref r19], h18) (rfl) ?_
      obtain ⟨g20, e⟩ := gd_some e
      refine eb_g (p := hT h18 a0 = 13) (448, [.ref a0, .ref a1, .ref a2, .int a3, d4, d5, d6], [.ref (hR h18 a0 8), .ref r19], h18) rfl g20 ?_
      refine eb_n 1 (449, [.ref a0, .ref a1, .ref a2, .int a3, d4, d5, d6], [.int a3, .ref (hR h18 a0 8), .ref r19], h18) (rfl) ?_
      obtain ⟨g21, e⟩ := gd_some e
      refine eb_g (p := hT h18 (hR h18 a0 8) = 101 ∧ inb a3 (hL h18 (hR h18 a0 8))) (450, [.ref a0, .ref a1, .ref a2, .int a3, d4, d5, d6], [.int (hI h18 (hR h18 a0 8) (ix a3)), .ref r19], h18) rfl g21 ?_
      obtain ⟨g22, e⟩ := gd_some e
      obtain ⟨h23, r24, eh23, e⟩ := bn_some e
      refine eb_cg (p := hT h18 r19 = 14) rfl g22 (f_SB_append_I_ev d (Nat.le_trans (by decide) hd) eh23) ?_
      show Eb _ 3 (453, [.ref a0, .ref a1, .ref a2, .int a3, d4, d5, d6], [.ref r24], h23) _ _
      refine eb_n 1 (455, [.ref a0, .ref a1, .ref a2, .int a3, d4, d5, d6], [.ref 24, .ref r24], h23) (rfl) ?_
      obtain ⟨g25, e⟩ := gd_some e
      obtain ⟨h26, r27, eh26, e⟩ := bn_some e
      refine eb_cg (p := hT h23 r24 = 14) rfl g25 (f_SB_append_s_ev d (Nat.le_trans (by decide) hd) eh26) ?_
      show Eb _ 3 (458, [.ref a0, .ref a1, .ref a2, .int a3, d4, d5, d6], [.ref r27], h26) _ _
      refine eb_n 1 (459, [.ref a0, .ref a1, .ref a2, .int a3, d4, d5, d6], [], h26) (rfl) ?_
      exact f_Sim_text_b459_ev d hd k408 hk408 _ _ _ _ _ _ _ _ e
set_option maxRecDepth 100000 in
set_option maxHeartbeats 4000000 in
theorem f_Sim_text_l408_ev {h' : AH} {r : Nat} (d : Nat) (hd : 7 ≤ d)  : ∀ (n : Nat) (h : AH) (a0 : Nat) (a1 : Nat) (a2 : Nat) (a3 : Int32)  (d4 : Value) (d5 : Value) (d6 : Value) (_ : f_Sim_text_l408  n h a0 a1 a2 a3 = some (h', r)), Eb (Ev tb mL d) 3 (408, [.ref a0, .ref a1, .ref a2, .int a3, d4, d5, d6], [], h) h' (some (.ref r)) := by
  intro n
  induction n with
  | zero => intro h a0 a1 a2 a3 d4 d5 d6 e; exact nomatch e
  | succ n ih =>
    intro h a0 a1 a2 a3 d4 d5 d6 e
    exact f_Sim_text_b408_ev d hd _ (fun h a0 a1 a2 a3 d4 d5 d6 e => ih h a0 a1 a2 a3 d4 d5 d6 e) h a0 a1 a2 a3 d4 d5 d6 e
set_option maxRecDepth 100000 in
set_option maxHeartbeats 4000000 in
theorem f_Sim_text_b379_ev {h' : AH} {r : Nat} (d : Nat) (hd : 7 ≤ d) (k332 : AH → Nat → Nat → Int32 → Option (AH × Nat)) (hk332 : ∀ (h : AH) (a0 : Nat) (a1 : Nat) (a2 : Int32)  (d3 : Value) (d4 : Value) (d5 : Value) (d6 : Value), k332 h a0 a1 a2 = some (h', r) → Eb (Ev tb mL d) 3 (332, [.ref a0, .ref a1, .int a2, d3, d4, d5, d6], [], h) h' (some (.ref r)))  (h : AH) (a0 : Nat) (a1 : Nat) (a2 : Int32)  (d3 : Value) (d4 : Value) (d5 : Value) (d6 : Value) (e : f_Sim_text_b379 k332 h a0 a1 a2 = some (h', r)) : Eb (Ev tb mL d) 3 (379, [.ref a0, .ref a1, .int a2, d3, d4, d5, d6], [], h) h' (some (.ref r)) := by
  unfold f_Sim_text_b379 at e
  obtain ⟨x1, hx1, e⟩ := lq_some e
  refine eb_n 1 (382, [.ref a0, .ref a1, .int x1, d3, d4, d5, d6], [], h) (by subst hx1; rfl) ?_
  refine eb_n 1 (332, [.ref a0, .ref a1, .int x1, d3, d4, d5, d6], [], h) (rfl) ?_
  exact hk332 _ _ _ _ _ _ _ _ e
set_option maxRecDepth 100000 in
set_option maxHeartbeats 4000000 in
theorem f_Sim_text_b332_ev {h' : AH} {r : Nat} (d : Nat) (hd : 7 ≤ d) (k332 : AH → Nat → Nat → Int32 → Option (AH × Nat)) (hk332 : ∀ (h : AH) (a0 : Nat) (a1 : Nat) (a2 : Int32)  (d3 : Value) (d4 : Value) (d5 : Value) (d6 : Value), k332 h a0 a1 a2 = some (h', r) → Eb (Ev tb mL d) 3 (332, [.ref a0, .ref a1, .int a2, d3, d4, d5, d6], [], h) h' (some (.ref r)))  (h : AH) (a0 : Nat) (a1 : Nat) (a2 : Int32)  (d3 : Value) (d4 : Value) (d5 : Value) (d6 : Value) (e : f_Sim_text_b332 k332 h a0 a1 a2 = some (h', r)) : Eb (Ev tb mL d) 3 (332, [.ref a0, .ref a1, .int a2, d3, d4, d5, d6], [], h) h' (some (.ref r)) := by
  unfold f_Sim_text_b332 at e
  refine eb_n 2 (335, [.ref a0, .ref a1, .int a2, d3, d4, d5, d6], [.int (nI 12), .int a2], h) (rfl) ?_
  refine eb_b (c := (nI 12) ≤ a2) (385, [.ref a0, .ref a1, .int a2, d3, d4, d5, d6], [], h) (338, [.ref a0, .ref a1, .int a2, d3, d4, d5, d6], [], h) rfl (fun c1 => ?_) (fun c1 => ?_)
  · replace e := ite_t c1 e
    refine eb_n 1 (386, [.ref a0, .ref a1, .int a2, d3, d4, d5, d6], [.int (nI 4)], h) (rfl) ?_
    obtain ⟨h2, eh2, e⟩ := lq_some e
    refine eb_g (p := ¬ (nI 4) < 0 ∧ ix (nI 4) ≤ 65536) (388, [.ref a0, .ref a1, .int a2, d3, d4, d5, d6], [.ref (hN h)], h2) (by rw [eh2]; rfl) (by decide) ?_
    refine eb_n 3 (392, [.ref a0, .ref a1, .int a2, d3, d4, d5, d6], [.int (nI 8), .int (nI 0), .ref (hN h), .ref (hN h)], h2) (rfl) ?_
    obtain ⟨g3, e⟩ := gd_some e
    obtain ⟨h4, eh4, e⟩ := lq_some e
    refine eb_g (p := hT h2 (hN h) = 101 ∧ inb (nI 0) (hL h2 (hN h))) (393, [.ref a0, .ref a1, .int a2, d3, d4, d5, d6], [.ref (hN h)], h4) (by rw [eh4]; rfl) g3 ?_
    refine eb_n 3 (396, [.ref a0, .ref a1, .int a2, d3, d4, d5, d6], [.int (nI 5), .int (nI 1), .ref (hN h), .ref (hN h)], h4) (rfl) ?_
    obtain ⟨g5, e⟩ := gd_some e
    obtain ⟨h6, eh6, e⟩ := lq_some e
    refine eb_g (p := hT h4 (hN h) = 101 ∧ inb (nI 1) (hL h4 (hN h))) (397, [.ref a0, .ref a1, .int a2, d3, d4, d5, d6], [.ref (hN h)], h6) (by rw [eh6]; rfl) g5 ?_
    refine eb_n 3 (400, [.ref a0, .ref a1, .int a2, d3, d4, d5, d6], [.int (nI 3), .int (nI 2), .ref (hN h), .ref (hN h)], h6) (rfl) ?_
    obtain ⟨g7, e⟩ := gd_some e
    obtain ⟨h8, eh8, e⟩ := lq_some e
    refine eb_g (p := hT h6 (hN h) = 101 ∧ inb (nI 2) (hL h6 (hN h))) (401, [.ref a0, .ref a1, .int a2, d3, d4, d5, d6], [.ref (hN h)], h8) (by rw [eh8]; rfl) g7 ?_
    refine eb_n 3 (404, [.ref a0, .ref a1, .int a2, d3, d4, d5, d6], [.int (nI 1), .int (nI 3), .ref (hN h), .ref (hN h)], h8) (rfl) ?_
    obtain ⟨g9, e⟩ := gd_some e
    obtain ⟨h10, eh10, e⟩ := lq_some e
    refine eb_g (p := hT h8 (hN h) = 101 ∧ inb (nI 3) (hL h8 (hN h))) (405, [.ref a0, .ref a1, .int a2, d3, d4, d5, d6], [.ref (hN h)], h10) (by rw [eh10]; rfl) g9 ?_
    obtain ⟨x11, hx11, e⟩ := lq_some e
    refine eb_n 1 (406, [.ref a0, .ref a1, .ref x11, d3, d4, d5, d6], [], h10) (by subst hx11; rfl) ?_
    refine eb_n 2 (408, [.ref a0, .ref a1, .ref x11, .int (nI 0), d4, d5, d6], [], h10) (rfl) ?_
    exact f_Sim_text_l408_ev d hd   FU _ _ _ _ _ _ _ _ e
  · replace e := ite_f c1 e
    refine eb_n 1 (339, [.ref a0, .ref a1, .int a2, d3, d4, d5, d6], [.ref a0], h) (rfl) ?_
    obtain ⟨g12, e⟩ := gd_some e
    refine eb_g (p := hT h a0 = 13) (342, [.ref a0, .ref a1, .int a2, d3, d4, d5, d6], [.ref (hR h a0 7)], h) rfl g12 ?_
    refine eb_n 1 (343, [.ref a0, .ref a1, .int a2, d3, d4, d5, d6], [.int a2, .ref (hR h a0 7)], h) (rfl) ?_
    obtain ⟨g13, e⟩ := gd_some e
    refine eb_g (p := hT h (hR h a0 7) = 101 ∧ inb a2 (hL h (hR h a0 7))) (344, [.ref a0, .ref a1, .int a2, d3, d4, d5, d6], [.int (hI h (hR h a0 7) (ix a2))], h) rfl g13 ?_
    refine eb_n 1 (345, [.ref a0, .ref a1, .int a2, d3, d4, d5, d6], [.int (nI 1), .int (hI h (hR h a0 7) (ix a2))], h) (rfl) ?_
    refine eb_b (c := (hI h (hR h a0 7) (ix a2)) = (nI 1)) (379, [.ref a0, .ref a1, .int a2, d3, d4, d5, d6], [], h) (348, [.ref a0, .ref a1, .int a2, d3, d4, d5, d6], [], h) rfl (fun c14 => ?_) (fun c14 => ?_)
    · replace e := ite_t c14 e
      exact f_Sim_text_b379_ev d hd k332 hk332 _ _ _ _ _ _ _ _ e
    · replace e := ite_f c14 e
      refine eb_n 2 (351, [.ref a0, .ref a1, .int a2, d3, d4, d5, d6], [.ref 42, .ref a1], h) (rfl) ?_
      obtain ⟨g15, e⟩ := gd_some e
      obtain ⟨h16, r17, eh16, e⟩ := bn_some e
      refine eb_cg (p := hT h a1 = 14) rfl g15 (f_SB_append_s_ev d (Nat.le_trans (by decide) hd) eh16) ?_
      show Eb _ 3 (354, [.ref a0, .ref a1, .int a2, d3, d4, d5, d6], [.ref r17], h16) _ _
      refine eb_n 1 (355, [.ref a0, .ref a1, .int a2, d3, d4, d5, d6], [.int a2, .ref r17], h16) (rfl) ?_
      obtain ⟨g18, e⟩ := gd_some e
      obtain ⟨h19, r20, eh19, e⟩ := bn_some e
      refine eb_cg (p := hT h16 r17 = 14) rfl g18 (f_SB_append_I_ev d (Nat.le_trans (by decide) hd) eh19) ?_
      show Eb _ 3 (358, [.ref a0, .ref a1, .int a2, d3, d4, d5, d6], [.ref r20], h19) _ _
      refine eb_n 1 (361, [.ref a0, .ref a1, .int a2, d3, d4, d5, d6], [.ref 44, .ref r20], h19) (rfl) ?_
      obtain ⟨g21, e⟩ := gd_some e
      obtain ⟨h22, r23, eh22, e⟩ := bn_some e
      refine eb_cg (p := hT h19 r20 = 14) rfl g21 (f_SB_append_s_ev d (Nat.le_trans (by decide) hd) eh22) ?_
      show Eb _ 3 (364, [.ref a0, .ref a1, .int a2, d3, d4, d5, d6], [.ref r23], h22) _ _
      refine eb_n 1 (365, [.ref a0, .ref a1, .int a2, d3, d4, d5, d6], [.ref a0, .ref r23], h22) (rfl) ?_
      obtain ⟨g24, e⟩ := gd_some e
      refine eb_g (p := hT h22 a0 = 13) (368, [.ref a0, .ref a1, .int a2, d3, d4, d5, d6], [.ref (hR h22 a0 7), .ref r23], h22) rfl g24 ?_
      refine eb_n 1 (369, [.ref a0, .ref a1, .int a2, d3, d4, d5, d6], [.int a2, .ref (hR h22 a0 7), .ref r23], h22) (rfl) ?_
      obtain ⟨g25, e⟩ := gd_some e
      refine eb_g (p := hT h22 (hR h22 a0 7) = 101 ∧ inb a2 (hL h22 (hR h22 a0 7))) (370, [.ref a0, .ref a1, .int a2, d3, d4, d5, d6], [.int (hI h22 (hR h22 a0 7) (ix a2)), .ref r23], h22) rfl g25 ?_
      obtain ⟨g26, e⟩ := gd_some e
      obtain ⟨h27, r28, eh27, e⟩ := bn_some e
      refine eb_cg (p := hT h22 r23 = 14) rfl g26 (f_SB_append_I_ev d (Nat.le_trans (by decide) hd) eh27) ?_
      show Eb _ 3 (373, [.ref a0, .ref a1, .int a2, d3, d4, d5, d6], [.ref r28], h27) _ _
      refine eb_n 1 (375, [.ref a0, .ref a1, .int a2, d3, d4, d5, d6], [.ref 24, .ref r28], h27) (rfl) ?_
      obtain ⟨g29, e⟩ := gd_some e
      obtain ⟨h30, r31, eh30, e⟩ := bn_some e
      refine eb_cg (p := hT h27 r28 = 14) rfl g29 (f_SB_append_s_ev d (Nat.le_trans (by decide) hd) eh30) ?_
      show Eb _ 3 (378, [.ref a0, .ref a1, .int a2, d3, d4, d5, d6], [.ref r31], h30) _ _
      refine eb_n 1 (379, [.ref a0, .ref a1, .int a2, d3, d4, d5, d6], [], h30) (rfl) ?_
      exact f_Sim_text_b379_ev d hd k332 hk332 _ _ _ _ _ _ _ _ e
set_option maxRecDepth 100000 in
set_option maxHeartbeats 4000000 in
theorem f_Sim_text_l332_ev {h' : AH} {r : Nat} (d : Nat) (hd : 7 ≤ d)  : ∀ (n : Nat) (h : AH) (a0 : Nat) (a1 : Nat) (a2 : Int32)  (d3 : Value) (d4 : Value) (d5 : Value) (d6 : Value) (_ : f_Sim_text_l332  n h a0 a1 a2 = some (h', r)), Eb (Ev tb mL d) 3 (332, [.ref a0, .ref a1, .int a2, d3, d4, d5, d6], [], h) h' (some (.ref r)) := by
  intro n
  induction n with
  | zero => intro h a0 a1 a2 d3 d4 d5 d6 e; exact nomatch e
  | succ n ih =>
    intro h a0 a1 a2 d3 d4 d5 d6 e
    exact f_Sim_text_b332_ev d hd _ (fun h a0 a1 a2 d3 d4 d5 d6 e => ih h a0 a1 a2 d3 d4 d5 d6 e) h a0 a1 a2 d3 d4 d5 d6 e
set_option maxRecDepth 100000 in
set_option maxHeartbeats 4000000 in
theorem f_Sim_text_b330_ev {h' : AH} {r : Nat} (d : Nat) (hd : 7 ≤ d)  (h : AH) (a0 : Nat) (a1 : Nat)  (d2 : Value) (d3 : Value) (d4 : Value) (d5 : Value) (d6 : Value) (e : f_Sim_text_b330  h a0 a1 = some (h', r)) : Eb (Ev tb mL d) 3 (330, [.ref a0, .ref a1, d2, d3, d4, d5, d6], [], h) h' (some (.ref r)) := by
  unfold f_Sim_text_b330 at e
  refine eb_n 2 (332, [.ref a0, .ref a1, .int (nI 0), d3, d4, d5, d6], [], h) (rfl) ?_
  exact f_Sim_text_l332_ev d hd   FU _ _ _ _ _ _ _ _ e
set_option maxRecDepth 100000 in
set_option maxHeartbeats 4000000 in
theorem f_Sim_text_b299_ev {h' : AH} {r : Nat} (d : Nat) (hd : 7 ≤ d)  (h : AH) (a0 : Nat) (a1 : Nat)  (d2 : Value) (d3 : Value) (d4 : Value) (d5 : Value) (d6 : Value) (e : f_Sim_text_b299  h a0 a1 = some (h', r)) : Eb (Ev tb mL d) 3 (299, [.ref a0, .ref a1, d2, d3, d4, d5, d6], [], h) h' (some (.ref r)) := by
  unfold f_Sim_text_b299 at e
  refine eb_n 2 (302, [.ref a0, .ref a1, d2, d3, d4, d5, d6], [.ref 38, .ref a1], h) (rfl) ?_
  obtain ⟨g1, e⟩ := gd_some e
  obtain ⟨h2, r3, eh2, e⟩ := bn_some e
  refine eb_cg (p := hT h a1 = 14) rfl g1 (f_SB_append_s_ev d (Nat.le_trans (by decide) hd) eh2) ?_
  show Eb _ 3 (305, [.ref a0, .ref a1, d2, d3, d4, d5, d6], [.ref r3], h2) _ _
  refine eb_n 1 (306, [.ref a0, .ref a1, d2, d3, d4, d5, d6], [.ref a0, .ref r3], h2) (rfl) ?_
  obtain ⟨g4, e⟩ := gd_some e
  refine eb_g (p := hT h2 a0 = 13) (309, [.ref a0, .ref a1, d2, d3, d4, d5, d6], [.int (hI h2 a0 5), .ref r3], h2) rfl g4 ?_
  obtain ⟨g5, e⟩ := gd_some e
  obtain ⟨h6, r7, eh6, e⟩ := bn_some e
  refine eb_cg (p := hT h2 r3 = 14) rfl g5 (f_SB_append_I_ev d (Nat.le_trans (by decide) hd) eh6) ?_
  show Eb _ 3 (312, [.ref a0, .ref a1, d2, d3, d4, d5, d6], [.ref r7], h6) _ _
  refine eb_n 1 (314, [.ref a0, .ref a1, d2, d3, d4, d5, d6], [.ref 40, .ref r7], h6) (rfl) ?_
  obtain ⟨g8, e⟩ := gd_some e
  obtain ⟨h9, r10, eh9, e⟩ := bn_some e
  refine eb_cg (p := hT h6 r7 = 14) rfl g8 (f_SB_append_s_ev d (Nat.le_trans (by decide) hd) eh9) ?_
  show Eb _ 3 (317, [.ref a0, .ref a1, d2, d3, d4, d5, d6], [.ref r10], h9) _ _
  refine eb_n 1 (318, [.ref a0, .ref a1, d2, d3, d4, d5, d6], [.ref a0, .ref r10], h9) (rfl) ?_
  obtain ⟨g11, e⟩ := gd_some e
  refine eb_g (p := hT h9 a0 = 13) (321, [.ref a0, .ref a1, d2, d3, d4, d5, d6], [.int (hI h9 a0 6), .ref r10], h9) rfl g11 ?_
  obtain ⟨g12, e⟩ := gd_some e
  obtain ⟨h13, r14, eh13, e⟩ := bn_some e
  refine eb_cg (p := hT h9 r10 = 14) rfl g12 (f_SB_append_I_ev d (Nat.le_trans (by decide) hd) eh13) ?_
  show Eb _ 3 (324, [.ref a0, .ref a1, d2, d3, d4, d5, d6], [.ref r14], h13) _ _
  refine eb_n 1 (326, [.ref a0, .ref a1, d2, d3, d4, d5, d6], [.ref 24, .ref r14], h13) (rfl) ?_
  obtain ⟨g15, e⟩ := gd_some e
  obtain ⟨h16, r17, eh16, e⟩ := bn_some e
  refine eb_cg (p := hT h13 r14 = 14) rfl g15 (f_SB_append_s_ev d (Nat.le_trans (by decide) hd) eh16) ?_
  show Eb _ 3 (329, [.ref a0, .ref a1, d2, d3, d4, d5, d6], [.ref r17], h16) _ _
  refine eb_n 1 (330, [.ref a0, .ref a1, d2, d3, d4, d5, d6], [], h16) (rfl) ?_
  exact f_Sim_text_b330_ev d hd   _ _ _ _ _ _ _ _ e
set_option maxRecDepth 100000 in
set_option maxHeartbeats 4000000 in
theorem f_Sim_text_b219_ev {h' : AH} {r : Nat} (d : Nat) (hd : 7 ≤ d) (k219 : AH → Nat → Nat → Int32 → Option (AH × Nat)) (hk219 : ∀ (h : AH) (a0 : Nat) (a1 : Nat) (a2 : Int32)  (d3 : Value) (d4 : Value) (d5 : Value) (d6 : Value), k219 h a0 a1 a2 = some (h', r) → Eb (Ev tb mL d) 3 (219, [.ref a0, .ref a1, .int a2, d3, d4, d5, d6], [], h) h' (some (.ref r)))  (h : AH) (a0 : Nat) (a1 : Nat) (a2 : Int32)  (d3 : Value) (d4 : Value) (d5 : Value) (d6 : Value) (e : f_Sim_text_b219 k219 h a0 a1 a2 = some (h', r)) : Eb (Ev tb mL d) 3 (219, [.ref a0, .ref a1, .int a2, d3, d4, d5, d6], [], h) h' (some (.ref r)) := by
  unfold f_Sim_text_b219 at e
  refine eb_n 2 (221, [.ref a0, .ref a1, .int a2, d3, d4, d5, d6], [.ref a0, .int a2], h) (rfl) ?_
  obtain ⟨g1, e⟩ := gd_some e
  refine eb_g (p := hT h a0 = 13) (224, [.ref a0, .ref a1, .int a2, d3, d4, d5, d6], [.ref (hR h a0 16), .int a2], h) rfl g1 ?_
  obtain ⟨g2, e⟩ := gd_some e
  refine eb_g (p := hT h (hR h a0 16) = 109) (225, [.ref a0, .ref a1, .int a2, d3, d4, d5, d6], [.int (nI (hL h (hR h a0 16))), .int a2], h) rfl g2 ?_
  refine eb_b (c := (nI (hL h (hR h a0 16))) ≤ a2) (282, [.ref a0, .ref a1, .int a2, d3, d4, d5, d6], [], h) (228, [.ref a0, .ref a1, .int a2, d3, d4, d5, d6], [], h) rfl (fun c3 => ?_) (fun c3 => ?_)
  · replace e := ite_t c3 e
    refine eb_n 1 (283, [.ref a0, .ref a1, .int a2, d3, d4, d5, d6], [.ref a0], h) (rfl) ?_
    refine eb_g (p := hT h a0 = 13) (286, [.ref a0, .ref a1, .int a2, d3, d4, d5, d6], [.int (hI h a0 5)], h) rfl g1 ?_
    refine eb_n 1 (288, [.ref a0, .ref a1, .int a2, d3, d4, d5, d6], [.int (nI 20), .int (hI h a0 5)], h) (rfl) ?_
    refine eb_b (c := ¬ (hI h a0 5) = (nI 20)) (299, [.ref a0, .ref a1, .int a2, d3, d4, d5, d6], [], h) (291, [.ref a0, .ref a1, .int a2, d3, d4, d5, d6], [], h) rfl (fun c4 => ?_) (fun c4 => ?_)
    · replace e := ite_t c4 e
      exact f_Sim_text_b299_ev d hd   _ _ _ _ _ _ _ _ e
    · replace e := ite_f c4 e
      refine eb_n 1 (292, [.ref a0, .ref a1, .int a2, d3, d4, d5, d6], [.ref a0], h) (rfl) ?_
      refine eb_g (p := hT h a0 = 13) (295, [.ref a0, .ref a1, .int a2, d3, d4, d5, d6], [.int (hI h a0 6)], h) rfl g1 ?_
      refine eb_n 1 (296, [.ref a0, .ref a1, .int a2, d3, d4, d5, d6], [.int (nI 1), .int (hI h a0 6)], h) (rfl) ?_
      refine eb_b (c := (hI h a0 6) = (nI 1)) (330, [.ref a0, .ref a1, .int a2, d3, d4, d5, d6], [], h) (299, [.ref a0, .ref a1, .int a2, d3, d4, d5, d6], [], h) rfl (fun c5 => ?_) (fun c5 => ?_)
      · replace e := ite_t c5 e
        exact f_Sim_text_b330_ev d hd   _ _ _ _ _ _ _ _ e
      · replace e := ite_f c5 e
        exact f_Sim_text_b299_ev d hd   _ _ _ _ _ _ _ _ e
  · replace e := ite_f c3 e
    refine eb_n 2 (231, [.ref a0, .ref a1, .int a2, d3, d4, d5, d6], [.ref 34, .ref a1], h) (rfl) ?_
    obtain ⟨g6, e⟩ := gd_some e
    obtain ⟨h7, r8, eh7, e⟩ := bn_some e
    refine eb_cg (p := hT h a1 = 14) rfl g6 (f_SB_append_s_ev d (Nat.le_trans (by decide) hd) eh7) ?_
    show Eb _ 3 (234, [.ref a0, .ref a1, .int a2, d3, d4, d5, d6], [.ref r8], h7) _ _
    refine eb_n 1 (235, [.ref a0, .ref a1, .int a2, d3, d4, d5, d6], [.int a2, .ref r8], h7) (rfl) ?_
    obtain ⟨g9, e⟩ := gd_some e
    obtain ⟨h10, r11, eh10, e⟩ := bn_some e
    refine eb_cg (p := hT h7 r8 = 14) rfl g9 (f_SB_append_I_ev d (Nat.le_trans (by decide) hd) eh10) ?_
    show Eb _ 3 (238, [.ref a0, .ref a1, .int a2, d3, d4, d5, d6], [.ref r11], h10) _ _
    refine eb_n 1 (240, [.ref a0, .ref a1, .int a2, d3, d4, d5, d6], [.ref 22, .ref r11], h10) (rfl) ?_
    obtain ⟨g12, e⟩ := gd_some e
    obtain ⟨h13, r14, eh13, e⟩ := bn_some e
    refine eb_cg (p := hT h10 r11 = 14) rfl g12 (f_SB_append_s_ev d (Nat.le_trans (by decide) hd) eh13) ?_
    show Eb _ 3 (243, [.ref a0, .ref a1, .int a2, d3, d4, d5, d6], [.ref r14], h13) _ _
    refine eb_n 1 (244, [.ref a0, .ref a1, .int a2, d3, d4, d5, d6], [.ref a0, .ref r14], h13) (rfl) ?_
    obtain ⟨g15, e⟩ := gd_some e
    refine eb_g (p := hT h13 a0 = 13) (247, [.ref a0, .ref a1, .int a2, d3, d4, d5, d6], [.ref (hR h13 a0 16), .ref r14], h13) rfl g15 ?_
    refine eb_n 1 (248, [.ref a0, .ref a1, .int a2, d3, d4, d5, d6], [.int a2, .ref (hR h13 a0 16), .ref r14], h13) (rfl) ?_
    obtain ⟨g16, e⟩ := gd_some e
    refine eb_g (p := hT h13 (hR h13 a0 16) = 109 ∧ inb a2 (hL h13 (hR h13 a0 16))) (249, [.ref a0, .ref a1, .int a2, d3, d4, d5, d6], [.ref (hR h13 (hR h13 a0 16) (ix a2)), .ref r14], h13) rfl g16 ?_
    refine eb_n 1 (250, [.ref a0, .ref a1, .int a2, d3, d4, d5, d6], [.int (nI 0), .ref (hR h13 (hR h13 a0 16) (ix a2)), .ref r14], h13) (rfl) ?_
    obtain ⟨g17, e⟩ := gd_some e
    refine eb_g (p := hT h13 (hR h13 (hR h13 a0 16) (ix a2)) = 101 ∧ inb (nI 0) (hL h13 (hR h13 (hR h13 a0 16) (ix a2)))) (251, [.ref a0, .ref a1, .int a2, d3, d4, d5, d6], [.int (hI h13 (hR h13 (hR h13 a0 16) (ix a2)) (ix (nI 0))), .ref r14], h13) rfl g17 ?_
    obtain ⟨g18, e⟩ := gd_some e
    obtain ⟨h19, r20, eh19, e⟩ := bn_some e
    refine eb_cg (p := hT h13 r14 = 14) rfl g18 (f_SB_append_I_ev d (Nat.le_trans (by decide) hd) eh19) ?_
    show Eb _ 3 (254, [.ref a0, .ref a1, .int a2, d3, d4, d5, d6], [.ref r20], h19) _ _
    refine eb_n 1 (256, [.ref a0, .ref a1, .int a2, d3, d4, d5, d6], [.ref 36, .ref r20], h19) (rfl) ?_
    obtain ⟨g21, e⟩ := gd_some e
    obtain ⟨h22, r23, eh22, e⟩ := bn_some e
    refine eb_cg (p := hT h19 r20 = 14) rfl g21 (f_SB_append_s_ev d (Nat.le_trans (by decide) hd) eh22) ?_
    show Eb _ 3 (259, [.ref a0, .ref a1, .int a2, d3, d4, d5, d6], [.ref r23], h22) _ _
    refine eb_n 1 (260, [.ref a0, .ref a1, .int a2, d3, d4, d5, d6], [.ref a0, .ref r23], h22) (rfl) ?_
    obtain ⟨g24, e⟩ := gd_some e
    refine eb_g (p := hT h22 a0 = 13) (263, [.ref a0, .ref a1, .int a2, d3, d4, d5, d6], [.ref (hR h22 a0 16), .ref r23], h22) rfl g24 ?_
    refine eb_n 1 (264, [.ref a0, .ref a1, .int a2, d3, d4, d5, d6], [.int a2, .ref (hR h22 a0 16), .ref r23], h22) (rfl) ?_
    obtain ⟨g25, e⟩ := gd_some e
    refine eb_g (p := hT h22 (hR h22 a0 16) = 109 ∧ inb a2 (hL h22 (hR h22 a0 16))) (265, [.ref a0, .ref a1, .int a2, d3, d4, d5, d6], [.ref (hR h22 (hR h22 a0 16) (ix a2)), .ref r23], h22) rfl g25 ?_
    refine eb_n 1 (266, [.ref a0, .ref a1, .int a2, d3, d4, d5, d6], [.int (nI 1), .ref (hR h22 (hR h22 a0 16) (ix a2)), .ref r23], h22) (rfl) ?_
    obtain ⟨g26, e⟩ := gd_some e
    refine eb_g (p := hT h22 (hR h22 (hR h22 a0 16) (ix a2)) = 101 ∧ inb (nI 1) (hL h22 (hR h22 (hR h22 a0 16) (ix a2)))) (267, [.ref a0, .ref a1, .int a2, d3, d4, d5, d6], [.int (hI h22 (hR h22 (hR h22 a0 16) (ix a2)) (ix (nI 1))), .ref r23], h22) rfl g26 ?_
    obtain ⟨g27, e⟩ := gd_some e
    obtain ⟨h28, r29, eh28, e⟩ := bn_some e
    refine eb_cg (p := hT h22 r23 = 14) rfl g27 (f_SB_append_I_ev d (Nat.le_trans (by decide) hd) eh28) ?_
    show Eb _ 3 (270, [.ref a0, .ref a1, .int a2, d3, d4, d5, d6], [.ref r29], h28) _ _
    refine eb_n 1 (272, [.ref a0, .ref a1, .int a2, d3, d4, d5, d6], [.ref 24, .ref r29], h28) (rfl) ?_
    obtain ⟨g30, e⟩ := gd_some e
    obtain ⟨h31, r32, eh31, e⟩ := bn_some e
    refine eb_cg (p := hT h28 r29 = 14) rfl g30 (f_SB_append_s_ev d (Nat.le_trans (by decide) hd) eh31) ?_
    show Eb _ 3 (275, [.ref a0, .ref a1, .int a2, d3, d4, d5, d6], [.ref r32], h31) _ _
    obtain ⟨x33, hx33, e⟩ := lq_some e
    refine eb_n 2 (279, [.ref a0, .ref a1, .int x33, d3, d4, d5, d6], [], h31) (by subst hx33; rfl) ?_
    refine eb_n 1 (219, [.ref a0, .ref a1, .int x33, d3, d4, d5, d6], [], h31) (rfl) ?_
    exact hk219 _ _ _ _ _ _ _ _ e
set_option maxRecDepth 100000 in
set_option maxHeartbeats 4000000 in
theorem f_Sim_text_l219_ev {h' : AH} {r : Nat} (d : Nat) (hd : 7 ≤ d)  : ∀ (n : Nat) (h : AH) (a0 : Nat) (a1 : Nat) (a2 : Int32)  (d3 : Value) (d4 : Value) (d5 : Value) (d6 : Value) (_ : f_Sim_text_l219  n h a0 a1 a2 = some (h', r)), Eb (Ev tb mL d) 3 (219, [.ref a0, .ref a1, .int a2, d3, d4, d5, d6], [], h) h' (some (.ref r)) := by
  intro n
  induction n with
  | zero => intro h a0 a1 a2 d3 d4 d5 d6 e; exact nomatch e
  | succ n ih =>
    intro h a0 a1 a2 d3 d4 d5 d6 e
    exact f_Sim_text_b219_ev d hd _ (fun h a0 a1 a2 d3 d4 d5 d6 e => ih h a0 a1 a2 d3 d4 d5 d6 e) h a0 a1 a2 d3 d4 d5 d6 e
set_option maxRecDepth 100000 in
set_option maxHeartbeats 4000000 in
theorem f_Sim_text_b138_ev {h' : AH} {r : Nat} (d : Nat) (hd : 7 ≤ d) (k138 : AH → Nat → Nat → Int32 → Option (AH × Nat)) (hk138 : ∀ (h : AH) (a0 : Nat) (a1 : Nat) (a2 : Int32)  (d3 : Value) (d4 : Value) (d5 : Value) (d6 : Value), k138 h a0 a1 a2 = some (h', r) → Eb (Ev tb mL d) 3 (138, [.ref a0, .ref a1, .int a2, d3, d4, d5, d6], [], h) h' (some (.ref r)))  (h : AH) (a0 : Nat) (a1 : Nat) (a2 : Int32)  (d3 : Value) (d4 : Value) (d5 : Value) (d6 : Value) (e : f_Sim_text_b138 k138 h a0 a1 a2 = some (h', r)) : Eb (Ev tb mL d) 3 (138, [.ref a0, .ref a1, .int a2, d3, d4, d5, d6], [], h) h' (some (.ref r)) := by
  unfold f_Sim_text_b138 at e
  refine eb_n 2 (140, [.ref a0, .ref a1, .int a2, d3, d4, d5, d6], [.ref a0, .int a2], h) (rfl) ?_
  obtain ⟨g1, e⟩ := gd_some e
  refine eb_g (p := hT h a0 = 13) (143, [.ref a0, .ref a1, .int a2, d3, d4, d5, d6], [.ref (hR h a0 15), .int a2], h) rfl g1 ?_
  obtain ⟨g2, e⟩ := gd_some e
  refine eb_g (p := hT h (hR h a0 15) = 109) (144, [.ref a0, .ref a1, .int a2, d3, d4, d5, d6], [.int (nI (hL h (hR h a0 15))), .int a2], h) rfl g2 ?_
  refine eb_b (c := (nI (hL h (hR h a0 15))) ≤ a2) (217, [.ref a0, .ref a1, .int a2, d3, d4, d5, d6], [], h) (147, [.ref a0, .ref a1, .int a2, d3, d4, d5, d6], [], h) rfl (fun c3 => ?_) (fun c3 => ?_)
  · replace e := ite_t c3 e
    refine eb_n 2 (219, [.ref a0, .ref a1, .int (nI 0), d3, d4, d5, d6], [], h) (rfl) ?_
    exact f_Sim_text_l219_ev d hd   FU _ _ _ _ _ _ _ _ e
  · replace e := ite_f c3 e
    refine eb_n 2 (150, [.ref a0, .ref a1, .int a2, d3, d4, d5, d6], [.ref 26, .ref a1], h) (rfl) ?_
    obtain ⟨g4, e⟩ := gd_some e
    obtain ⟨h5, r6, eh5, e⟩ := bn_some e
    refine eb_cg (p := hT h a1 = 14) rfl g4 (f_SB_append_s_ev d (Nat.le_trans (by decide) hd) eh5) ?_
    show Eb _ 3 (153, [.ref a0, .ref a1, .int a2, d3, d4, d5, d6], [.ref r6], h5) _ _
    refine eb_n 1 (154, [.ref a0, .ref a1, .int a2, d3, d4, d5, d6], [.int a2, .ref r6], h5) (rfl) ?_
    obtain ⟨g7, e⟩ := gd_some e
    obtain ⟨h8, r9, eh8, e⟩ := bn_some e
    refine eb_cg (p := hT h5 r6 = 14) rfl g7 (f_SB_append_I_ev d (Nat.le_trans (by decide) hd) eh8) ?_
    show Eb _ 3 (157, [.ref a0, .ref a1, .int a2, d3, d4, d5, d6], [.ref r9], h8) _ _
    refine eb_n 1 (159, [.ref a0, .ref a1, .int a2, d3, d4, d5, d6], [.ref 28, .ref r9], h8) (rfl) ?_
    obtain ⟨g10, e⟩ := gd_some e
    obtain ⟨h11, r12, eh11, e⟩ := bn_some e
    refine eb_cg (p := hT h8 r9 = 14) rfl g10 (f_SB_append_s_ev d (Nat.le_trans (by decide) hd) eh11) ?_
    show Eb _ 3 (162, [.ref a0, .ref a1, .int a2, d3, d4, d5, d6], [.ref r12], h11) _ _
    refine eb_n 1 (163, [.ref a0, .ref a1, .int a2, d3, d4, d5, d6], [.ref a0, .ref r12], h11) (rfl) ?_
    obtain ⟨g13, e⟩ := gd_some e
    refine eb_g (p := hT h11 a0 = 13) (166, [.ref a0, .ref a1, .int a2, d3, d4, d5, d6], [.ref (hR h11 a0 15), .ref r12], h11) rfl g13 ?_
    refine eb_n 1 (167, [.ref a0, .ref a1, .int a2, d3, d4, d5, d6], [.int a2, .ref (hR h11 a0 15), .ref r12], h11) (rfl) ?_
    obtain ⟨g14, e⟩ := gd_some e
    refine eb_g (p := hT h11 (hR h11 a0 15) = 109 ∧ inb a2 (hL h11 (hR h11 a0 15))) (168, [.ref a0, .ref a1, .int a2, d3, d4, d5, d6], [.ref (hR h11 (hR h11 a0 15) (ix a2)), .ref r12], h11) rfl g14 ?_
    refine eb_n 1 (169, [.ref a0, .ref a1, .int a2, d3, d4, d5, d6], [.int (nI 0), .ref (hR h11 (hR h11 a0 15) (ix a2)), .ref r12], h11) (rfl) ?_
    obtain ⟨g15, e⟩ := gd_some e
    refine eb_g (p := hT h11 (hR h11 (hR h11 a0 15) (ix a2)) = 101 ∧ inb (nI 0) (hL h11 (hR h11 (hR h11 a0 15) (ix a2)))) (170, [.ref a0, .ref a1, .int a2, d3, d4, d5, d6], [.int (hI h11 (hR h11 (hR h11 a0 15) (ix a2)) (ix (nI 0))), .ref r12], h11) rfl g15 ?_
    obtain ⟨g16, e⟩ := gd_some e
    obtain ⟨h17, r18, eh17, e⟩ := bn_some e
    refine eb_cg (p := hT h11 r12 = 14) rfl g16 (f_SB_append_I_ev d (Nat.le_trans (by decide) hd) eh17) ?_
    show Eb _ 3 (173, [.ref a0, .ref a1, .int a2, d3, d4, d5, d6], [.ref r18], h17) _ _
    refine eb_n 1 (175, [.ref a0, .ref a1, .int a2, d3, d4, d5, d6], [.ref 30, .ref r18], h17) (rfl) ?_
    obtain ⟨g19, e⟩ := gd_some e
    obtain ⟨h20, r21, eh20, e⟩ := bn_some e
    refine eb_cg (p := hT h17 r18 = 14) rfl g19 (f_SB_append_s_ev d (Nat.le_trans (by decide) hd) eh20) ?_
    show Eb _ 3 (178, [.ref a0, .ref a1, .int a2, d3, d4, d5, d6], [.ref r21], h20) _ _
    refine eb_n 1 (179, [.ref a0, .ref a1, .int a2, d3, d4, d5, d6], [.ref a0, .ref r21], h20) (rfl) ?_
    obtain ⟨g22, e⟩ := gd_some e
    refine eb_g (p := hT h20 a0 = 13) (182, [.ref a0, .ref a1, .int a2, d3, d4, d5, d6], [.ref (hR h20 a0 15), .ref r21], h20) rfl g22 ?_
    refine eb_n 1 (183, [.ref a0, .ref a1, .int a2, d3, d4, d5, d6], [.int a2, .ref (hR h20 a0 15), .ref r21], h20) (rfl) ?_
    obtain ⟨g23, e⟩ := gd_some e
    refine eb_g (p := hT h20 (hR h20 a0 15) = 109 ∧ inb a2 (hL h20 (hR h20 a0 15))) (184, [.ref a0, .ref a1, .int a2, d3, d4, d5, d6], [.ref (hR h20 (hR h20 a0 15) (ix a2)), .ref r21], h20) rfl g23 ?_
    refine eb_n 1 (185, [.ref a0, .ref a1, .int a2, d3, d4, d5, d6], [.int (nI 1), .ref (hR h20 (hR h20 a0 15) (ix a2)), .ref r21], h20) (rfl) ?_
    obtain ⟨g24, e⟩ := gd_some e
    refine eb_g (p := hT h20 (hR h20 (hR h20 a0 15) (ix a2)) = 101 ∧ inb (nI 1) (hL h20 (hR h20 (hR h20 a0 15) (ix a2)))) (186, [.ref a0, .ref a1, .int a2, d3, d4, d5, d6], [.int (hI h20 (hR h20 (hR h20 a0 15) (ix a2)) (ix (nI 1))), .ref r21], h20) rfl g24 ?_
    obtain ⟨g25, e⟩ := gd_some e
    obtain ⟨h26, r27, eh26, e⟩ := bn_some e
    refine eb_cg (p := hT h20 r21 = 14) rfl g25 (f_SB_append_I_ev d (Nat.le_trans (by decide) hd) eh26) ?_
    show Eb _ 3 (189, [.ref a0, .ref a1, .int a2, d3, d4, d5, d6], [.ref r27], h26) _ _
    refine eb_n 1 (191, [.ref a0, .ref a1, .int a2, d3, d4, d5, d6], [.ref 32, .ref r27], h26) (rfl) ?_
    obtain ⟨g28, e⟩ := gd_some e
    obtain ⟨h29, r30, eh29, e⟩ := bn_some e
    refine eb_cg (p := hT h26 r27 = 14) rfl g28 (f_SB_append_s_ev d (Nat.le_trans (by decide) hd) eh29) ?_
    show Eb _ 3 (194, [.ref a0, .ref a1, .int a2, d3, d4, d5, d6], [.ref r30], h29) _ _
    refine eb_n 1 (195, [.ref a0, .ref a1, .int a2, d3, d4, d5, d6], [.ref a0, .ref r30], h29) (rfl) ?_
    obtain ⟨g31, e⟩ := gd_some e
    refine eb_g (p := hT h29 a0 = 13) (198, [.ref a0, .ref a1, .int a2, d3, d4, d5, d6], [.ref (hR h29 a0 15), .ref r30], h29) rfl g31 ?_
    refine eb_n 1 (199, [.ref a0, .ref a1, .int a2, d3, d4, d5, d6], [.int a2, .ref (hR h29 a0 15), .ref r30], h29) (rfl) ?_
    obtain ⟨g32, e⟩ := gd_some e
    refine eb_g (p := hT h29 (hR h29 a0 15) = 109 ∧ inb a2 (hL h29 (hR h29 a0 15))) (200, [.ref a0, .ref a1, .int a2, d3, d4, d5, d6], [.ref (hR h29 (hR h29 a0 15) (ix a2)), .ref r30], h29) rfl g32 ?_
    refine eb_n 1 (201, [.ref a0, .ref a1, .int a2, d3, d4, d5, d6], [.int (nI 2), .ref (hR h29 (hR h29 a0 15) (ix a2)), .ref r30], h29) (rfl) ?_
    obtain ⟨g33, e⟩ := gd_some e
    refine eb_g (p := hT h29 (hR h29 (hR h29 a0 15) (ix a2)) = 101 ∧ inb (nI 2) (hL h29 (hR h29 (hR h29 a0 15) (ix a2)))) (202, [.ref a0, .ref a1, .int a2, d3, d4, d5, d6], [.int (hI h29 (hR h29 (hR h29 a0 15) (ix a2)) (ix (nI 2))), .ref r30], h29) rfl g33 ?_
    obtain ⟨g34, e⟩ := gd_some e
    obtain ⟨h35, r36, eh35, e⟩ := bn_some e
    refine eb_cg (p := hT h29 r30 = 14) rfl g34 (f_SB_append_I_ev d (Nat.le_trans (by decide) hd) eh35) ?_
    show Eb _ 3 (205, [.ref a0, .ref a1, .int a2, d3, d4, d5, d6], [.ref r36], h35) _ _
    refine eb_n 1 (207, [.ref a0, .ref a1, .int a2, d3, d4, d5, d6], [.ref 24, .ref r36], h35) (rfl) ?_
    obtain ⟨g37, e⟩ := gd_some e
    obtain ⟨h38, r39, eh38, e⟩ := bn_some e
    refine eb_cg (p := hT h35 r36 = 14) rfl g37 (f_SB_append_s_ev d (Nat.le_trans (by decide) hd) eh38) ?_
    show Eb _ 3 (210, [.ref a0, .ref a1, .int a2, d3, d4, d5, d6], [.ref r39], h38) _ _
    obtain ⟨x40, hx40, e⟩ := lq_some e
    refine eb_n 2 (214, [.ref a0, .ref a1, .int x40, d3, d4, d5, d6], [], h38) (by subst hx40; rfl) ?_
    refine eb_n 1 (138, [.ref a0, .ref a1, .int x40, d3, d4, d5, d6], [], h38) (rfl) ?_
    exact hk138 _ _ _ _ _ _ _ _ e
set_option maxRecDepth 100000 in
set_option maxHeartbeats 4000000 in
theorem f_Sim_text_l138_ev {h' : AH} {r : Nat} (d : Nat) (hd : 7 ≤ d)  : ∀ (n : Nat) (h : AH) (a0 : Nat) (a1 : Nat) (a2 : Int32)  (d3 : Value) (d4 : Value) (d5 : Value) (d6 : Value) (_ : f_Sim_text_l138  n h a0 a1 a2 = some (h', r)), Eb (Ev tb mL d) 3 (138, [.ref a0, .ref a1, .int a2, d3, d4, d5, d6], [], h) h' (some (.ref r)) := by
  intro n
  induction n with
  | zero => intro h a0 a1 a2 d3 d4 d5 d6 e; exact nomatch e
  | succ n ih =>
    intro h a0 a1 a2 d3 d4 d5 d6 e
    exact f_Sim_text_b138_ev d hd _ (fun h a0 a1 a2 d3 d4 d5 d6 e => ih h a0 a1 a2 d3 d4 d5 d6 e) h a0 a1 a2 d3 d4 d5 d6 e
set_option maxRecDepth 100000 in
set_option maxHeartbeats 4000000 in
theorem f_Sim_text_b91_ev {h' : AH} {r : Nat} (d : Nat) (hd : 7 ≤ d) (k91 : AH → Nat → Nat → Int32 → Option (AH × Nat)) (hk91 : ∀ (h : AH) (a0 : Nat) (a1 : Nat) (a2 : Int32)  (d3 : Value) (d4 : Value) (d5 : Value) (d6 : Value), k91 h a0 a1 a2 = some (h', r) → Eb (Ev tb mL d) 3 (91, [.ref a0, .ref a1, .int a2, d3, d4, d5, d6], [], h) h' (some (.ref r)))  (h : AH) (a0 : Nat) (a1 : Nat) (a2 : Int32)  (d3 : Value) (d4 : Value) (d5 : Value) (d6 : Value) (e : f_Sim_text_b91 k91 h a0 a1 a2 = some (h', r)) : Eb (Ev tb mL d) 3 (91, [.ref a0, .ref a1, .int a2, d3, d4, d5, d6], [], h) h' (some (.ref r)) := by
  unfold f_Sim_text_b91 at e
  refine eb_n 2 (93, [.ref a0, .ref a1, .int a2, d3, d4, d5, d6], [.ref a0, .int a2], h) (rfl) ?_
  obtain ⟨g1, e⟩ := gd_some e
  refine eb_g (p := hT h a0 = 13) (96, [.ref a0, .ref a1, .int a2, d3, d4, d5, d6], [.ref (hR h a0 14), .int a2], h) rfl g1 ?_
  obtain ⟨g2, e⟩ := gd_some e
  refine eb_g (p := hT h (hR h a0 14) = 110) (97, [.ref a0, .ref a1, .int a2, d3, d4, d5, d6], [.int (nI (hL h (hR h a0 14))), .int a2], h) rfl g2 ?_
  refine eb_b (c := (nI (hL h (hR h a0 14))) ≤ a2) (136, [.ref a0, .ref a1, .int a2, d3, d4, d5, d6], [], h) (100, [.ref a0, .ref a1, .int a2, d3, d4, d5, d6], [], h) rfl (fun c3 => ?_) (fun c3 => ?_)
  · replace e := ite_t c3 e
    refine eb_n 2 (138, [.ref a0, .ref a1, .int (nI 0), d3, d4, d5, d6], [], h) (rfl) ?_
    exact f_Sim_text_l138_ev d hd   FU _ _ _ _ _ _ _ _ e
  · replace e := ite_f c3 e
    refine eb_n 2 (103, [.ref a0, .ref a1, .int a2, d3, d4, d5, d6], [.ref 20, .ref a1], h) (rfl) ?_
    obtain ⟨g4, e⟩ := gd_some e
    obtain ⟨h5, r6, eh5, e⟩ := bn_some e
    refine eb_cg (p := hT h a1 = 14) rfl g4 (f_SB_append_s_ev d (Nat.le_trans (by decide) hd) eh5) ?_
    show Eb _ 3 (106, [.ref a0, .ref a1, .int a2, d3, d4, d5, d6], [.ref r6], h5) _ _
    refine eb_n 1 (107, [.ref a0, .ref a1, .int a2, d3, d4, d5, d6], [.int a2, .ref r6], h5) (rfl) ?_
    obtain ⟨g7, e⟩ := gd_some e
    obtain ⟨h8, r9, eh8, e⟩ := bn_some e
    refine eb_cg (p := hT h5 r6 = 14) rfl g7 (f_SB_append_I_ev d (Nat.le_trans (by decide) hd) eh8) ?_
    show Eb _ 3 (110, [.ref a0, .ref a1, .int a2, d3, d4, d5, d6], [.ref r9], h8) _ _
    refine eb_n 1 (112, [.ref a0, .ref a1, .int a2, d3, d4, d5, d6], [.ref 22, .ref r9], h8) (rfl) ?_
    obtain ⟨g10, e⟩ := gd_some e
    obtain ⟨h11, r12, eh11, e⟩ := bn_some e
    refine eb_cg (p := hT h8 r9 = 14) rfl g10 (f_SB_append_s_ev d (Nat.le_trans (by decide) hd) eh11) ?_
    show Eb _ 3 (115, [.ref a0, .ref a1, .int a2, d3, d4, d5, d6], [.ref r12], h11) _ _
    refine eb_n 1 (116, [.ref a0, .ref a1, .int a2, d3, d4, d5, d6], [.ref a0, .ref r12], h11) (rfl) ?_
    obtain ⟨g13, e⟩ := gd_some e
    refine eb_g (p := hT h11 a0 = 13) (119, [.ref a0, .ref a1, .int a2, d3, d4, d5, d6], [.ref (hR h11 a0 13), .ref r12], h11) rfl g13 ?_
    refine eb_n 1 (120, [.ref a0, .ref a1, .int a2, d3, d4, d5, d6], [.int a2, .ref (hR h11 a0 13), .ref r12], h11) (rfl) ?_
    obtain ⟨g14, e⟩ := gd_some e
    refine eb_g (p := hT h11 (hR h11 a0 13) = 101 ∧ inb a2 (hL h11 (hR h11 a0 13))) (121, [.ref a0, .ref a1, .int a2, d3, d4, d5, d6], [.int (hI h11 (hR h11 a0 13) (ix a2)), .ref r12], h11) rfl g14 ?_
    obtain ⟨g15, e⟩ := gd_some e
    obtain ⟨h16, r17, eh16, e⟩ := bn_some e
    refine eb_cg (p := hT h11 r12 = 14) rfl g15 (f_SB_append_I_ev d (Nat.le_trans (by decide) hd) eh16) ?_
    show Eb _ 3 (124, [.ref a0, .ref a1, .int a2, d3, d4, d5, d6], [.ref r17], h16) _ _
    refine eb_n 1 (126, [.ref a0, .ref a1, .int a2, d3, d4, d5, d6], [.ref 24, .ref r17], h16) (rfl) ?_
    obtain ⟨g18, e⟩ := gd_some e
    obtain ⟨h19, r20, eh19, e⟩ := bn_some e
    refine eb_cg (p := hT h16 r17 = 14) rfl g18 (f_SB_append_s_ev d (Nat.le_trans (by decide) hd) eh19) ?_
    show Eb _ 3 (129, [.ref a0, .ref a1, .int a2, d3, d4, d5, d6], [.ref r20], h19) _ _
    obtain ⟨x21, hx21, e⟩ := lq_some e
    refine eb_n 2 (133, [.ref a0, .ref a1, .int x21, d3, d4, d5, d6], [], h19) (by subst hx21; rfl) ?_
    refine eb_n 1 (91, [.ref a0, .ref a1, .int x21, d3, d4, d5, d6], [], h19) (rfl) ?_
    exact hk91 _ _ _ _ _ _ _ _ e
set_option maxRecDepth 100000 in
set_option maxHeartbeats 4000000 in
theorem f_Sim_text_l91_ev {h' : AH} {r : Nat} (d : Nat) (hd : 7 ≤ d)  : ∀ (n : Nat) (h : AH) (a0 : Nat) (a1 : Nat) (a2 : Int32)  (d3 : Value) (d4 : Value) (d5 : Value) (d6 : Value) (_ : f_Sim_text_l91  n h a0 a1 a2 = some (h', r)), Eb (Ev tb mL d) 3 (91, [.ref a0, .ref a1, .int a2, d3, d4, d5, d6], [], h) h' (some (.ref r)) := by
  intro n
  induction n with
  | zero => intro h a0 a1 a2 d3 d4 d5 d6 e; exact nomatch e
  | succ n ih =>
    intro h a0 a1 a2 d3 d4 d5 d6 e
    exact f_Sim_text_b91_ev d hd _ (fun h a0 a1 a2 d3 d4 d5 d6 e => ih h a0 a1 a2 d3 d4 d5 d6 e) h a0 a1 a2 d3 d4 d5 d6 e
set_option maxRecDepth 100000 in
set_option maxHeartbeats 4000000 in
theorem f_Sim_text_b10_ev {h' : AH} {r : Nat} (d : Nat) (hd : 7 ≤ d) (k10 : AH → Nat → Nat → Int32 → Option (AH × Nat)) (hk10 : ∀ (h : AH) (a0 : Nat) (a1 : Nat) (a2 : Int32)  (d3 : Value) (d4 : Value) (d5 : Value) (d6 : Value), k10 h a0 a1 a2 = some (h', r) → Eb (Ev tb mL d) 3 (10, [.ref a0, .ref a1, .int a2, d3, d4, d5, d6], [], h) h' (some (.ref r)))  (h : AH) (a0 : Nat) (a1 : Nat) (a2 : Int32)  (d3 : Value) (d4 : Value) (d5 : Value) (d6 : Value) (e : f_Sim_text_b10 k10 h a0 a1 a2 = some (h', r)) : Eb (Ev tb mL d) 3 (10, [.ref a0, .ref a1, .int a2, d3, d4, d5, d6], [], h) h' (some (.ref r)) := by
  unfold f_Sim_text_b10 at e
  refine eb_n 2 (12, [.ref a0, .ref a1, .int a2, d3, d4, d5, d6], [.ref a0, .int a2], h) (rfl) ?_
  obtain ⟨g1, e⟩ := gd_some e
  refine eb_g (p := hT h a0 = 13) (15, [.ref a0, .ref a1, .int a2, d3, d4, d5, d6], [.ref (hR h a0 12), .int a2], h) rfl g1 ?_
  obtain ⟨g2, e⟩ := gd_some e
  refine eb_g (p := hT h (hR h a0 12) = 109) (16, [.ref a0, .ref a1, .int a2, d3, d4, d5, d6], [.int (nI (hL h (hR h a0 12))), .int a2], h) rfl g2 ?_
  refine eb_b (c := (nI (hL h (hR h a0 12))) ≤ a2) (89, [.ref a0, .ref a1, .int a2, d3, d4, d5, d6], [], h) (19, [.ref a0, .ref a1, .int a2, d3, d4, d5, d6], [], h) rfl (fun c3 => ?_) (fun c3 => ?_)
  · replace e := ite_t c3 e
    refine eb_n 2 (91, [.ref a0, .ref a1, .int (nI 0), d3, d4, d5, d6], [], h) (rfl) ?_
    exact f_Sim_text_l91_ev d hd   FU _ _ _ _ _ _ _ _ e
  · replace e := ite_f c3 e
    refine eb_n 2 (22, [.ref a0, .ref a1, .int a2, d3, d4, d5, d6], [.ref 10, .ref a1], h) (rfl) ?_
    obtain ⟨g4, e⟩ := gd_some e
    obtain ⟨h5, r6, eh5, e⟩ := bn_some e
    refine eb_cg (p := hT h a1 = 14) rfl g4 (f_SB_append_s_ev d (Nat.le_trans (by decide) hd) eh5) ?_
    show Eb _ 3 (25, [.ref a0, .ref a1, .int a2, d3, d4, d5, d6], [.ref r6], h5) _ _
    refine eb_n 1 (26, [.ref a0, .ref a1, .int a2, d3, d4, d5, d6], [.int a2, .ref r6], h5) (rfl) ?_
    obtain ⟨g7, e⟩ := gd_some e
    obtain ⟨h8, r9, eh8, e⟩ := bn_some e
    refine eb_cg (p := hT h5 r6 = 14) rfl g7 (f_SB_append_I_ev d (Nat.le_trans (by decide) hd) eh8) ?_
    show Eb _ 3 (29, [.ref a0, .ref a1, .int a2, d3, d4, d5, d6], [.ref r9], h8) _ _
    refine eb_n 1 (31, [.ref a0, .ref a1, .int a2, d3, d4, d5, d6], [.ref 12, .ref r9], h8) (rfl) ?_
    obtain ⟨g10, e⟩ := gd_some e
    obtain ⟨h11, r12, eh11, e⟩ := bn_some e
    refine eb_cg (p := hT h8 r9 = 14) rfl g10 (f_SB_append_s_ev d (Nat.le_trans (by decide) hd) eh11) ?_
    show Eb _ 3 (34, [.ref a0, .ref a1, .int a2, d3, d4, d5, d6], [.ref r12], h11) _ _
    refine eb_n 1 (35, [.ref a0, .ref a1, .int a2, d3, d4, d5, d6], [.ref a0, .ref r12], h11) (rfl) ?_
    obtain ⟨g13, e⟩ := gd_some e
    refine eb_g (p := hT h11 a0 = 13) (38, [.ref a0, .ref a1, .int a2, d3, d4, d5, d6], [.ref (hR h11 a0 12), .ref r12], h11) rfl g13 ?_
    refine eb_n 1 (39, [.ref a0, .ref a1, .int a2, d3, d4, d5, d6], [.int a2, .ref (hR h11 a0 12), .ref r12], h11) (rfl) ?_
    obtain ⟨g14, e⟩ := gd_some e
    refine eb_g (p := hT h11 (hR h11 a0 12) = 109 ∧ inb a2 (hL h11 (hR h11 a0 12))) (40, [.ref a0, .ref a1, .int a2, d3, d4, d5, d6], [.ref (hR h11 (hR h11 a0 12) (ix a2)), .ref r12], h11) rfl g14 ?_
    refine eb_n 1 (41, [.ref a0, .ref a1, .int a2, d3, d4, d5, d6], [.int (nI 0), .ref (hR h11 (hR h11 a0 12) (ix a2)), .ref r12], h11) (rfl) ?_
    obtain ⟨g15, e⟩ := gd_some e
    refine eb_g (p := hT h11 (hR h11 (hR h11 a0 12) (ix a2)) = 101 ∧ inb (nI 0) (hL h11 (hR h11 (hR h11 a0 12) (ix a2)))) (42, [.ref a0, .ref a1, .int a2, d3, d4, d5, d6], [.int (hI h11 (hR h11 (hR h11 a0 12) (ix a2)) (ix (nI 0))), .ref r12], h11) rfl g15 ?_
    obtain ⟨g16, e⟩ := gd_some e
    obtain ⟨h17, r18, eh17, e⟩ := bn_some e
    refine eb_cg (p := hT h11 r12 = 14) rfl g16 (f_SB_append_I_ev d (Nat.le_trans (by decide) hd) eh17) ?_
    show Eb _ 3 (45, [.ref a0, .ref a1, .int a2, d3, d4, d5, d6], [.ref r18], h17) _ _
    refine eb_n 1 (47, [.ref a0, .ref a1, .int a2, d3, d4, d5, d6], [.ref 14, .ref r18], h17) (rfl) ?_
    obtain ⟨g19, e⟩ := gd_some e
    obtain ⟨h20, r21, eh20, e⟩ := bn_some e
    refine eb_cg (p := hT h17 r18 = 14) rfl g19 (f_SB_append_s_ev d (Nat.le_trans (by decide) hd) eh20) ?_
    show Eb _ 3 (50, [.ref a0, .ref a1, .int a2, d3, d4, d5, d6], [.ref r21], h20) _ _
    refine eb_n 1 (51, [.ref a0, .ref a1, .int a2, d3, d4, d5, d6], [.ref a0, .ref r21], h20) (rfl) ?_
    obtain ⟨g22, e⟩ := gd_some e
    refine eb_g (p := hT h20 a0 = 13) (54, [.ref a0, .ref a1, .int a2, d3, d4, d5, d6], [.ref (hR h20 a0 12), .ref r21], h20) rfl g22 ?_
    refine eb_n 1 (55, [.ref a0, .ref a1, .int a2, d3, d4, d5, d6], [.int a2, .ref (hR h20 a0 12), .ref r21], h20) (rfl) ?_
    obtain ⟨g23, e⟩ := gd_some e
    refine eb_g (p := hT h20 (hR h20 a0 12) = 109 ∧ inb a2 (hL h20 (hR h20 a0 12))) (56, [.ref a0, .ref a1, .int a2, d3, d4, d5, d6], [.ref (hR h20 (hR h20 a0 12) (ix a2)), .ref r21], h20) rfl g23 ?_
    refine eb_n 1 (57, [.ref a0, .ref a1, .int a2, d3, d4, d5, d6], [.int (nI 1), .ref (hR h20 (hR h20 a0 12) (ix a2)), .ref r21], h20) (rfl) ?_
    obtain ⟨g24, e⟩ := gd_some e
    refine eb_g (p := hT h20 (hR h20 (hR h20 a0 12) (ix a2)) = 101 ∧ inb (nI 1) (hL h20 (hR h20 (hR h20 a0 12) (ix a2)))) (58, [.ref a0, .ref a1, .int a2, d3, d4, d5, d6], [.int (hI h20 (hR h20 (hR h20 a0 12) (ix a2)) (ix (nI 1))), .ref r21], h20) rfl g24 ?_
    obtain ⟨g25, e⟩ := gd_some e
    obtain ⟨h26, r27, eh26, e⟩ := bn_some e
    refine eb_cg (p := hT h20 r21 = 14) rfl g25 (f_SB_append_I_ev d (Nat.le_trans (by decide) hd) eh26) ?_
    show Eb _ 3 (61, [.ref a0, .ref a1, .int a2, d3, d4, d5, d6], [.ref r27], h26) _ _
    refine eb_n 1 (63, [.ref a0, .ref a1, .int a2, d3, d4, d5, d6], [.ref 16, .ref r27], h26) (rfl) ?_
    obtain ⟨g28, e⟩ := gd_some e
    obtain ⟨h29, r30, eh29, e⟩ := bn_some e
    refine eb_cg (p := hT h26 r27 = 14) rfl g28 (f_SB_append_s_ev d (Nat.le_trans (by decide) hd) eh29) ?_
    show Eb _ 3 (66, [.ref a0, .ref a1, .int a2, d3, d4, d5, d6], [.ref r30], h29) _ _
    refine eb_n 1 (67, [.ref a0, .ref a1, .int a2, d3, d4, d5, d6], [.ref a0, .ref r30], h29) (rfl) ?_
    obtain ⟨g31, e⟩ := gd_some e
    refine eb_g (p := hT h29 a0 = 13) (70, [.ref a0, .ref a1, .int a2, d3, d4, d5, d6], [.ref (hR h29 a0 12), .ref r30], h29) rfl g31 ?_
    refine eb_n 1 (71, [.ref a0, .ref a1, .int a2, d3, d4, d5, d6], [.int a2, .ref (hR h29 a0 12), .ref r30], h29) (rfl) ?_
    obtain ⟨g32, e⟩ := gd_some e
    refine eb_g (p := hT h29 (hR h29 a0 12) = 109 ∧ inb a2 (hL h29 (hR h29 a0 12))) (72, [.ref a0, .ref a1, .int a2, d3, d4, d5, d6], [.ref (hR h29 (hR h29 a0 12) (ix a2)), .ref r30], h29) rfl g32 ?_
    refine eb_n 1 (73, [.ref a0, .ref a1, .int a2, d3, d4, d5, d6], [.int (nI 2), .ref (hR h29 (hR h29 a0 12) (ix a2)), .ref r30], h29) (rfl) ?_
    obtain ⟨g33, e⟩ := gd_some e
    refine eb_g (p := hT h29 (hR h29 (hR h29 a0 12) (ix a2)) = 101 ∧ inb (nI 2) (hL h29 (hR h29 (hR h29 a0 12) (ix a2)))) (74, [.ref a0, .ref a1, .int a2, d3, d4, d5, d6], [.int (hI h29 (hR h29 (hR h29 a0 12) (ix a2)) (ix (nI 2))), .ref r30], h29) rfl g33 ?_
    obtain ⟨g34, e⟩ := gd_some e
    obtain ⟨h35, r36, eh35, e⟩ := bn_some e
    refine eb_cg (p := hT h29 r30 = 14) rfl g34 (f_SB_append_I_ev d (Nat.le_trans (by decide) hd) eh35) ?_
    show Eb _ 3 (77, [.ref a0, .ref a1, .int a2, d3, d4, d5, d6], [.ref r36], h35) _ _
    refine eb_n 1 (79, [.ref a0, .ref a1, .int a2, d3, d4, d5, d6], [.ref 18, .ref r36], h35) (rfl) ?_
    obtain ⟨g37, e⟩ := gd_some e
    obtain ⟨h38, r39, eh38, e⟩ := bn_some e
    refine eb_cg (p := hT h35 r36 = 14) rfl g37 (f_SB_append_s_ev d (Nat.le_trans (by decide) hd) eh38) ?_
    show Eb _ 3 (82, [.ref a0, .ref a1, .int a2, d3, d4, d5, d6], [.ref r39], h38) _ _
    obtain ⟨x40, hx40, e⟩ := lq_some e
    refine eb_n 2 (86, [.ref a0, .ref a1, .int x40, d3, d4, d5, d6], [], h38) (by subst hx40; rfl) ?_
    refine eb_n 1 (10, [.ref a0, .ref a1, .int x40, d3, d4, d5, d6], [], h38) (rfl) ?_
    exact hk10 _ _ _ _ _ _ _ _ e
set_option maxRecDepth 100000 in
set_option maxHeartbeats 4000000 in
theorem f_Sim_text_l10_ev {h' : AH} {r : Nat} (d : Nat) (hd : 7 ≤ d)  : ∀ (n : Nat) (h : AH) (a0 : Nat) (a1 : Nat) (a2 : Int32)  (d3 : Value) (d4 : Value) (d5 : Value) (d6 : Value) (_ : f_Sim_text_l10  n h a0 a1 a2 = some (h', r)), Eb (Ev tb mL d) 3 (10, [.ref a0, .ref a1, .int a2, d3, d4, d5, d6], [], h) h' (some (.ref r)) := by
  intro n
  induction n with
  | zero => intro h a0 a1 a2 d3 d4 d5 d6 e; exact nomatch e
  | succ n ih =>
    intro h a0 a1 a2 d3 d4 d5 d6 e
    exact f_Sim_text_b10_ev d hd _ (fun h a0 a1 a2 d3 d4 d5 d6 e => ih h a0 a1 a2 d3 d4 d5 d6 e) h a0 a1 a2 d3 d4 d5 d6 e
set_option maxRecDepth 100000 in
set_option maxHeartbeats 4000000 in
theorem f_Sim_text_ev (d0 : Nat) (hd0 : 8 ≤ d0) {h' : AH} {r : Nat} {h : AH} {a0 : Nat} (e : f_Sim_text h a0 = some (h', r)) : Ev tb mL d0 3 [.ref a0] h h' (some (.ref r)) := by
  obtain ⟨d, rfl⟩ : ∃ d, d0 = d + 1 := ⟨d0 - 1, by omega⟩
  have hd : 7 ≤ d := by omega
  refine ⟨Nat.le_of_ble_eq_true rfl, ?_⟩
  show Eb (Ev tb mL d) 3 (0, [.ref a0, .retAddr 0, .retAddr 0, .retAddr 0, .retAddr 0, .retAddr 0, .retAddr 0], [], h) h' (some (.ref r))
  unfold f_Sim_text at e
  obtain ⟨h1, eh1, e⟩ := lq_some e
  refine eb_n 1 (3, [.ref a0, .retAddr 0, .retAddr 0, .retAddr 0, .retAddr 0, .retAddr 0, .retAddr 0], [.ref (hN h)], h1) (by rw [eh1]; rfl) ?_
  refine eb_n 1 (4, [.ref a0, .retAddr 0, .retAddr 0, .retAddr 0, .retAddr 0, .retAddr 0, .retAddr 0], [.ref (hN h), .ref (hN h)], h1) (rfl) ?_
  obtain ⟨g2, e⟩ := gd_some e
  obtain ⟨h3, eh3, e⟩ := bv_some e
  refine eb_cg (p := hT h1 (hN h) = 14) rfl g2 (f_SB_init_ev d (Nat.le_trans (by decide) hd) eh3) ?_
  show Eb _ 3 (7, [.ref a0, .retAddr 0, .retAddr 0, .retAddr 0, .retAddr 0, .retAddr 0, .retAddr 0], [.ref (hN h)], h3) _ _
  obtain ⟨x4, hx4, e⟩ := lq_some e
  refine eb_n 1 (8, [.ref a0, .ref x4, .retAddr 0, .retAddr 0, .retAddr 0, .retAddr 0, .retAddr 0], [], h3) (by subst hx4; rfl) ?_
  refine eb_n 2 (10, [.ref a0, .ref x4, .int (nI 0), .retAddr 0, .retAddr 0, .retAddr 0, .retAddr 0], [], h3) (rfl) ?_
  exact f_Sim_text_l10_ev d hd   FU _ _ _ _ _ _ _ _ e
set_option maxRecDepth 100000 in
set_option maxHeartbeats 4000000 in
theorem f_QuillBoats_append_b49_ev {h' : AH} (d : Nat) (hd : 0 ≤ d) (k3 : AH → Nat → Int32 → Int32 → Option AH) (hk3 : ∀ (h : AH) (a0 : Nat) (a1 : Int32) (a2 : Int32)  , k3 h a0 a1 a2 = some h' → Eb (Ev tb mL d) 94 (3, [.ref a0, .int a1, .int a2], [], h) h' none)  (h : AH) (a0 : Nat) (a1 : Int32) (a2 : Int32)   (e : f_QuillBoats_append_b49 k3 h a0 a1 a2 = some h') : Eb (Ev tb mL d) 94 (49, [.ref a0, .int a1, .int a2], [], h) h' none := by
  unfold f_QuillBoats_append_b49 at e
  obtain ⟨x1, hx1, e⟩ := lq_some e
  refine eb_n 1 (52, [.ref a0, .int a1, .int x1], [], h) (by subst hx1; rfl) ?_
  refine eb_n 1 (3, [.ref a0, .int a1, .int x1], [], h) (rfl) ?_
  exact hk3 _ _ _ _  e
set_option maxRecDepth 100000 in
set_option maxHeartbeats 4000000 in
theorem f_QuillBoats_append_b3_ev {h' : AH} (d : Nat) (hd : 0 ≤ d) (k3 : AH → Nat → Int32 → Int32 → Option AH) (hk3 : ∀ (h : AH) (a0 : Nat) (a1 : Int32) (a2 : Int32)  , k3 h a0 a1 a2 = some h' → Eb (Ev tb mL d) 94 (3, [.ref a0, .int a1, .int a2], [], h) h' none)  (h : AH) (a0 : Nat) (a1 : Int32) (a2 : Int32)   (e : f_QuillBoats_append_b3 k3 h a0 a1 a2 = some h') : Eb (Ev tb mL d) 94 (3, [.ref a0, .int a1, .int a2], [], h) h' none := by
  unfold f_QuillBoats_append_b3 at e
  refine eb_n 1 (4, [.ref a0, .int a1, .int a2], [.int a2], h) (rfl) ?_
  refine eb_b (c := a2 < 0) (55, [.ref a0, .int a1, .int a2], [], h) (7, [.ref a0, .int a1, .int a2], [], h) rfl (fun c1 => ?_) (fun c1 => ?_)
  · replace e := ite_t c1 e
    rw [sv_inj e]
    exact eb_r rfl
  · replace e := ite_f c1 e
    refine eb_n 1 (8, [.ref a0, .int a1, .int a2], [.ref a0], h) (rfl) ?_
    obtain ⟨g2, e⟩ := gd_some e
    refine eb_g (p := hT h a0 = 1) (11, [.ref a0, .int a1, .int a2], [.int (hI h a0 1)], h) rfl g2 ?_
    refine eb_b (c := (hI h a0 1) < 0) (49, [.ref a0, .int a1, .int a2], [], h) (14, [.ref a0, .int a1, .int a2], [], h) rfl (fun c3 => ?_) (fun c3 => ?_)
    · replace e := ite_t c3 e
      exact f_QuillBoats_append_b49_ev d hd k3 hk3 _ _ _ _  e
    · replace e := ite_f c3 e
      refine eb_n 1 (15, [.ref a0, .int a1, .int a2], [.ref a0], h) (rfl) ?_
      refine eb_g (p := hT h a0 = 1) (18, [.ref a0, .int a1, .int a2], [.int (hI h a0 1)], h) rfl g2 ?_
      refine eb_n 1 (19, [.ref a0, .int a1, .int a2], [.ref a0, .int (hI h a0 1)], h) (rfl) ?_
      refine eb_g (p := hT h a0 = 1) (22, [.ref a0, .int a1, .int a2], [.ref (hR h a0 0), .int (hI h a0 1)], h) rfl g2 ?_
      obtain ⟨g4, e⟩ := gd_some e
      refine eb_g (p := hT h (hR h a0 0) = 102) (23, [.ref a0, .int a1, .int a2], [.int (nI (hL h (hR h a0 0))), .int (hI h a0 1)], h) rfl g4 ?_
      refine eb_b (c := (nI (hL h (hR h a0 0))) ≤ (hI h a0 1)) (49, [.ref a0, .int a1, .int a2], [], h) (26, [.ref a0, .int a1, .int a2], [], h) rfl (fun c5 => ?_) (fun c5 => ?_)
      · replace e := ite_t c5 e
        exact f_QuillBoats_append_b49_ev d hd k3 hk3 _ _ _ _  e
      · replace e := ite_f c5 e
        refine eb_n 1 (27, [.ref a0, .int a1, .int a2], [.ref a0], h) (rfl) ?_
        refine eb_g (p := hT h a0 = 1) (30, [.ref a0, .int a1, .int a2], [.ref (hR h a0 0)], h) rfl g2 ?_
        refine eb_n 1 (31, [.ref a0, .int a1, .int a2], [.ref a0, .ref (hR h a0 0)], h) (rfl) ?_
        refine eb_g (p := hT h a0 = 1) (34, [.ref a0, .int a1, .int a2], [.int (hI h a0 1), .ref (hR h a0 0)], h) rfl g2 ?_
        refine eb_n 4 (38, [.ref a0, .int a1, .int a2], [.int (Int8.toInt32 (Int32.toInt8 (a1 >>> (a2 &&& 31)))), .int (hI h a0 1), .ref (hR h a0 0)], h) (rfl) ?_
        obtain ⟨g6, e⟩ := gd_some e
        obtain ⟨h7, eh7, e⟩ := lq_some e
        refine eb_g (p := hT h (hR h a0 0) = 102 ∧ KK ≤ (hR h a0 0) ∧ inb (hI h a0 1) (hL h (hR h a0 0))) (39, [.ref a0, .int a1, .int a2], [], h7) (by rw [eh7]; rfl) g6 ?_
        refine eb_n 2 (41, [.ref a0, .int a1, .int a2], [.ref a0, .ref a0], h7) (rfl) ?_
        obtain ⟨g8, e⟩ := gd_some e
        refine eb_g (p := hT h7 a0 = 1) (44, [.ref a0, .int a1, .int a2], [.int (hI h7 a0 1), .ref a0], h7) rfl g8 ?_
        refine eb_n 2 (46, [.ref a0, .int a1, .int a2], [.int ((hI h7 a0 1) + (nI 1)), .ref a0], h7) (rfl) ?_
        obtain ⟨h9, eh9, e⟩ := lq_some e
        refine eb_g (p := hT h7 a0 = 1) (49, [.ref a0, .int a1, .int a2], [], h9) (by rw [eh9]; rfl) g8 ?_
        exact f_QuillBoats_append_b49_ev d hd k3 hk3 _ _ _ _  e
set_option maxRecDepth 100000 in
set_option maxHeartbeats 4000000 in
theorem f_QuillBoats_append_l3_ev {h' : AH} (d : Nat) (hd : 0 ≤ d)  : ∀ (n : Nat) (h : AH) (a0 : Nat) (a1 : Int32) (a2 : Int32)   (_ : f_QuillBoats_append_l3  n h a0 a1 a2 = some h'), Eb (Ev tb mL d) 94 (3, [.ref a0, .int a1, .int a2], [], h) h' none := by
  intro n
  induction n with
  | zero => intro h a0 a1 a2  e; exact nomatch e
  | succ n ih =>
    intro h a0 a1 a2  e
    exact f_QuillBoats_append_b3_ev d hd _ (fun h a0 a1 a2  e => ih h a0 a1 a2  e) h a0 a1 a2  e
set_option maxRecDepth 100000 in
set_option maxHeartbeats 4000000 in
theorem f_QuillBoats_append_ev (d0 : Nat) (hd0 : 1 ≤ d0) {h' : AH} {h : AH} {a0 : Nat} {a1 : Int32} (e : f_QuillBoats_append h a0 a1 = some h') : Ev tb mL d0 94 [.ref a0, .int a1] h h' none := by
  obtain ⟨d, rfl⟩ : ∃ d, d0 = d + 1 := ⟨d0 - 1, by omega⟩
  have hd : 0 ≤ d := by omega
  refine ⟨Nat.le_of_ble_eq_true rfl, ?_⟩
  show Eb (Ev tb mL d) 94 (0, [.ref a0, .int a1, .retAddr 0], [], h) h' none
  unfold f_QuillBoats_append at e
  refine eb_n 2 (3, [.ref a0, .int a1, .int (nI 24)], [], h) (rfl) ?_
  exact f_QuillBoats_append_l3_ev d hd   FU _ _ _ _  e
set_option maxRecDepth 100000 in
set_option maxHeartbeats 4000000 in
theorem f_QuillBoats_feed_ev (d0 : Nat) (hd0 : 2 ≤ d0) {h' : AH} {r : Int32} {h : AH} {a0 : Nat} {a1 : Int32} {a2 : Int32} {a3 : Int32} {a4 : Int32} {a5 : Int32} (e : f_QuillBoats_feed h a0 a1 a2 a3 a4 a5 = some (h', r)) : Ev tb mL d0 36 [.ref a0, .int a1, .int a2, .int a3, .int a4, .int a5] h h' (some (.int r)) := by
  obtain ⟨d, rfl⟩ : ∃ d, d0 = d + 1 := ⟨d0 - 1, by omega⟩
  have hd : 1 ≤ d := by omega
  refine ⟨Nat.le_of_ble_eq_true rfl, ?_⟩
  show Eb (Ev tb mL d) 36 (0, [.ref a0, .int a1, .int a2, .int a3, .int a4, .int a5], [], h) h' (some (.int r))
  unfold f_QuillBoats_feed at e
  refine eb_n 1 (1, [.ref a0, .int a1, .int a2, .int a3, .int a4, .int a5], [.ref a0], h) (rfl) ?_
  obtain ⟨g1, e⟩ := gd_some e
  refine eb_g (p := hT h a0 = 1) (4, [.ref a0, .int a1, .int a2, .int a3, .int a4, .int a5], [.int (hI h a0 1)], h) rfl g1 ?_
  refine eb_n 3 (10, [.ref a0, .int a1, .int a2, .int a3, .int a4, .int a5], [.int (nI 2000), .int ((hI h a0 1) + (nI 20))], h) (rfl) ?_
  refine eb_b (c := ((hI h a0 1) + (nI 20)) ≤ (nI 2000)) (23, [.ref a0, .int a1, .int a2, .int a3, .int a4, .int a5], [], h) (13, [.ref a0, .int a1, .int a2, .int a3, .int a4, .int a5], [], h) rfl (fun c2 => ?_) (fun c2 => ?_)
  · replace e := ite_t c2 e
    refine eb_n 2 (25, [.ref a0, .int a1, .int a2, .int a3, .int a4, .int a5], [.int a1, .ref a0], h) (rfl) ?_
    obtain ⟨h3, eh3, e⟩ := bv_some e
    refine eb_cg (p := hT h a0 = 1) rfl g1 (f_QuillBoats_append_ev d (Nat.le_trans (by decide) hd) eh3) ?_
    show Eb _ 36 (28, [.ref a0, .int a1, .int a2, .int a3, .int a4, .int a5], [], h3) _ _
    refine eb_n 2 (30, [.ref a0, .int a1, .int a2, .int a3, .int a4, .int a5], [.int a2, .ref a0], h3) (rfl) ?_
    obtain ⟨g4, e⟩ := gd_some e
    obtain ⟨h5, eh5, e⟩ := bv_some e
    refine eb_cg (p := hT h3 a0 = 1) rfl g4 (f_QuillBoats_append_ev d (Nat.le_trans (by decide) hd) eh5) ?_
    show Eb _ 36 (33, [.ref a0, .int a1, .int a2, .int a3, .int a4, .int a5], [], h5) _ _
    refine eb_n 2 (35, [.ref a0, .int a1, .int a2, .int a3, .int a4, .int a5], [.int a3, .ref a0], h5) (rfl) ?_
    obtain ⟨g6, e⟩ := gd_some e
    obtain ⟨h7, eh7, e⟩ := bv_some e
    refine eb_cg (p := hT h5 a0 = 1) rfl g6 (f_QuillBoats_append_ev d (Nat.le_trans (by decide) hd) eh7) ?_
    show Eb _ 36 (38, [.ref a0, .int a1, .int a2, .int a3, .int a4, .int a5], [], h7) _ _
    refine eb_n 2 (41, [.ref a0, .int a1, .int a2, .int a3, .int a4, .int a5], [.int a4, .ref a0], h7) (rfl) ?_
    obtain ⟨g8, e⟩ := gd_some e
    obtain ⟨h9, eh9, e⟩ := bv_some e
    refine eb_cg (p := hT h7 a0 = 1) rfl g8 (f_QuillBoats_append_ev d (Nat.le_trans (by decide) hd) eh9) ?_
    show Eb _ 36 (44, [.ref a0, .int a1, .int a2, .int a3, .int a4, .int a5], [], h9) _ _
    refine eb_n 2 (47, [.ref a0, .int a1, .int a2, .int a3, .int a4, .int a5], [.int a5, .ref a0], h9) (rfl) ?_
    obtain ⟨g10, e⟩ := gd_some e
    obtain ⟨h11, eh11, e⟩ := bv_some e
    refine eb_cg (p := hT h9 a0 = 1) rfl g10 (f_QuillBoats_append_ev d (Nat.le_trans (by decide) hd) eh11) ?_
    show Eb _ 36 (50, [.ref a0, .int a1, .int a2, .int a3, .int a4, .int a5], [], h11) _ _
    refine eb_n 1 (51, [.ref a0, .int a1, .int a2, .int a3, .int a4, .int a5], [.ref a0], h11) (rfl) ?_
    obtain ⟨g12, e⟩ := gd_some e
    refine eb_g (p := hT h11 a0 = 1) (54, [.ref a0, .int a1, .int a2, .int a3, .int a4, .int a5], [.int (hI h11 a0 1)], h11) rfl g12 ?_
    rw [(sp_inj e).1, (sp_inj e).2]
    exact eb_rg (p := nrm 0 (hI h11 a0 1)) rfl (nrm_0 _)
  · replace e := ite_f c2 e
    exact nomatch e
set_option maxRecDepth 100000 in
set_option maxHeartbeats 4000000 in
theorem f_QuillBoats_trim_b12_ev {h' : AH} {r : Int32} (d : Nat) (hd : 0 ≤ d)  (h : AH)   (d0 : Value) (d1 : Value) (e : f_QuillBoats_trim_b12  h  = some (h', r)) : Eb (Ev tb mL d) 37 (12, [d0, d1], [], h) h' (some (.int r)) := by
  unfold f_QuillBoats_trim_b12 at e
  exact nomatch e
set_option maxRecDepth 100000 in
set_option maxHeartbeats 4000000 in
theorem f_QuillBoats_trim_ev (d0 : Nat) (hd0 : 1 ≤ d0) {h' : AH} {r : Int32} {h : AH} {a0 : Nat} {a1 : Int32} (e : f_QuillBoats_trim h a0 a1 = some (h', r)) : Ev tb mL d0 37 [.ref a0, .int a1] h h' (some (.int r)) := by
  obtain ⟨d, rfl⟩ : ∃ d, d0 = d + 1 := ⟨d0 - 1, by omega⟩
  have hd : 0 ≤ d := by omega
  refine ⟨Nat.le_of_ble_eq_true rfl, ?_⟩
  show Eb (Ev tb mL d) 37 (0, [.ref a0, .int a1], [], h) h' (some (.int r))
  unfold f_QuillBoats_trim at e
  refine eb_n 1 (1, [.ref a0, .int a1], [.int a1], h) (rfl) ?_
  refine eb_b (c := a1 < 0) (12, [.ref a0, .int a1], [], h) (4, [.ref a0, .int a1], [], h) rfl (fun c1 => ?_) (fun c1 => ?_)
  · replace e := ite_t c1 e
    exact f_QuillBoats_trim_b12_ev d hd   _  _ _ e
  · replace e := ite_f c1 e
    refine eb_n 2 (6, [.ref a0, .int a1], [.ref a0, .int a1], h) (rfl) ?_
    obtain ⟨g2, e⟩ := gd_some e
    refine eb_g (p := hT h a0 = 1) (9, [.ref a0, .int a1], [.int (hI h a0 1), .int a1], h) rfl g2 ?_
    refine eb_b (c := a1 ≤ (hI h a0 1)) (22, [.ref a0, .int a1], [], h) (12, [.ref a0, .int a1], [], h) rfl (fun c3 => ?_) (fun c3 => ?_)
    · replace e := ite_t c3 e
      refine eb_n 2 (24, [.ref a0, .int a1], [.int a1, .ref a0], h) (rfl) ?_
      obtain ⟨h4, eh4, e⟩ := lq_some e
      refine eb_g (p := hT h a0 = 1) (27, [.ref a0, .int a1], [], h4) (by rw [eh4]; rfl) g2 ?_
      refine eb_n 1 (28, [.ref a0, .int a1], [.int a1], h4) (rfl) ?_
      rw [(sp_inj e).1, (sp_inj e).2]
      exact eb_rg (p := nrm 0 a1) rfl (nrm_0 _)
    · replace e := ite_f c3 e
      exact f_QuillBoats_trim_b12_ev d hd   _  _ _ e
set_option maxRecDepth 100000 in
set_option maxHeartbeats 4000000 in
theorem f_Tokens_behindBlanks_b35_ev {h' : AH} {r : Int32} (d : Nat) (hd : 1 ≤ d) (k2 : AH → Nat → Int32 → Int32 → Int32 → Option (AH × Int32)) (hk2 : ∀ (h : AH) (a0 : Nat) (a1 : Int32) (a2 : Int32) (a3 : Int32)  , k2 h a0 a1 a2 a3 = some (h', r) → Eb (Ev tb mL d) 128 (2, [.ref a0, .int a1, .int a2, .int a3], [], h) h' (some (.int r)))  (h : AH) (a0 : Nat) (a1 : Int32) (a2 : Int32) (a3 : Int32)   (e : f_Tokens_behindBlanks_b35 k2 h a0 a1 a2 a3 = some (h', r)) : Eb (Ev tb mL d) 128 (35, [.ref a0, .int a1, .int a2, .int a3], [], h) h' (some (.int r)) := by
  unfold f_Tokens_behindBlanks_b35 at e
  obtain ⟨x1, hx1, e⟩ := lq_some e
  refine eb_n 1 (38, [.ref a0, .int a1, .int a2, .int x1], [], h) (by subst hx1; rfl) ?_
  refine eb_n 1 (2, [.ref a0, .int a1, .int a2, .int x1], [], h) (rfl) ?_
  exact hk2 _ _ _ _ _  e
set_option maxRecDepth 100000 in
set_option maxHeartbeats 4000000 in
theorem f_Tokens_behindBlanks_b2_ev {h' : AH} {r : Int32} (d : Nat) (hd : 1 ≤ d) (k2 : AH → Nat → Int32 → Int32 → Int32 → Option (AH × Int32)) (hk2 : ∀ (h : AH) (a0 : Nat) (a1 : Int32) (a2 : Int32) (a3 : Int32)  , k2 h a0 a1 a2 a3 = some (h', r) → Eb (Ev tb mL d) 128 (2, [.ref a0, .int a1, .int a2, .int a3], [], h) h' (some (.int r)))  (h : AH) (a0 : Nat) (a1 : Int32) (a2 : Int32) (a3 : Int32)   (e : f_Tokens_behindBlanks_b2 k2 h a0 a1 a2 a3 = some (h', r)) : Eb (Ev tb mL d) 128 (2, [.ref a0, .int a1, .int a2, .int a3], [], h) h' (some (.int r)) := by
  unfold f_Tokens_behindBlanks_b2 at e
  refine eb_n 2 (4, [.ref a0, .int a1, .int a2, .int a3], [.int a1, .int a3], h) (rfl) ?_
  refine eb_b (c := a1 ≤ a3) (41, [.ref a0, .int a1, .int a2, .int a3], [], h) (7, [.ref a0, .int a1, .int a2, .int a3], [], h) rfl (fun c1 => ?_) (fun c1 => ?_)
  · replace e := ite_t c1 e
    refine eb_n 2 (43, [.ref a0, .int a1, .int a2, .int a3], [.int a1, .int a2], h) (rfl) ?_
    obtain ⟨h2, r3, eh2, e⟩ := bn_some e
    refine eb_c rfl (f_Math_max_ev d (Nat.le_trans (by decide) hd) eh2) ?_
    show Eb _ 128 (46, [.ref a0, .int a1, .int a2, .int a3], [.int r3], h2) _ _
    rw [(sp_inj e).1, (sp_inj e).2]
    exact eb_rg (p := nrm 0 r3) rfl (nrm_0 _)
  · replace e := ite_f c1 e
    refine eb_n 1 (8, [.ref a0, .int a1, .int a2, .int a3], [.int a3], h) (rfl) ?_
    refine eb_b (c := a3 < 0) (33, [.ref a0, .int a1, .int a2, .int a3], [], h) (11, [.ref a0, .int a1, .int a2, .int a3], [], h) rfl (fun c4 => ?_) (fun c4 => ?_)
    · replace e := ite_t c4 e
      refine eb_n 1 (34, [.ref a0, .int a1, .int a2, .int a3], [.int a3], h) (rfl) ?_
      rw [(sp_inj e).1, (sp_inj e).2]
      exact eb_rg (p := nrm 0 a3) rfl (nrm_0 _)
    · replace e := ite_f c4 e
      refine eb_n 2 (13, [.ref a0, .int a1, .int a2, .int a3], [.ref a0, .int a3], h) (rfl) ?_
      obtain ⟨g5, e⟩ := gd_some e
      refine eb_g (p := hT h a0 = 102) (14, [.ref a0, .int a1, .int a2, .int a3], [.int (nI (hL h a0)), .int a3], h) rfl g5 ?_
      refine eb_b (c := (nI (hL h a0)) ≤ a3) (33, [.ref a0, .int a1, .int a2, .int a3], [], h) (17, [.ref a0, .int a1, .int a2, .int a3], [], h) rfl (fun c6 => ?_) (fun c6 => ?_)
      · replace e := ite_t c6 e
        refine eb_n 1 (34, [.ref a0, .int a1, .int a2, .int a3], [.int a3], h) (rfl) ?_
        rw [(sp_inj e).1, (sp_inj e).2]
        exact eb_rg (p := nrm 0 a3) rfl (nrm_0 _)
      · replace e := ite_f c6 e
        refine eb_n 2 (19, [.ref a0, .int a1, .int a2, .int a3], [.int a3, .ref a0], h) (rfl) ?_
        obtain ⟨g7, e⟩ := gd_some e
        refine eb_g (p := hT h a0 = 102 ∧ inb a3 (hL h a0)) (20, [.ref a0, .int a1, .int a2, .int a3], [.int (hI h a0 (ix a3))], h) rfl g7 ?_
        refine eb_n 1 (22, [.ref a0, .int a1, .int a2, .int a3], [.int (nI 32), .int (hI h a0 (ix a3))], h) (rfl) ?_
        refine eb_b (c := (hI h a0 (ix a3)) = (nI 32)) (35, [.ref a0, .int a1, .int a2, .int a3], [], h) (25, [.ref a0, .int a1, .int a2, .int a3], [], h) rfl (fun c8 => ?_) (fun c8 => ?_)
        · replace e := ite_t c8 e
          exact f_Tokens_behindBlanks_b35_ev d hd k2 hk2 _ _ _ _ _  e
        · replace e := ite_f c8 e
          refine eb_n 2 (27, [.ref a0, .int a1, .int a2, .int a3], [.int a3, .ref a0], h) (rfl) ?_
          refine eb_g (p := hT h a0 = 102 ∧ inb a3 (hL h a0)) (28, [.ref a0, .int a1, .int a2, .int a3], [.int (hI h a0 (ix a3))], h) rfl g7 ?_
          refine eb_n 1 (30, [.ref a0, .int a1, .int a2, .int a3], [.int (nI 10), .int (hI h a0 (ix a3))], h) (rfl) ?_
          refine eb_b (c := (hI h a0 (ix a3)) = (nI 10)) (35, [.ref a0, .int a1, .int a2, .int a3], [], h) (33, [.ref a0, .int a1, .int a2, .int a3], [], h) rfl (fun c9 => ?_) (fun c9 => ?_)
          · replace e := ite_t c9 e
            exact f_Tokens_behindBlanks_b35_ev d hd k2 hk2 _ _ _ _ _  e
          · replace e := ite_f c9 e
            refine eb_n 1 (34, [.ref a0, .int a1, .int a2, .int a3], [.int a3], h) (rfl) ?_
            rw [(sp_inj e).1, (sp_inj e).2]
            exact eb_rg (p := nrm 0 a3) rfl (nrm_0 _)
set_option maxRecDepth 100000 in
set_option maxHeartbeats 4000000 in
theorem f_Tokens_behindBlanks_l2_ev {h' : AH} {r : Int32} (d : Nat) (hd : 1 ≤ d)  : ∀ (n : Nat) (h : AH) (a0 : Nat) (a1 : Int32) (a2 : Int32) (a3 : Int32)   (_ : f_Tokens_behindBlanks_l2  n h a0 a1 a2 a3 = some (h', r)), Eb (Ev tb mL d) 128 (2, [.ref a0, .int a1, .int a2, .int a3], [], h) h' (some (.int r)) := by
  intro n
  induction n with
  | zero => intro h a0 a1 a2 a3  e; exact nomatch e
  | succ n ih =>
    intro h a0 a1 a2 a3  e
    exact f_Tokens_behindBlanks_b2_ev d hd _ (fun h a0 a1 a2 a3  e => ih h a0 a1 a2 a3  e) h a0 a1 a2 a3  e
set_option maxRecDepth 100000 in
set_option maxHeartbeats 4000000 in
theorem f_Tokens_behindBlanks_ev (d0 : Nat) (hd0 : 2 ≤ d0) {h' : AH} {r : Int32} {h : AH} {a0 : Nat} {a1 : Int32} {a2 : Int32} (e : f_Tokens_behindBlanks h a0 a1 a2 = some (h', r)) : Ev tb mL d0 128 [.ref a0, .int a1, .int a2] h h' (some (.int r)) := by
  obtain ⟨d, rfl⟩ : ∃ d, d0 = d + 1 := ⟨d0 - 1, by omega⟩
  have hd : 1 ≤ d := by omega
  refine ⟨Nat.le_of_ble_eq_true rfl, ?_⟩
  show Eb (Ev tb mL d) 128 (0, [.ref a0, .int a1, .int a2, .retAddr 0], [], h) h' (some (.int r))
  unfold f_Tokens_behindBlanks at e
  refine eb_n 2 (2, [.ref a0, .int a1, .int a2, .int a2], [], h) (rfl) ?_
  exact f_Tokens_behindBlanks_l2_ev d hd   FU _ _ _ _ _  e
set_option maxRecDepth 100000 in
set_option maxHeartbeats 4000000 in
theorem f_Tokens_signAt_ev (d0 : Nat) (hd0 : 1 ≤ d0) {h' : AH} {r : Int32} {h : AH} {a0 : Nat} {a1 : Int32} {a2 : Int32} (e : f_Tokens_signAt h a0 a1 a2 = some (h', r)) : Ev tb mL d0 160 [.ref a0, .int a1, .int a2] h h' (some (.int r)) := by
  obtain ⟨d, rfl⟩ : ∃ d, d0 = d + 1 := ⟨d0 - 1, by omega⟩
  have hd : 0 ≤ d := by omega
  refine ⟨Nat.le_of_ble_eq_true rfl, ?_⟩
  show Eb (Ev tb mL d) 160 (0, [.ref a0, .int a1, .int a2], [], h) h' (some (.int r))
  unfold f_Tokens_signAt at e
  refine eb_n 1 (1, [.ref a0, .int a1, .int a2], [.int a2], h) (rfl) ?_
  refine eb_b (c := a2 < 0) (25, [.ref a0, .int a1, .int a2], [], h) (4, [.ref a0, .int a1, .int a2], [], h) rfl (fun c1 => ?_) (fun c1 => ?_)
  · replace e := ite_t c1 e
    refine eb_n 1 (26, [.ref a0, .int a1, .int a2], [.int (nI 0)], h) (rfl) ?_
    rw [(sp_inj e).1, (sp_inj e).2]
    exact eb_rg (p := nrm 0 (nI 0)) rfl (nrm_0 _)
  · replace e := ite_f c1 e
    refine eb_n 2 (6, [.ref a0, .int a1, .int a2], [.int a1, .int a2], h) (rfl) ?_
    refine eb_b (c := a1 ≤ a2) (25, [.ref a0, .int a1, .int a2], [], h) (9, [.ref a0, .int a1, .int a2], [], h) rfl (fun c2 => ?_) (fun c2 => ?_)
    · replace e := ite_t c2 e
      refine eb_n 1 (26, [.ref a0, .int a1, .int a2], [.int (nI 0)], h) (rfl) ?_
      rw [(sp_inj e).1, (sp_inj e).2]
      exact eb_rg (p := nrm 0 (nI 0)) rfl (nrm_0 _)
    · replace e := ite_f c2 e
      refine eb_n 2 (11, [.ref a0, .int a1, .int a2], [.ref a0, .int a2], h) (rfl) ?_
      obtain ⟨g3, e⟩ := gd_some e
      refine eb_g (p := hT h a0 = 102) (12, [.ref a0, .int a1, .int a2], [.int (nI (hL h a0)), .int a2], h) rfl g3 ?_
      refine eb_b (c := (nI (hL h a0)) ≤ a2) (25, [.ref a0, .int a1, .int a2], [], h) (15, [.ref a0, .int a1, .int a2], [], h) rfl (fun c4 => ?_) (fun c4 => ?_)
      · replace e := ite_t c4 e
        refine eb_n 1 (26, [.ref a0, .int a1, .int a2], [.int (nI 0)], h) (rfl) ?_
        rw [(sp_inj e).1, (sp_inj e).2]
        exact eb_rg (p := nrm 0 (nI 0)) rfl (nrm_0 _)
      · replace e := ite_f c4 e
        refine eb_n 2 (17, [.ref a0, .int a1, .int a2], [.int a2, .ref a0], h) (rfl) ?_
        obtain ⟨g5, e⟩ := gd_some e
        refine eb_g (p := hT h a0 = 102 ∧ inb a2 (hL h a0)) (18, [.ref a0, .int a1, .int a2], [.int (hI h a0 (ix a2))], h) rfl g5 ?_
        refine eb_n 3 (26, [.ref a0, .int a1, .int a2], [.int ((hI h a0 (ix a2)) &&& (nI 255))], h) (rfl) ?_
        rw [(sp_inj e).1, (sp_inj e).2]
        exact eb_rg (p := nrm 0 ((hI h a0 (ix a2)) &&& (nI 255))) rfl (nrm_0 _)
set_option maxRecDepth 100000 in
set_option maxHeartbeats 4000000 in
theorem f_Tokens_put_ev (d0 : Nat) (hd0 : 1 ≤ d0) {h' : AH} {h : AH} {a0 : Nat} {a1 : Int32} {a2 : Int32} (e : f_Tokens_put h a0 a1 a2 = some h') : Ev tb mL d0 161 [.ref a0, .int a1, .int a2] h h' none := by
  obtain ⟨d, rfl⟩ : ∃ d, d0 = d + 1 := ⟨d0 - 1, by omega⟩
  have hd : 0 ≤ d := by omega
  refine ⟨Nat.le_of_ble_eq_true rfl, ?_⟩
  show Eb (Ev tb mL d) 161 (0, [.ref a0, .int a1, .int a2], [], h) h' none
  unfold f_Tokens_put at e
  refine eb_n 1 (1, [.ref a0, .int a1, .int a2], [.int a1], h) (rfl) ?_
  refine eb_b (c := a1 < 0) (20, [.ref a0, .int a1, .int a2], [], h) (4, [.ref a0, .int a1, .int a2], [], h) rfl (fun c1 => ?_) (fun c1 => ?_)
  · replace e := ite_t c1 e
    rw [sv_inj e]
    exact eb_r rfl
  · replace e := ite_f c1 e
    refine eb_n 2 (6, [.ref a0, .int a1, .int a2], [.ref a0, .int a1], h) (rfl) ?_
    obtain ⟨g2, e⟩ := gd_some e
    refine eb_g (p := hT h a0 = 11) (9, [.ref a0, .int a1, .int a2], [.ref (hR h a0 1), .int a1], h) rfl g2 ?_
    obtain ⟨g3, e⟩ := gd_some e
    refine eb_g (p := hT h (hR h a0 1) = 101) (10, [.ref a0, .int a1, .int a2], [.int (nI (hL h (hR h a0 1))), .int a1], h) rfl g3 ?_
    refine eb_b (c := (nI (hL h (hR h a0 1))) ≤ a1) (20, [.ref a0, .int a1, .int a2], [], h) (13, [.ref a0, .int a1, .int a2], [], h) rfl (fun c4 => ?_) (fun c4 => ?_)
    · replace e := ite_t c4 e
      rw [sv_inj e]
      exact eb_r rfl
    · replace e := ite_f c4 e
      refine eb_n 1 (14, [.ref a0, .int a1, .int a2], [.ref a0], h) (rfl) ?_
      refine eb_g (p := hT h a0 = 11) (17, [.ref a0, .int a1, .int a2], [.ref (hR h a0 1)], h) rfl g2 ?_
      refine eb_n 2 (19, [.ref a0, .int a1, .int a2], [.int a2, .int a1, .ref (hR h a0 1)], h) (rfl) ?_
      obtain ⟨g5, e⟩ := gd_some e
      obtain ⟨h6, eh6, e⟩ := lq_some e
      refine eb_g (p := hT h (hR h a0 1) = 101 ∧ inb a1 (hL h (hR h a0 1))) (20, [.ref a0, .int a1, .int a2], [], h6) (by rw [eh6]; rfl) g5 ?_
      rw [sv_inj e]
      exact eb_r rfl
set_option maxRecDepth 100000 in
set_option maxHeartbeats 4000000 in
theorem f_Tokens_isLetter_ev (d0 : Nat) (hd0 : 1 ≤ d0) {h' : AH} {r : Int32} {h : AH} {a0 : Int32} (e : f_Tokens_isLetter h a0 = some (h', r)) : Ev tb mL d0 162 [.int a0] h h' (some (.int r)) := by
  obtain ⟨d, rfl⟩ : ∃ d, d0 = d + 1 := ⟨d0 - 1, by omega⟩
  have hd : 0 ≤ d := by omega
  refine ⟨Nat.le_of_ble_eq_true rfl, ?_⟩
  show Eb (Ev tb mL d) 162 (0, [.int a0], [], h) h' (some (.int r))
  unfold f_Tokens_isLetter at e
  refine eb_n 2 (3, [.int a0], [.int (nI 97), .int a0], h) (rfl) ?_
  refine eb_b (c := a0 < (nI 97)) (16, [.int a0], [], h) (6, [.int a0], [], h) rfl (fun c1 => ?_) (fun c1 => ?_)
  · replace e := ite_t c1 e
    refine eb_n 1 (17, [.int a0], [.int (nI 0)], h) (rfl) ?_
    rw [(sp_inj e).1, (sp_inj e).2]
    exact eb_rg (p := nrm 3 (nI 0)) rfl nrm_30
  · replace e := ite_f c1 e
    refine eb_n 2 (9, [.int a0], [.int (nI 122), .int a0], h) (rfl) ?_
    refine eb_b (c := (nI 122) < a0) (16, [.int a0], [], h) (12, [.int a0], [], h) rfl (fun c2 => ?_) (fun c2 => ?_)
    · replace e := ite_t c2 e
      refine eb_n 1 (17, [.int a0], [.int (nI 0)], h) (rfl) ?_
      rw [(sp_inj e).1, (sp_inj e).2]
      exact eb_rg (p := nrm 3 (nI 0)) rfl nrm_30
    · replace e := ite_f c2 e
      refine eb_n 2 (17, [.int a0], [.int (nI 1)], h) (rfl) ?_
      rw [(sp_inj e).1, (sp_inj e).2]
      exact eb_rg (p := nrm 3 (nI 1)) rfl nrm_31
set_option maxRecDepth 100000 in
set_option maxHeartbeats 4000000 in
theorem f_Tokens_kindOf_J_b2_ev {h' : AH} {r : Int32} (d : Nat) (hd : 0 ≤ d) (k2 : AH → Nat → Int64 → Int32 → Option (AH × Int32)) (hk2 : ∀ (h : AH) (a0 : Nat) (a1 : Int64) (a3 : Int32)  , k2 h a0 a1 a3 = some (h', r) → Eb (Ev tb mL d) 184 (2, [.ref a0, .long a1, .retAddr 0, .int a3], [], h) h' (some (.int r)))  (h : AH) (a0 : Nat) (a1 : Int64) (a3 : Int32)   (e : f_Tokens_kindOf_J_b2 k2 h a0 a1 a3 = some (h', r)) : Eb (Ev tb mL d) 184 (2, [.ref a0, .long a1, .retAddr 0, .int a3], [], h) h' (some (.int r)) := by
  unfold f_Tokens_kindOf_J_b2 at e
  refine eb_n 2 (4, [.ref a0, .long a1, .retAddr 0, .int a3], [.ref a0, .int a3], h) (rfl) ?_
  obtain ⟨g1, e⟩ := gd_some e
  refine eb_g (p := hT h a0 = 11) (7, [.ref a0, .long a1, .retAddr 0, .int a3], [.ref (hR h a0 0), .int a3], h) rfl g1 ?_
  obtain ⟨g2, e⟩ := gd_some e
  refine eb_g (p := hT h (hR h a0 0) = 103) (8, [.ref a0, .long a1, .retAddr 0, .int a3], [.int (nI (hL h (hR h a0 0))), .int a3], h) rfl g2 ?_
  refine eb_b (c := (nI (hL h (hR h a0 0))) ≤ a3) (32, [.ref a0, .long a1, .retAddr 0, .int a3], [], h) (11, [.ref a0, .long a1, .retAddr 0, .int a3], [], h) rfl (fun c3 => ?_) (fun c3 => ?_)
  · replace e := ite_t c3 e
    refine eb_n 1 (34, [.ref a0, .long a1, .retAddr 0, .int a3], [.int (nI 55)], h) (rfl) ?_
    rw [(sp_inj e).1, (sp_inj e).2]
    exact eb_rg (p := nrm 0 (nI 55)) rfl (nrm_0 _)
  · replace e := ite_f c3 e
    refine eb_n 1 (12, [.ref a0, .long a1, .retAddr 0, .int a3], [.ref a0], h) (rfl) ?_
    refine eb_g (p := hT h a0 = 11) (15, [.ref a0, .long a1, .retAddr 0, .int a3], [.ref (hR h a0 0)], h) rfl g1 ?_
    refine eb_n 1 (16, [.ref a0, .long a1, .retAddr 0, .int a3], [.int a3, .ref (hR h a0 0)], h) (rfl) ?_
    obtain ⟨g4, e⟩ := gd_some e
    refine eb_g (p := hT h (hR h a0 0) = 103 ∧ inb a3 (hL h (hR h a0 0))) (17, [.ref a0, .long a1, .retAddr 0, .int a3], [.long (hJ h (hR h a0 0) (ix a3))], h) rfl g4 ?_
    refine eb_n 2 (19, [.ref a0, .long a1, .retAddr 0, .int a3], [.int (if (hJ h (hR h a0 0) (ix a3)) < a1 then (-1 : Int32) else if (hJ h (hR h a0 0) (ix a3)) = a1 then 0 else 1)], h) (rfl) ?_
    refine eb_b (c := ¬ (if (hJ h (hR h a0 0) (ix a3)) < a1 then (-1 : Int32) else if (hJ h (hR h a0 0) (ix a3)) = a1 then 0 else 1) = 0) (26, [.ref a0, .long a1, .retAddr 0, .int a3], [], h) (22, [.ref a0, .long a1, .retAddr 0, .int a3], [], h) rfl (fun c5 => ?_) (fun c5 => ?_)
    · replace e := ite_t c5 e
      obtain ⟨x6, hx6, e⟩ := lq_some e
      refine eb_n 1 (29, [.ref a0, .long a1, .retAddr 0, .int x6], [], h) (by subst hx6; rfl) ?_
      refine eb_n 1 (2, [.ref a0, .long a1, .retAddr 0, .int x6], [], h) (rfl) ?_
      exact hk2 _ _ _ _  e
    · replace e := ite_f c5 e
      refine eb_n 3 (25, [.ref a0, .long a1, .retAddr 0, .int a3], [.int (a3 + (nI 1))], h) (rfl) ?_
      rw [(sp_inj e).1, (sp_inj e).2]
      exact eb_rg (p := nrm 0 (a3 + (nI 1))) rfl (nrm_0 _)
set_option maxRecDepth 100000 in
set_option maxHeartbeats 4000000 in
theorem f_Tokens_kindOf_J_l2_ev {h' : AH} {r : Int32} (d : Nat) (hd : 0 ≤ d)  : ∀ (n : Nat) (h : AH) (a0 : Nat) (a1 : Int64) (a3 : Int32)   (_ : f_Tokens_kindOf_J_l2  n h a0 a1 a3 = some (h', r)), Eb (Ev tb mL d) 184 (2, [.ref a0, .long a1, .retAddr 0, .int a3], [], h) h' (some (.int r)) := by
  intro n
  induction n with
  | zero => intro h a0 a1 a3  e; exact nomatch e
  | succ n ih =>
    intro h a0 a1 a3  e
    exact f_Tokens_kindOf_J_b2_ev d hd _ (fun h a0 a1 a3  e => ih h a0 a1 a3  e) h a0 a1 a3  e
set_option maxRecDepth 100000 in
set_option maxHeartbeats 4000000 in
theorem f_Tokens_kindOf_J_ev (d0 : Nat) (hd0 : 1 ≤ d0) {h' : AH} {r : Int32} {h : AH} {a0 : Nat} {a1 : Int64} (e : f_Tokens_kindOf_J h a0 a1 = some (h', r)) : Ev tb mL d0 184 [.ref a0, .long a1] h h' (some (.int r)) := by
  obtain ⟨d, rfl⟩ : ∃ d, d0 = d + 1 := ⟨d0 - 1, by omega⟩
  have hd : 0 ≤ d := by omega
  refine ⟨Nat.le_of_ble_eq_true rfl, ?_⟩
  show Eb (Ev tb mL d) 184 (0, [.ref a0, .long a1, .retAddr 0, .retAddr 0], [], h) h' (some (.int r))
  unfold f_Tokens_kindOf_J at e
  refine eb_n 2 (2, [.ref a0, .long a1, .retAddr 0, .int (nI 0)], [], h) (rfl) ?_
  exact f_Tokens_kindOf_J_l2_ev d hd   FU _ _ _ _  e
set_option maxRecDepth 100000 in
set_option maxHeartbeats 4000000 in
theorem f_Tokens_behindWord_b78_ev {h' : AH} {r : Int32} (d : Nat) (hd : 2 ≤ d)  (h : AH) (a0 : Nat) (a4 : Int32) (a5 : Int64) (a7 : Int32) (s0 : Nat) (s1 : Int32) (s2 : Int32) (d1 : Value) (d2 : Value) (d3 : Value) (d8 : Value) (e : f_Tokens_behindWord_b78  h a0 a4 a5 a7 s0 s1 s2 = some (h', r)) : Eb (Ev tb mL d) 163 (78, [.ref a0, d1, d2, d3, .int a4, .long a5, .retAddr 0, .int a7, d8], [.int s2, .int s1, .ref s0], h) h' (some (.int r)) := by
  unfold f_Tokens_behindWord_b78 at e
  obtain ⟨g1, e⟩ := gd_some e
  obtain ⟨h2, eh2, e⟩ := bv_some e
  refine eb_cg (p := hT h s0 = 11) rfl g1 (f_Tokens_put_ev d (Nat.le_trans (by decide) hd) eh2) ?_
  show Eb _ 163 (81, [.ref a0, d1, d2, d3, .int a4, .long a5, .retAddr 0, .int a7, d8], [], h2) _ _
  refine eb_n 1 (83, [.ref a0, d1, d2, d3, .int a4, .long a5, .retAddr 0, .int a7, d8], [.int a4], h2) (rfl) ?_
  refine eb_b (c := a4 < 0) (105, [.ref a0, d1, d2, d3, .int a4, .long a5, .retAddr 0, .int a7, d8], [], h2) (86, [.ref a0, d1, d2, d3, .int a4, .long a5, .retAddr 0, .int a7, d8], [], h2) rfl (fun c3 => ?_) (fun c3 => ?_)
  · replace e := ite_t c3 e
    refine eb_n 1 (107, [.ref a0, d1, d2, d3, .int a4, .long a5, .retAddr 0, .int a7, d8], [.int a7], h2) (rfl) ?_
    rw [(sp_inj e).1, (sp_inj e).2]
    exact eb_rg (p := nrm 0 a7) rfl (nrm_0 _)
  · replace e := ite_f c3 e
    refine eb_n 2 (89, [.ref a0, d1, d2, d3, .int a4, .long a5, .retAddr 0, .int a7, d8], [.ref a0, .int a4], h2) (rfl) ?_
    obtain ⟨g4, e⟩ := gd_some e
    refine eb_g (p := hT h2 a0 = 11) (92, [.ref a0, d1, d2, d3, .int a4, .long a5, .retAddr 0, .int a7, d8], [.ref (hR h2 a0 4), .int a4], h2) rfl g4 ?_
    obtain ⟨g5, e⟩ := gd_some e
    refine eb_g (p := hT h2 (hR h2 a0 4) = 103) (93, [.ref a0, d1, d2, d3, .int a4, .long a5, .retAddr 0, .int a7, d8], [.int (nI (hL h2 (hR h2 a0 4))), .int a4], h2) rfl g5 ?_
    refine eb_b (c := (nI (hL h2 (hR h2 a0 4))) ≤ a4) (105, [.ref a0, d1, d2, d3, .int a4, .long a5, .retAddr 0, .int a7, d8], [], h2) (96, [.ref a0, d1, d2, d3, .int a4, .long a5, .retAddr 0, .int a7, d8], [], h2) rfl (fun c6 => ?_) (fun c6 => ?_)
    · replace e := ite_t c6 e
      refine eb_n 1 (107, [.ref a0, d1, d2, d3, .int a4, .long a5, .retAddr 0, .int a7, d8], [.int a7], h2) (rfl) ?_
      rw [(sp_inj e).1, (sp_inj e).2]
      exact eb_rg (p := nrm 0 a7) rfl (nrm_0 _)
    · replace e := ite_f c6 e
      refine eb_n 1 (97, [.ref a0, d1, d2, d3, .int a4, .long a5, .retAddr 0, .int a7, d8], [.ref a0], h2) (rfl) ?_
      refine eb_g (p := hT h2 a0 = 11) (100, [.ref a0, d1, d2, d3, .int a4, .long a5, .retAddr 0, .int a7, d8], [.ref (hR h2 a0 4)], h2) rfl g4 ?_
      refine eb_n 2 (104, [.ref a0, d1, d2, d3, .int a4, .long a5, .retAddr 0, .int a7, d8], [.long a5, .int a4, .ref (hR h2 a0 4)], h2) (rfl) ?_
      obtain ⟨g7, e⟩ := gd_some e
      obtain ⟨h8, eh8, e⟩ := lq_some e
      refine eb_g (p := hT h2 (hR h2 a0 4) = 103 ∧ inb a4 (hL h2 (hR h2 a0 4))) (105, [.ref a0, d1, d2, d3, .int a4, .long a5, .retAddr 0, .int a7, d8], [], h8) (by rw [eh8]; rfl) g7 ?_
      refine eb_n 1 (107, [.ref a0, d1, d2, d3, .int a4, .long a5, .retAddr 0, .int a7, d8], [.int a7], h8) (rfl) ?_
      rw [(sp_inj e).1, (sp_inj e).2]
      exact eb_rg (p := nrm 0 a7) rfl (nrm_0 _)
set_option maxRecDepth 100000 in
set_option maxHeartbeats 4000000 in
theorem f_Tokens_behindWord_b55_ev {h' : AH} {r : Int32} (d : Nat) (hd : 2 ≤ d)  (h : AH) (a0 : Nat) (a3 : Int32) (a4 : Int32) (a5 : Int64) (a7 : Int32)  (d1 : Value) (d2 : Value) (d8 : Value) (e : f_Tokens_behindWord_b55  h a0 a3 a4 a5 a7 = some (h', r)) : Eb (Ev tb mL d) 163 (55, [.ref a0, d1, d2, .int a3, .int a4, .long a5, .retAddr 0, .int a7, d8], [], h) h' (some (.int r)) := by
  unfold f_Tokens_behindWord_b55 at e
  refine eb_n 6 (64, [.ref a0, d1, d2, .int a3, .int a4, .long a5, .retAddr 0, .int a7, d8], [.int (nI 10), .int (a7 - a3), .int a4, .ref a0], h) (rfl) ?_
  refine eb_b (c := (a7 - a3) ≤ (nI 10)) (72, [.ref a0, d1, d2, .int a3, .int a4, .long a5, .retAddr 0, .int a7, d8], [.int a4, .ref a0], h) (67, [.ref a0, d1, d2, .int a3, .int a4, .long a5, .retAddr 0, .int a7, d8], [.int a4, .ref a0], h) rfl (fun c1 => ?_) (fun c1 => ?_)
  · replace e := ite_t c1 e
    refine eb_n 2 (75, [.ref a0, d1, d2, .int a3, .int a4, .long a5, .retAddr 0, .int a7, d8], [.long a5, .ref a0, .int a4, .ref a0], h) (rfl) ?_
    obtain ⟨g2, e⟩ := gd_some e
    obtain ⟨h3, r4, eh3, e⟩ := bn_some e
    refine eb_cg (p := hT h a0 = 11) rfl g2 (f_Tokens_kindOf_J_ev d (Nat.le_trans (by decide) hd) eh3) ?_
    show Eb _ 163 (78, [.ref a0, d1, d2, .int a3, .int a4, .long a5, .retAddr 0, .int a7, d8], [.int r4, .int a4, .ref a0], h3) _ _
    exact f_Tokens_behindWord_b78_ev d hd   _ _ _ _ _ _ _ _ _ _ _ _ e
  · replace e := ite_f c1 e
    refine eb_n 2 (78, [.ref a0, d1, d2, .int a3, .int a4, .long a5, .retAddr 0, .int a7, d8], [.int (nI 58), .int a4, .ref a0], h) (rfl) ?_
    exact f_Tokens_behindWord_b78_ev d hd   _ _ _ _ _ _ _ _ _ _ _ _ e
set_option maxRecDepth 100000 in
set_option maxHeartbeats 4000000 in
theorem f_Tokens_behindWord_b40_ev {h' : AH} {r : Int32} (d : Nat) (hd : 2 ≤ d) (k6 : AH → Nat → Nat → Int32 → Int32 → Int32 → Int64 → Int32 → Option (AH × Int32)) (hk6 : ∀ (h : AH) (a0 : Nat) (a1 : Nat) (a2 : Int32) (a3 : Int32) (a4 : Int32) (a5 : Int64) (a7 : Int32)  (d8 : Value), k6 h a0 a1 a2 a3 a4 a5 a7 = some (h', r) → Eb (Ev tb mL d) 163 (6, [.ref a0, .ref a1, .int a2, .int a3, .int a4, .long a5, .retAddr 0, .int a7, d8], [], h) h' (some (.int r)))  (h : AH) (a0 : Nat) (a1 : Nat) (a2 : Int32) (a3 : Int32) (a4 : Int32) (a5 : Int64) (a7 : Int32) (a8 : Int32)   (e : f_Tokens_behindWord_b40 k6 h a0 a1 a2 a3 a4 a5 a7 a8 = some (h', r)) : Eb (Ev tb mL d) 163 (40, [.ref a0, .ref a1, .int a2, .int a3, .int a4, .long a5, .retAddr 0, .int a7, .int a8], [], h) h' (some (.int r)) := by
  unfold f_Tokens_behindWord_b40 at e
  refine eb_n 2 (44, [.ref a0, .ref a1, .int a2, .int a3, .int a4, .long a5, .retAddr 0, .int a7, .int a8], [.int a8, .long a5], h) (rfl) ?_
  obtain ⟨h1, r2, eh1, e⟩ := bn_some e
  refine eb_c rfl (f_Tokens_joined_ev d (Nat.le_trans (by decide) hd) eh1) ?_
  show Eb _ 163 (47, [.ref a0, .ref a1, .int a2, .int a3, .int a4, .long a5, .retAddr 0, .int a7, .int a8], [.long r2], h1) _ _
  obtain ⟨x3, hx3, e⟩ := lq_some e
  refine eb_n 2 (52, [.ref a0, .ref a1, .int a2, .int a3, .int a4, .long r2, .retAddr 0, .int x3, .int a8], [], h1) (by subst hx3; rfl) ?_
  refine eb_n 1 (6, [.ref a0, .ref a1, .int a2, .int a3, .int a4, .long r2, .retAddr 0, .int x3, .int a8], [], h1) (rfl) ?_
  exact hk6 _ _ _ _ _ _ _ _ _ e
set_option maxRecDepth 100000 in
set_option maxHeartbeats 4000000 in
theorem f_Tokens_behindWord_b6_ev {h' : AH} {r : Int32} (d : Nat) (hd : 2 ≤ d) (k6 : AH → Nat → Nat → Int32 → Int32 → Int32 → Int64 → Int32 → Option (AH × Int32)) (hk6 : ∀ (h : AH) (a0 : Nat) (a1 : Nat) (a2 : Int32) (a3 : Int32) (a4 : Int32) (a5 : Int64) (a7 : Int32)  (d8 : Value), k6 h a0 a1 a2 a3 a4 a5 a7 = some (h', r) → Eb (Ev tb mL d) 163 (6, [.ref a0, .ref a1, .int a2, .int a3, .int a4, .long a5, .retAddr 0, .int a7, d8], [], h) h' (some (.int r)))  (h : AH) (a0 : Nat) (a1 : Nat) (a2 : Int32) (a3 : Int32) (a4 : Int32) (a5 : Int64) (a7 : Int32)  (d8 : Value) (e : f_Tokens_behindWord_b6 k6 h a0 a1 a2 a3 a4 a5 a7 = some (h', r)) : Eb (Ev tb mL d) 163 (6, [.ref a0, .ref a1, .int a2, .int a3, .int a4, .long a5, .retAddr 0, .int a7, d8], [], h) h' (some (.int r)) := by
  unfold f_Tokens_behindWord_b6 at e
  refine eb_n 2 (9, [.ref a0, .ref a1, .int a2, .int a3, .int a4, .long a5, .retAddr 0, .int a7, d8], [.int a2, .int a7], h) (rfl) ?_
  refine eb_b (c := a2 ≤ a7) (55, [.ref a0, .ref a1, .int a2, .int a3, .int a4, .long a5, .retAddr 0, .int a7, d8], [], h) (12, [.ref a0, .ref a1, .int a2, .int a3, .int a4, .long a5, .retAddr 0, .int a7, d8], [], h) rfl (fun c1 => ?_) (fun c1 => ?_)
  · replace e := ite_t c1 e
    exact f_Tokens_behindWord_b55_ev d hd   _ _ _ _ _ _ _ _ _ e
  · replace e := ite_f c1 e
    refine eb_n 3 (16, [.ref a0, .ref a1, .int a2, .int a3, .int a4, .long a5, .retAddr 0, .int a7, d8], [.int a7, .int a2, .ref a1], h) (rfl) ?_
    obtain ⟨h2, r3, eh2, e⟩ := bn_some e
    refine eb_c rfl (f_Tokens_signAt_ev d (Nat.le_trans (by decide) hd) eh2) ?_
    show Eb _ 163 (19, [.ref a0, .ref a1, .int a2, .int a3, .int a4, .long a5, .retAddr 0, .int a7, d8], [.int r3], h2) _ _
    refine eb_n 2 (23, [.ref a0, .ref a1, .int a2, .int a3, .int a4, .long a5, .retAddr 0, .int a7, .int r3], [.int r3], h2) (rfl) ?_
    obtain ⟨h4, r5, eh4, e⟩ := bn_some e
    refine eb_c rfl (f_Tokens_isLetter_ev d (Nat.le_trans (by decide) hd) eh4) ?_
    show Eb _ 163 (26, [.ref a0, .ref a1, .int a2, .int a3, .int a4, .long a5, .retAddr 0, .int a7, .int r3], [.int r5], h4) _ _
    refine eb_b (c := ¬ r5 = 0) (40, [.ref a0, .ref a1, .int a2, .int a3, .int a4, .long a5, .retAddr 0, .int a7, .int r3], [], h4) (29, [.ref a0, .ref a1, .int a2, .int a3, .int a4, .long a5, .retAddr 0, .int a7, .int r3], [], h4) rfl (fun c6 => ?_) (fun c6 => ?_)
    · replace e := ite_t c6 e
      exact f_Tokens_behindWord_b40_ev d hd k6 hk6 _ _ _ _ _ _ _ _ _  e
    · replace e := ite_f c6 e
      refine eb_n 1 (31, [.ref a0, .ref a1, .int a2, .int a3, .int a4, .long a5, .retAddr 0, .int a7, .int r3], [.int r3], h4) (rfl) ?_
      obtain ⟨h7, r8, eh7, e⟩ := bn_some e
      refine eb_c rfl (f_Tokens_isDigit_ev d (Nat.le_trans (by decide) hd) eh7) ?_
      show Eb _ 163 (34, [.ref a0, .ref a1, .int a2, .int a3, .int a4, .long a5, .retAddr 0, .int a7, .int r3], [.int r8], h7) _ _
      refine eb_b (c := ¬ r8 = 0) (40, [.ref a0, .ref a1, .int a2, .int a3, .int a4, .long a5, .retAddr 0, .int a7, .int r3], [], h7) (37, [.ref a0, .ref a1, .int a2, .int a3, .int a4, .long a5, .retAddr 0, .int a7, .int r3], [], h7) rfl (fun c9 => ?_) (fun c9 => ?_)
      · replace e := ite_t c9 e
        exact f_Tokens_behindWord_b40_ev d hd k6 hk6 _ _ _ _ _ _ _ _ _  e
      · replace e := ite_f c9 e
        refine eb_n 1 (55, [.ref a0, .ref a1, .int a2, .int a3, .int a4, .long a5, .retAddr 0, .int a7, .int r3], [], h7) (rfl) ?_
        exact f_Tokens_behindWord_b55_ev d hd   _ _ _ _ _ _ _ _ _ e
set_option maxRecDepth 100000 in
set_option maxHeartbeats 4000000 in
theorem f_Tokens_behindWord_l6_ev {h' : AH} {r : Int32} (d : Nat) (hd : 2 ≤ d)  : ∀ (n : Nat) (h : AH) (a0 : Nat) (a1 : Nat) (a2 : Int32) (a3 : Int32) (a4 : Int32) (a5 : Int64) (a7 : Int32)  (d8 : Value) (_ : f_Tokens_behindWord_l6  n h a0 a1 a2 a3 a4 a5 a7 = some (h', r)), Eb (Ev tb mL d) 163 (6, [.ref a0, .ref a1, .int a2, .int a3, .int a4, .long a5, .retAddr 0, .int a7, d8], [], h) h' (some (.int r)) := by
  intro n
  induction n with
  | zero => intro h a0 a1 a2 a3 a4 a5 a7 d8 e; exact nomatch e
  | succ n ih =>
    intro h a0 a1 a2 a3 a4 a5 a7 d8 e
    exact f_Tokens_behindWord_b6_ev d hd _ (fun h a0 a1 a2 a3 a4 a5 a7 d8 e => ih h a0 a1 a2 a3 a4 a5 a7 d8 e) h a0 a1 a2 a3 a4 a5 a7 d8 e
set_option maxRecDepth 100000 in
set_option maxHeartbeats 4000000 in
theorem f_Tokens_behindWord_ev (d0 : Nat) (hd0 : 3 ≤ d0) {h' : AH} {r : Int32} {h : AH} {a0 : Nat} {a1 : Nat} {a2 : Int32} {a3 : Int32} {a4 : Int32} (e : f_Tokens_behindWord h a0 a1 a2 a3 a4 = some (h', r)) : Ev tb mL d0 163 [.ref a0, .ref a1, .int a2, .int a3, .int a4] h h' (some (.int r)) := by
  obtain ⟨d, rfl⟩ : ∃ d, d0 = d + 1 := ⟨d0 - 1, by omega⟩
  have hd : 2 ≤ d := by omega
  refine ⟨Nat.le_of_ble_eq_true rfl, ?_⟩
  show Eb (Ev tb mL d) 163 (0, [.ref a0, .ref a1, .int a2, .int a3, .int a4, .retAddr 0, .retAddr 0, .retAddr 0, .retAddr 0], [], h) h' (some (.int r))
  unfold f_Tokens_behindWord at e
  obtain ⟨x1, hx1, e⟩ := lq_some e
  refine eb_n 2 (3, [.ref a0, .ref a1, .int a2, .int a3, .int a4, .long x1, .retAddr 0, .retAddr 0, .retAddr 0], [], h) (by subst hx1; rfl) ?_
  refine eb_n 2 (6, [.ref a0, .ref a1, .int a2, .int a3, .int a4, .long x1, .retAddr 0, .int a3, .retAddr 0], [], h) (rfl) ?_
  exact f_Tokens_behindWord_l6_ev d hd   FU _ _ _ _ _ _ _ _ _ e
set_option maxRecDepth 100000 in
set_option maxHeartbeats 4000000 in
theorem f_Tokens_setNumber_ev (d0 : Nat) (hd0 : 1 ≤ d0) {h' : AH} {h : AH} {a0 : Nat} {a1 : Int32} {a2 : Int32} (e : f_Tokens_setNumber h a0 a1 a2 = some h') : Ev tb mL d0 175 [.ref a0, .int a1, .int a2] h h' none := by
  obtain ⟨d, rfl⟩ : ∃ d, d0 = d + 1 := ⟨d0 - 1, by omega⟩
  have hd : 0 ≤ d := by omega
  refine ⟨Nat.le_of_ble_eq_true rfl, ?_⟩
  show Eb (Ev tb mL d) 175 (0, [.ref a0, .int a1, .int a2], [], h) h' none
  unfold f_Tokens_setNumber at e
  refine eb_n 1 (1, [.ref a0, .int a1, .int a2], [.int a1], h) (rfl) ?_
  refine eb_b (c := a1 < 0) (20, [.ref a0, .int a1, .int a2], [], h) (4, [.ref a0, .int a1, .int a2], [], h) rfl (fun c1 => ?_) (fun c1 => ?_)
  · replace e := ite_t c1 e
    rw [sv_inj e]
    exact eb_r rfl
  · replace e := ite_f c1 e
    refine eb_n 2 (6, [.ref a0, .int a1, .int a2], [.ref a0, .int a1], h) (rfl) ?_
    obtain ⟨g2, e⟩ := gd_some e
    refine eb_g (p := hT h a0 = 11) (9, [.ref a0, .int a1, .int a2], [.ref (hR h a0 3), .int a1], h) rfl g2 ?_
    obtain ⟨g3, e⟩ := gd_some e
    refine eb_g (p := hT h (hR h a0 3) = 101) (10, [.ref a0, .int a1, .int a2], [.int (nI (hL h (hR h a0 3))), .int a1], h) rfl g3 ?_
    refine eb_b (c := (nI (hL h (hR h a0 3))) ≤ a1) (20, [.ref a0, .int a1, .int a2], [], h) (13, [.ref a0, .int a1, .int a2], [], h) rfl (fun c4 => ?_) (fun c4 => ?_)
    · replace e := ite_t c4 e
      rw [sv_inj e]
      exact eb_r rfl
    · replace e := ite_f c4 e
      refine eb_n 1 (14, [.ref a0, .int a1, .int a2], [.ref a0], h) (rfl) ?_
      refine eb_g (p := hT h a0 = 11) (17, [.ref a0, .int a1, .int a2], [.ref (hR h a0 3)], h) rfl g2 ?_
      refine eb_n 2 (19, [.ref a0, .int a1, .int a2], [.int a2, .int a1, .ref (hR h a0 3)], h) (rfl) ?_
      obtain ⟨g5, e⟩ := gd_some e
      obtain ⟨h6, eh6, e⟩ := lq_some e
      refine eb_g (p := hT h (hR h a0 3) = 101 ∧ inb a1 (hL h (hR h a0 3))) (20, [.ref a0, .int a1, .int a2], [], h6) (by rw [eh6]; rfl) g5 ?_
      rw [sv_inj e]
      exact eb_r rfl
set_option maxRecDepth 100000 in
set_option maxHeartbeats 4000000 in
theorem f_Tokens_behindNumber_b70_ev {h' : AH} {r : Int32} (d : Nat) (hd : 1 ≤ d)  (h : AH) (a0 : Nat) (a4 : Int32) (a5 : Int32) (a6 : Int32) (s0 : Nat) (s1 : Int32) (s2 : Int32) (d1 : Value) (d2 : Value) (d3 : Value) (d7 : Value) (e : f_Tokens_behindNumber_b70  h a0 a4 a5 a6 s0 s1 s2 = some (h', r)) : Eb (Ev tb mL d) 165 (70, [.ref a0, d1, d2, d3, .int a4, .int a5, .int a6, d7], [.int s2, .int s1, .ref s0], h) h' (some (.int r)) := by
  unfold f_Tokens_behindNumber_b70 at e
  obtain ⟨g1, e⟩ := gd_some e
  obtain ⟨h2, eh2, e⟩ := bv_some e
  refine eb_cg (p := hT h s0 = 11) rfl g1 (f_Tokens_put_ev d (Nat.le_trans (by decide) hd) eh2) ?_
  show Eb _ 165 (73, [.ref a0, d1, d2, d3, .int a4, .int a5, .int a6, d7], [], h2) _ _
  refine eb_n 3 (78, [.ref a0, d1, d2, d3, .int a4, .int a5, .int a6, d7], [.int a5, .int a4, .ref a0], h2) (rfl) ?_
  obtain ⟨g3, e⟩ := gd_some e
  obtain ⟨h4, eh4, e⟩ := bv_some e
  refine eb_cg (p := hT h2 a0 = 11) rfl g3 (f_Tokens_setNumber_ev d (Nat.le_trans (by decide) hd) eh4) ?_
  show Eb _ 165 (81, [.ref a0, d1, d2, d3, .int a4, .int a5, .int a6, d7], [], h4) _ _
  refine eb_n 1 (83, [.ref a0, d1, d2, d3, .int a4, .int a5, .int a6, d7], [.int a6], h4) (rfl) ?_
  rw [(sp_inj e).1, (sp_inj e).2]
  exact eb_rg (p := nrm 0 a6) rfl (nrm_0 _)
set_option maxRecDepth 100000 in
set_option maxHeartbeats 4000000 in
theorem f_Tokens_behindNumber_b51_ev {h' : AH} {r : Int32} (d : Nat) (hd : 1 ≤ d)  (h : AH) (a0 : Nat) (a3 : Int32) (a4 : Int32) (a5 : Int32) (a6 : Int32)  (d1 : Value) (d2 : Value) (d7 : Value) (e : f_Tokens_behindNumber_b51  h a0 a3 a4 a5 a6 = some (h', r)) : Eb (Ev tb mL d) 165 (51, [.ref a0, d1, d2, .int a3, .int a4, .int a5, .int a6, d7], [], h) h' (some (.int r)) := by
  unfold f_Tokens_behindNumber_b51 at e
  refine eb_n 6 (60, [.ref a0, d1, d2, .int a3, .int a4, .int a5, .int a6, d7], [.int (nI 6), .int (a6 - a3), .int a4, .ref a0], h) (rfl) ?_
  refine eb_b (c := (a6 - a3) ≤ (nI 6)) (68, [.ref a0, d1, d2, .int a3, .int a4, .int a5, .int a6, d7], [.int a4, .ref a0], h) (63, [.ref a0, d1, d2, .int a3, .int a4, .int a5, .int a6, d7], [.int a4, .ref a0], h) rfl (fun c1 => ?_) (fun c1 => ?_)
  · replace e := ite_t c1 e
    refine eb_n 1 (70, [.ref a0, d1, d2, .int a3, .int a4, .int a5, .int a6, d7], [.int (nI 56), .int a4, .ref a0], h) (rfl) ?_
    exact f_Tokens_behindNumber_b70_ev d hd   _ _ _ _ _ _ _ _ _ _ _ _ e
  · replace e := ite_f c1 e
    refine eb_n 2 (70, [.ref a0, d1, d2, .int a3, .int a4, .int a5, .int a6, d7], [.int (nI 58), .int a4, .ref a0], h) (rfl) ?_
    exact f_Tokens_behindNumber_b70_ev d hd   _ _ _ _ _ _ _ _ _ _ _ _ e
set_option maxRecDepth 100000 in
set_option maxHeartbeats 4000000 in
theorem f_Tokens_behindNumber_b6_ev {h' : AH} {r : Int32} (d : Nat) (hd : 1 ≤ d) (k6 : AH → Nat → Nat → Int32 → Int32 → Int32 → Int32 → Int32 → Option (AH × Int32)) (hk6 : ∀ (h : AH) (a0 : Nat) (a1 : Nat) (a2 : Int32) (a3 : Int32) (a4 : Int32) (a5 : Int32) (a6 : Int32)  (d7 : Value), k6 h a0 a1 a2 a3 a4 a5 a6 = some (h', r) → Eb (Ev tb mL d) 165 (6, [.ref a0, .ref a1, .int a2, .int a3, .int a4, .int a5, .int a6, d7], [], h) h' (some (.int r)))  (h : AH) (a0 : Nat) (a1 : Nat) (a2 : Int32) (a3 : Int32) (a4 : Int32) (a5 : Int32) (a6 : Int32)  (d7 : Value) (e : f_Tokens_behindNumber_b6 k6 h a0 a1 a2 a3 a4 a5 a6 = some (h', r)) : Eb (Ev tb mL d) 165 (6, [.ref a0, .ref a1, .int a2, .int a3, .int a4, .int a5, .int a6, d7], [], h) h' (some (.int r)) := by
  unfold f_Tokens_behindNumber_b6 at e
  refine eb_n 2 (9, [.ref a0, .ref a1, .int a2, .int a3, .int a4, .int a5, .int a6, d7], [.int a2, .int a6], h) (rfl) ?_
  refine eb_b (c := a2 ≤ a6) (51, [.ref a0, .ref a1, .int a2, .int a3, .int a4, .int a5, .int a6, d7], [], h) (12, [.ref a0, .ref a1, .int a2, .int a3, .int a4, .int a5, .int a6, d7], [], h) rfl (fun c1 => ?_) (fun c1 => ?_)
  · replace e := ite_t c1 e
    exact f_Tokens_behindNumber_b51_ev d hd   _ _ _ _ _ _ _ _ _ e
  · replace e := ite_f c1 e
    refine eb_n 3 (16, [.ref a0, .ref a1, .int a2, .int a3, .int a4, .int a5, .int a6, d7], [.int a6, .int a2, .ref a1], h) (rfl) ?_
    obtain ⟨h2, r3, eh2, e⟩ := bn_some e
    refine eb_c rfl (f_Tokens_signAt_ev d (Nat.le_trans (by decide) hd) eh2) ?_
    show Eb _ 165 (19, [.ref a0, .ref a1, .int a2, .int a3, .int a4, .int a5, .int a6, d7], [.int r3], h2) _ _
    refine eb_n 2 (23, [.ref a0, .ref a1, .int a2, .int a3, .int a4, .int a5, .int a6, .int r3], [.int r3], h2) (rfl) ?_
    obtain ⟨h4, r5, eh4, e⟩ := bn_some e
    refine eb_c rfl (f_Tokens_isDigit_ev d (Nat.le_trans (by decide) hd) eh4) ?_
    show Eb _ 165 (26, [.ref a0, .ref a1, .int a2, .int a3, .int a4, .int a5, .int a6, .int r3], [.int r5], h4) _ _
    refine eb_b (c := ¬ r5 = 0) (32, [.ref a0, .ref a1, .int a2, .int a3, .int a4, .int a5, .int a6, .int r3], [], h4) (29, [.ref a0, .ref a1, .int a2, .int a3, .int a4, .int a5, .int a6, .int r3], [], h4) rfl (fun c6 => ?_) (fun c6 => ?_)
    · replace e := ite_t c6 e
      obtain ⟨x7, hx7, e⟩ := lq_some e
      refine eb_n 8 (45, [.ref a0, .ref a1, .int a2, .int a3, .int a4, .int x7, .int a6, .int r3], [], h4) (by subst hx7; rfl) ?_
      obtain ⟨x8, hx8, e⟩ := lq_some e
      refine eb_n 1 (48, [.ref a0, .ref a1, .int a2, .int a3, .int a4, .int x7, .int x8, .int r3], [], h4) (by subst hx8; rfl) ?_
      refine eb_n 1 (6, [.ref a0, .ref a1, .int a2, .int a3, .int a4, .int x7, .int x8, .int r3], [], h4) (rfl) ?_
      exact hk6 _ _ _ _ _ _ _ _ _ e
    · replace e := ite_f c6 e
      refine eb_n 1 (51, [.ref a0, .ref a1, .int a2, .int a3, .int a4, .int a5, .int a6, .int r3], [], h4) (rfl) ?_
      exact f_Tokens_behindNumber_b51_ev d hd   _ _ _ _ _ _ _ _ _ e
set_option maxRecDepth 100000 in
set_option maxHeartbeats 4000000 in
theorem f_Tokens_behindNumber_l6_ev {h' : AH} {r : Int32} (d : Nat) (hd : 1 ≤ d)  : ∀ (n : Nat) (h : AH) (a0 : Nat) (a1 : Nat) (a2 : Int32) (a3 : Int32) (a4 : Int32) (a5 : Int32) (a6 : Int32)  (d7 : Value) (_ : f_Tokens_behindNumber_l6  n h a0 a1 a2 a3 a4 a5 a6 = some (h', r)), Eb (Ev tb mL d) 165 (6, [.ref a0, .ref a1, .int a2, .int a3, .int a4, .int a5, .int a6, d7], [], h) h' (some (.int r)) := by
  intro n
  induction n with
  | zero => intro h a0 a1 a2 a3 a4 a5 a6 d7 e; exact nomatch e
  | succ n ih =>
    intro h a0 a1 a2 a3 a4 a5 a6 d7 e
    exact f_Tokens_behindNumber_b6_ev d hd _ (fun h a0 a1 a2 a3 a4 a5 a6 d7 e => ih h a0 a1 a2 a3 a4 a5 a6 d7 e) h a0 a1 a2 a3 a4 a5 a6 d7 e
set_option maxRecDepth 100000 in
set_option maxHeartbeats 4000000 in
theorem f_Tokens_behindNumber_ev (d0 : Nat) (hd0 : 2 ≤ d0) {h' : AH} {r : Int32} {h : AH} {a0 : Nat} {a1 : Nat} {a2 : Int32} {a3 : Int32} {a4 : Int32} (e : f_Tokens_behindNumber h a0 a1 a2 a3 a4 = some (h', r)) : Ev tb mL d0 165 [.ref a0, .ref a1, .int a2, .int a3, .int a4] h h' (some (.int r)) := by
  obtain ⟨d, rfl⟩ : ∃ d, d0 = d + 1 := ⟨d0 - 1, by omega⟩
  have hd : 1 ≤ d := by omega
  refine ⟨Nat.le_of_ble_eq_true rfl, ?_⟩
  show Eb (Ev tb mL d) 165 (0, [.ref a0, .ref a1, .int a2, .int a3, .int a4, .retAddr 0, .retAddr 0, .retAddr 0], [], h) h' (some (.int r))
  unfold f_Tokens_behindNumber at e
  refine eb_n 4 (6, [.ref a0, .ref a1, .int a2, .int a3, .int a4, .int (nI 0), .int a3, .retAddr 0], [], h) (rfl) ?_
  exact f_Tokens_behindNumber_l6_ev d hd   FU _ _ _ _ _ _ _ _ _ e
set_option maxRecDepth 100000 in
set_option maxHeartbeats 4000000 in
theorem f_Lat_canEncode_I_ev (d0 : Nat) (hd0 : 1 ≤ d0) {h' : AH} {r : Int32} {h : AH} {a0 : Int32} (e : f_Lat_canEncode_I h a0 = some (h', r)) : Ev tb mL d0 217 [.int a0] h h' (some (.int r)) := by
  obtain ⟨d, rfl⟩ : ∃ d, d0 = d + 1 := ⟨d0 - 1, by omega⟩
  have hd : 0 ≤ d := by omega
  refine ⟨Nat.le_of_ble_eq_true rfl, ?_⟩
  show Eb (Ev tb mL d) 217 (0, [.int a0], [], h) h' (some (.int r))
  unfold f_Lat_canEncode_I at e
  refine eb_n 1 (1, [.int a0], [.int a0], h) (rfl) ?_
  refine eb_b (c := a0 < 0) (15, [.int a0], [], h) (4, [.int a0], [], h) rfl (fun c1 => ?_) (fun c1 => ?_)
  · replace e := ite_t c1 e
    refine eb_n 1 (16, [.int a0], [.int (nI 0)], h) (rfl) ?_
    rw [(sp_inj e).1, (sp_inj e).2]
    exact eb_rg (p := nrm 3 (nI 0)) rfl nrm_30
  · replace e := ite_f c1 e
    refine eb_n 2 (8, [.int a0], [.int (nI 255), .int a0], h) (rfl) ?_
    refine eb_b (c := (nI 255) < a0) (15, [.int a0], [], h) (11, [.int a0], [], h) rfl (fun c2 => ?_) (fun c2 => ?_)
    · replace e := ite_t c2 e
      refine eb_n 1 (16, [.int a0], [.int (nI 0)], h) (rfl) ?_
      rw [(sp_inj e).1, (sp_inj e).2]
      exact eb_rg (p := nrm 3 (nI 0)) rfl nrm_30
    · replace e := ite_f c2 e
      refine eb_n 2 (16, [.int a0], [.int (nI 1)], h) (rfl) ?_
      rw [(sp_inj e).1, (sp_inj e).2]
      exact eb_rg (p := nrm 3 (nI 1)) rfl nrm_31

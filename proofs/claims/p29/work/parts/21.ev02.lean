/-! THEIR ANSWERS ARE RUNS (written by wip/p29/gen_sh.py) -/
set_option maxRecDepth 100000 in
set_option maxHeartbeats 4000000 in
theorem f_Lat_indexOfChar_b7_ev {h' : AH} {r : Int32} (d : Nat) (hd : 0 ≤ d) (k7 : AH → Nat → Int32 → Int32 → Int32 → Option (AH × Int32)) (hk7 : ∀ (h : AH) (a0 : Nat) (a3 : Int32) (a4 : Int32) (a5 : Int32)  (d1 : Value) (d2 : Value), k7 h a0 a3 a4 a5 = some (h', r) → Eb (Ev tb mL d) 218 (7, [.ref a0, d1, d2, .int a3, .int a4, .int a5], [], h) h' (some (.int r)))  (h : AH) (a0 : Nat) (a3 : Int32) (a4 : Int32) (a5 : Int32)  (d1 : Value) (d2 : Value) (e : f_Lat_indexOfChar_b7 k7 h a0 a3 a4 a5 = some (h', r)) : Eb (Ev tb mL d) 218 (7, [.ref a0, d1, d2, .int a3, .int a4, .int a5], [], h) h' (some (.int r)) := by
  unfold f_Lat_indexOfChar_b7 at e
  refine eb_n 2 (10, [.ref a0, d1, d2, .int a3, .int a4, .int a5], [.int a3, .int a5], h) (rfl) ?_
  refine eb_b (c := a3 ≤ a5) (31, [.ref a0, d1, d2, .int a3, .int a4, .int a5], [], h) (13, [.ref a0, d1, d2, .int a3, .int a4, .int a5], [], h) rfl (fun c1 => ?_) (fun c1 => ?_)
  · replace e := ite_t c1 e
    refine eb_n 1 (32, [.ref a0, d1, d2, .int a3, .int a4, .int a5], [.int (-nI 1)], h) (rfl) ?_
    rw [(sp_inj e).1, (sp_inj e).2]
    exact eb_rg (p := nrm 0 (-nI 1)) rfl (nrm_0 _)
  · replace e := ite_f c1 e
    refine eb_n 2 (16, [.ref a0, d1, d2, .int a3, .int a4, .int a5], [.int a5, .ref a0], h) (rfl) ?_
    obtain ⟨g2, e⟩ := gd_some e
    refine eb_g (p := hT h a0 = 102 ∧ inb a5 (hL h a0)) (17, [.ref a0, d1, d2, .int a3, .int a4, .int a5], [.int (hI h a0 (ix a5))], h) rfl g2 ?_
    refine eb_n 1 (19, [.ref a0, d1, d2, .int a3, .int a4, .int a5], [.int a4, .int (hI h a0 (ix a5))], h) (rfl) ?_
    refine eb_b (c := ¬ (hI h a0 (ix a5)) = a4) (25, [.ref a0, d1, d2, .int a3, .int a4, .int a5], [], h) (22, [.ref a0, d1, d2, .int a3, .int a4, .int a5], [], h) rfl (fun c3 => ?_) (fun c3 => ?_)
    · replace e := ite_t c3 e
      obtain ⟨x4, hx4, e⟩ := lq_some e
      refine eb_n 1 (28, [.ref a0, d1, d2, .int a3, .int a4, .int x4], [], h) (by subst hx4; rfl) ?_
      refine eb_n 1 (7, [.ref a0, d1, d2, .int a3, .int a4, .int x4], [], h) (rfl) ?_
      exact hk7 _ _ _ _ _ _ _ e
    · replace e := ite_f c3 e
      refine eb_n 1 (24, [.ref a0, d1, d2, .int a3, .int a4, .int a5], [.int a5], h) (rfl) ?_
      rw [(sp_inj e).1, (sp_inj e).2]
      exact eb_rg (p := nrm 0 a5) rfl (nrm_0 _)
set_option maxRecDepth 100000 in
set_option maxHeartbeats 4000000 in
theorem f_Lat_indexOfChar_l7_ev {h' : AH} {r : Int32} (d : Nat) (hd : 0 ≤ d)  : ∀ (n : Nat) (h : AH) (a0 : Nat) (a3 : Int32) (a4 : Int32) (a5 : Int32)  (d1 : Value) (d2 : Value) (_ : f_Lat_indexOfChar_l7  n h a0 a3 a4 a5 = some (h', r)), Eb (Ev tb mL d) 218 (7, [.ref a0, d1, d2, .int a3, .int a4, .int a5], [], h) h' (some (.int r)) := by
  intro n
  induction n with
  | zero => intro h a0 a3 a4 a5 d1 d2 e; exact nomatch e
  | succ n ih =>
    intro h a0 a3 a4 a5 d1 d2 e
    exact f_Lat_indexOfChar_b7_ev d hd _ (fun h a0 a3 a4 a5 d1 d2 e => ih h a0 a3 a4 a5 d1 d2 e) h a0 a3 a4 a5 d1 d2 e
set_option maxRecDepth 100000 in
set_option maxHeartbeats 4000000 in
theorem f_Lat_indexOfChar_ev (d0 : Nat) (hd0 : 1 ≤ d0) {h' : AH} {r : Int32} {h : AH} {a0 : Nat} {a1 : Int32} {a2 : Int32} {a3 : Int32} (e : f_Lat_indexOfChar h a0 a1 a2 a3 = some (h', r)) : Ev tb mL d0 218 [.ref a0, .int a1, .int a2, .int a3] h h' (some (.int r)) := by
  obtain ⟨d, rfl⟩ : ∃ d, d0 = d + 1 := ⟨d0 - 1, by omega⟩
  have hd : 0 ≤ d := by omega
  refine ⟨Nat.le_of_ble_eq_true rfl, ?_⟩
  show Eb (Ev tb mL d) 218 (0, [.ref a0, .int a1, .int a2, .int a3, .retAddr 0, .retAddr 0], [], h) h' (some (.int r))
  unfold f_Lat_indexOfChar at e
  obtain ⟨x1, hx1, e⟩ := lq_some e
  refine eb_n 3 (4, [.ref a0, .int a1, .int a2, .int a3, .int x1, .retAddr 0], [], h) (by subst hx1; rfl) ?_
  refine eb_n 2 (7, [.ref a0, .int a1, .int a2, .int a3, .int x1, .int a2], [], h) (rfl) ?_
  exact f_Lat_indexOfChar_l7_ev d hd   FU _ _ _ _ _ _ _ e
set_option maxRecDepth 100000 in
set_option maxHeartbeats 4000000 in
theorem f_Lat_indexOf_ev (d0 : Nat) (hd0 : 2 ≤ d0) {h' : AH} {r : Int32} {h : AH} {a0 : Nat} {a1 : Int32} {a2 : Int32} {a3 : Int32} (e : f_Lat_indexOf h a0 a1 a2 a3 = some (h', r)) : Ev tb mL d0 208 [.ref a0, .int a1, .int a2, .int a3] h h' (some (.int r)) := by
  obtain ⟨d, rfl⟩ : ∃ d, d0 = d + 1 := ⟨d0 - 1, by omega⟩
  have hd : 1 ≤ d := by omega
  refine ⟨Nat.le_of_ble_eq_true rfl, ?_⟩
  show Eb (Ev tb mL d) 208 (0, [.ref a0, .int a1, .int a2, .int a3], [], h) h' (some (.int r))
  unfold f_Lat_indexOf at e
  refine eb_n 1 (1, [.ref a0, .int a1, .int a2, .int a3], [.int a1], h) (rfl) ?_
  obtain ⟨h1, r2, eh1, e⟩ := bn_some e
  refine eb_c rfl (f_Lat_canEncode_I_ev d (Nat.le_trans (by decide) hd) eh1) ?_
  show Eb _ 208 (4, [.ref a0, .int a1, .int a2, .int a3], [.int r2], h1) _ _
  refine eb_b (c := ¬ r2 = 0) (9, [.ref a0, .int a1, .int a2, .int a3], [], h1) (7, [.ref a0, .int a1, .int a2, .int a3], [], h1) rfl (fun c3 => ?_) (fun c3 => ?_)
  · replace e := ite_t c3 e
    refine eb_n 2 (11, [.ref a0, .int a1, .int a2, .int a3], [.int (nI 0), .int a2], h1) (rfl) ?_
    obtain ⟨h4, r5, eh4, e⟩ := bn_some e
    refine eb_c rfl (f_Math_max_ev d (Nat.le_trans (by decide) hd) eh4) ?_
    show Eb _ 208 (14, [.ref a0, .int a1, .int a2, .int a3], [.int r5], h4) _ _
    refine eb_n 3 (17, [.ref a0, .int a1, .int r5, .int a3], [.ref a0, .int a3], h4) (rfl) ?_
    obtain ⟨g6, e⟩ := gd_some e
    refine eb_g (p := hT h4 a0 = 102) (18, [.ref a0, .int a1, .int r5, .int a3], [.int (nI (hL h4 a0)), .int a3], h4) rfl g6 ?_
    obtain ⟨h7, r8, eh7, e⟩ := bn_some e
    refine eb_c rfl (f_Math_min_ev d (Nat.le_trans (by decide) hd) eh7) ?_
    show Eb _ 208 (21, [.ref a0, .int a1, .int r5, .int a3], [.int r8], h7) _ _
    refine eb_n 3 (24, [.ref a0, .int a1, .int r5, .int r8], [.int r8, .int r5], h7) (rfl) ?_
    refine eb_b (c := r5 < r8) (29, [.ref a0, .int a1, .int r5, .int r8], [], h7) (27, [.ref a0, .int a1, .int r5, .int r8], [], h7) rfl (fun c9 => ?_) (fun c9 => ?_)
    · replace e := ite_t c9 e
      refine eb_n 4 (33, [.ref a0, .int a1, .int r5, .int r8], [.int r8, .int r5, .int a1, .ref a0], h7) (rfl) ?_
      obtain ⟨h10, r11, eh10, e⟩ := bn_some e
      refine eb_c rfl (f_Lat_indexOfChar_ev d (Nat.le_trans (by decide) hd) eh10) ?_
      show Eb _ 208 (36, [.ref a0, .int a1, .int r5, .int r8], [.int r11], h10) _ _
      rw [(sp_inj e).1, (sp_inj e).2]
      exact eb_rg (p := nrm 0 r11) rfl (nrm_0 _)
    · replace e := ite_f c9 e
      refine eb_n 1 (28, [.ref a0, .int a1, .int r5, .int r8], [.int (-nI 1)], h7) (rfl) ?_
      rw [(sp_inj e).1, (sp_inj e).2]
      exact eb_rg (p := nrm 0 (-nI 1)) rfl (nrm_0 _)
  · replace e := ite_f c3 e
    refine eb_n 1 (8, [.ref a0, .int a1, .int a2, .int a3], [.int (-nI 1)], h1) (rfl) ?_
    rw [(sp_inj e).1, (sp_inj e).2]
    exact eb_rg (p := nrm 0 (-nI 1)) rfl (nrm_0 _)
set_option maxRecDepth 100000 in
set_option maxHeartbeats 4000000 in
theorem f_String_indexOf_II_ev (d0 : Nat) (hd0 : 3 ≤ d0) {h' : AH} {r : Int32} {h : AH} {a0 : Nat} {a1 : Int32} {a2 : Int32} (e : f_String_indexOf_II h a0 a1 a2 = some (h', r)) : Ev tb mL d0 185 [.ref a0, .int a1, .int a2] h h' (some (.int r)) := by
  obtain ⟨d, rfl⟩ : ∃ d, d0 = d + 1 := ⟨d0 - 1, by omega⟩
  have hd : 2 ≤ d := by omega
  refine ⟨Nat.le_of_ble_eq_true rfl, ?_⟩
  show Eb (Ev tb mL d) 185 (0, [.ref a0, .int a1, .int a2], [], h) h' (some (.int r))
  unfold f_String_indexOf_II at e
  refine eb_n 1 (1, [.ref a0, .int a1, .int a2], [.ref a0], h) (rfl) ?_
  obtain ⟨g1, e⟩ := gd_some e
  obtain ⟨h2, r3, eh2, e⟩ := bn_some e
  refine eb_cg (p := hT h a0 = 15) rfl g1 (f_String_isLatin1_ev d (Nat.le_trans (by decide) hd) eh2) ?_
  show Eb _ 185 (4, [.ref a0, .int a1, .int a2], [.int r3], h2) _ _
  refine eb_b (c := r3 = 0) (23, [.ref a0, .int a1, .int a2], [], h2) (7, [.ref a0, .int a1, .int a2], [], h2) rfl (fun c4 => ?_) (fun c4 => ?_)
  · replace e := ite_t c4 e
    refine eb_n 1 (24, [.ref a0, .int a1, .int a2], [.ref a0], h2) (rfl) ?_
    obtain ⟨g5, e⟩ := gd_some e
    refine eb_g (p := hT h2 a0 = 15) (27, [.ref a0, .int a1, .int a2], [.ref (hR h2 a0 0)], h2) rfl g5 ?_
    refine eb_n 3 (30, [.ref a0, .int a1, .int a2], [.ref a0, .int a2, .int a1, .ref (hR h2 a0 0)], h2) (rfl) ?_
    obtain ⟨h6, r7, eh6, e⟩ := bn_some e
    refine eb_cg (p := hT h2 a0 = 15) rfl g5 (f_String_length_ev d (Nat.le_trans (by decide) hd) eh6) ?_
    show Eb _ 185 (33, [.ref a0, .int a1, .int a2], [.int r7, .int a2, .int a1, .ref (hR h2 a0 0)], h6) _ _
    exact nomatch e
  · replace e := ite_f c4 e
    refine eb_n 1 (8, [.ref a0, .int a1, .int a2], [.ref a0], h2) (rfl) ?_
    obtain ⟨g8, e⟩ := gd_some e
    refine eb_g (p := hT h2 a0 = 15) (11, [.ref a0, .int a1, .int a2], [.ref (hR h2 a0 0)], h2) rfl g8 ?_
    refine eb_n 3 (14, [.ref a0, .int a1, .int a2], [.ref a0, .int a2, .int a1, .ref (hR h2 a0 0)], h2) (rfl) ?_
    obtain ⟨h9, r10, eh9, e⟩ := bn_some e
    refine eb_cg (p := hT h2 a0 = 15) rfl g8 (f_String_length_ev d (Nat.le_trans (by decide) hd) eh9) ?_
    show Eb _ 185 (17, [.ref a0, .int a1, .int a2], [.int r10, .int a2, .int a1, .ref (hR h2 a0 0)], h9) _ _
    obtain ⟨h11, r12, eh11, e⟩ := bn_some e
    refine eb_c rfl (f_Lat_indexOf_ev d (Nat.le_trans (by decide) hd) eh11) ?_
    show Eb _ 185 (20, [.ref a0, .int a1, .int a2], [.int r12], h11) _ _
    refine eb_n 1 (36, [.ref a0, .int a1, .int a2], [.int r12], h11) (rfl) ?_
    rw [(sp_inj e).1, (sp_inj e).2]
    exact eb_rg (p := nrm 0 r12) rfl (nrm_0 _)
set_option maxRecDepth 100000 in
set_option maxHeartbeats 4000000 in
theorem f_String_indexOf_I_ev (d0 : Nat) (hd0 : 4 ≤ d0) {h' : AH} {r : Int32} {h : AH} {a0 : Nat} {a1 : Int32} (e : f_String_indexOf_I h a0 a1 = some (h', r)) : Ev tb mL d0 166 [.ref a0, .int a1] h h' (some (.int r)) := by
  obtain ⟨d, rfl⟩ : ∃ d, d0 = d + 1 := ⟨d0 - 1, by omega⟩
  have hd : 3 ≤ d := by omega
  refine ⟨Nat.le_of_ble_eq_true rfl, ?_⟩
  show Eb (Ev tb mL d) 166 (0, [.ref a0, .int a1], [], h) h' (some (.int r))
  unfold f_String_indexOf_I at e
  refine eb_n 3 (3, [.ref a0, .int a1], [.int (nI 0), .int a1, .ref a0], h) (rfl) ?_
  obtain ⟨g1, e⟩ := gd_some e
  obtain ⟨h2, r3, eh2, e⟩ := bn_some e
  refine eb_cg (p := hT h a0 = 15) rfl g1 (f_String_indexOf_II_ev d (Nat.le_trans (by decide) hd) eh2) ?_
  show Eb _ 166 (6, [.ref a0, .int a1], [.int r3], h2) _ _
  rw [(sp_inj e).1, (sp_inj e).2]
  exact eb_rg (p := nrm 0 r3) rfl (nrm_0 _)
set_option maxRecDepth 100000 in
set_option maxHeartbeats 4000000 in
theorem f_Tokens_behindToken_b150_ev {h' : AH} {r : Int32} (d : Nat) (hd : 4 ≤ d)  (h : AH) (a3 : Int32) (s0 : Nat) (s1 : Int32) (s2 : Int32) (d0 : Value) (d1 : Value) (d2 : Value) (d4 : Value) (d5 : Value) (d6 : Value) (d7 : Value) (e : f_Tokens_behindToken_b150  h a3 s0 s1 s2 = some (h', r)) : Eb (Ev tb mL d) 129 (150, [d0, d1, d2, .int a3, d4, d5, d6, d7], [.int s2, .int s1, .ref s0], h) h' (some (.int r)) := by
  unfold f_Tokens_behindToken_b150 at e
  obtain ⟨g1, e⟩ := gd_some e
  obtain ⟨h2, eh2, e⟩ := bv_some e
  refine eb_cg (p := hT h s0 = 11) rfl g1 (f_Tokens_put_ev d (Nat.le_trans (by decide) hd) eh2) ?_
  show Eb _ 129 (153, [d0, d1, d2, .int a3, d4, d5, d6, d7], [], h2) _ _
  refine eb_n 3 (156, [d0, d1, d2, .int a3, d4, d5, d6, d7], [.int (a3 + (nI 1))], h2) (rfl) ?_
  rw [(sp_inj e).1, (sp_inj e).2]
  exact eb_rg (p := nrm 0 (a3 + (nI 1))) rfl (nrm_0 _)
set_option maxRecDepth 100000 in
set_option maxHeartbeats 4000000 in
theorem f_Tokens_behindToken_b115_ev {h' : AH} {r : Int32} (d : Nat) (hd : 4 ≤ d)  (h : AH) (a3 : Int32) (s0 : Nat) (s1 : Int32) (s2 : Int32) (d0 : Value) (d1 : Value) (d2 : Value) (d4 : Value) (d5 : Value) (d6 : Value) (d7 : Value) (e : f_Tokens_behindToken_b115  h a3 s0 s1 s2 = some (h', r)) : Eb (Ev tb mL d) 129 (115, [d0, d1, d2, .int a3, d4, d5, d6, d7], [.int s2, .int s1, .ref s0], h) h' (some (.int r)) := by
  unfold f_Tokens_behindToken_b115 at e
  obtain ⟨g1, e⟩ := gd_some e
  obtain ⟨h2, eh2, e⟩ := bv_some e
  refine eb_cg (p := hT h s0 = 11) rfl g1 (f_Tokens_put_ev d (Nat.le_trans (by decide) hd) eh2) ?_
  show Eb _ 129 (118, [d0, d1, d2, .int a3, d4, d5, d6, d7], [], h2) _ _
  refine eb_n 3 (121, [d0, d1, d2, .int a3, d4, d5, d6, d7], [.int (a3 + (nI 2))], h2) (rfl) ?_
  rw [(sp_inj e).1, (sp_inj e).2]
  exact eb_rg (p := nrm 0 (a3 + (nI 2))) rfl (nrm_0 _)
set_option maxRecDepth 100000 in
set_option maxHeartbeats 4000000 in
theorem f_Tokens_behindToken_b91_ev {h' : AH} {r : Int32} (d : Nat) (hd : 4 ≤ d)  (h : AH) (a0 : Nat) (a3 : Int32) (a4 : Int32) (a5 : Int32) (s0 : Int32) (d1 : Value) (d2 : Value) (d6 : Value) (d7 : Value) (e : f_Tokens_behindToken_b91  h a0 a3 a4 a5 s0 = some (h', r)) : Eb (Ev tb mL d) 129 (91, [.ref a0, d1, d2, .int a3, .int a4, .int a5, d6, d7], [.int s0], h) h' (some (.int r)) := by
  unfold f_Tokens_behindToken_b91 at e
  refine eb_n 2 (95, [.ref a0, d1, d2, .int a3, .int a4, .int a5, .int s0, d7], [.int s0], h) (rfl) ?_
  refine eb_b (c := s0 = 0) (122, [.ref a0, d1, d2, .int a3, .int a4, .int a5, .int s0, d7], [], h) (98, [.ref a0, d1, d2, .int a3, .int a4, .int a5, .int s0, d7], [], h) rfl (fun c1 => ?_) (fun c1 => ?_)
  · replace e := ite_t c1 e
    refine eb_n 3 (127, [.ref a0, d1, d2, .int a3, .int a4, .int a5, .int s0, d7], [.int (UInt32.toInt32 (Int32.toUInt32 a5 % 65536)), .ref 114], h) (rfl) ?_
    obtain ⟨g2, e⟩ := gd_some e
    obtain ⟨h3, r4, eh3, e⟩ := bn_some e
    refine eb_cg (p := hT h 114 = 15) rfl g2 (f_String_indexOf_I_ev d (Nat.le_trans (by decide) hd) eh3) ?_
    show Eb _ 129 (130, [.ref a0, d1, d2, .int a3, .int a4, .int a5, .int s0, d7], [.int r4], h3) _ _
    refine eb_n 4 (137, [.ref a0, d1, d2, .int a3, .int a4, .int a5, .int s0, .int r4], [.int r4, .int a4, .ref a0], h3) (rfl) ?_
    refine eb_b (c := 0 ≤ r4) (145, [.ref a0, d1, d2, .int a3, .int a4, .int a5, .int s0, .int r4], [.int a4, .ref a0], h3) (140, [.ref a0, d1, d2, .int a3, .int a4, .int a5, .int s0, .int r4], [.int a4, .ref a0], h3) rfl (fun c5 => ?_) (fun c5 => ?_)
    · replace e := ite_t c5 e
      refine eb_n 3 (150, [.ref a0, d1, d2, .int a3, .int a4, .int a5, .int s0, .int r4], [.int ((nI 40) + r4), .int a4, .ref a0], h3) (rfl) ?_
      exact f_Tokens_behindToken_b150_ev d hd   _ _ _ _ _ _ _ _ _ _ _ _ e
    · replace e := ite_f c5 e
      refine eb_n 2 (150, [.ref a0, d1, d2, .int a3, .int a4, .int a5, .int s0, .int r4], [.int (nI 58), .int a4, .ref a0], h3) (rfl) ?_
      exact f_Tokens_behindToken_b150_ev d hd   _ _ _ _ _ _ _ _ _ _ _ _ e
  · replace e := ite_f c1 e
    refine eb_n 4 (105, [.ref a0, d1, d2, .int a3, .int a4, .int a5, .int s0, d7], [.int (nI 60), .int a5, .int a4, .ref a0], h) (rfl) ?_
    refine eb_b (c := ¬ a5 = (nI 60)) (113, [.ref a0, d1, d2, .int a3, .int a4, .int a5, .int s0, d7], [.int a4, .ref a0], h) (108, [.ref a0, d1, d2, .int a3, .int a4, .int a5, .int s0, d7], [.int a4, .ref a0], h) rfl (fun c6 => ?_) (fun c6 => ?_)
    · replace e := ite_t c6 e
      refine eb_n 1 (115, [.ref a0, d1, d2, .int a3, .int a4, .int a5, .int s0, d7], [.int (nI 54), .int a4, .ref a0], h) (rfl) ?_
      exact f_Tokens_behindToken_b115_ev d hd   _ _ _ _ _ _ _ _ _ _ _ _ e
    · replace e := ite_f c6 e
      refine eb_n 2 (115, [.ref a0, d1, d2, .int a3, .int a4, .int a5, .int s0, d7], [.int (nI 53), .int a4, .ref a0], h) (rfl) ?_
      exact f_Tokens_behindToken_b115_ev d hd   _ _ _ _ _ _ _ _ _ _ _ _ e
set_option maxRecDepth 100000 in
set_option maxHeartbeats 4000000 in
theorem f_Tokens_behindToken_b90_ev {h' : AH} {r : Int32} (d : Nat) (hd : 4 ≤ d)  (h : AH) (a0 : Nat) (a3 : Int32) (a4 : Int32) (a5 : Int32)  (d1 : Value) (d2 : Value) (d6 : Value) (d7 : Value) (e : f_Tokens_behindToken_b90  h a0 a3 a4 a5 = some (h', r)) : Eb (Ev tb mL d) 129 (90, [.ref a0, d1, d2, .int a3, .int a4, .int a5, d6, d7], [], h) h' (some (.int r)) := by
  unfold f_Tokens_behindToken_b90 at e
  refine eb_n 1 (91, [.ref a0, d1, d2, .int a3, .int a4, .int a5, d6, d7], [.int (nI 0)], h) (rfl) ?_
  exact f_Tokens_behindToken_b91_ev d hd   _ _ _ _ _ _ _ _ _ _ e
set_option maxRecDepth 100000 in
set_option maxHeartbeats 4000000 in
theorem f_Tokens_behindToken_b73_ev {h' : AH} {r : Int32} (d : Nat) (hd : 4 ≤ d)  (h : AH) (a0 : Nat) (a1 : Nat) (a2 : Int32) (a3 : Int32) (a4 : Int32) (a5 : Int32)  (d6 : Value) (d7 : Value) (e : f_Tokens_behindToken_b73  h a0 a1 a2 a3 a4 a5 = some (h', r)) : Eb (Ev tb mL d) 129 (73, [.ref a0, .ref a1, .int a2, .int a3, .int a4, .int a5, d6, d7], [], h) h' (some (.int r)) := by
  unfold f_Tokens_behindToken_b73 at e
  refine eb_n 5 (78, [.ref a0, .ref a1, .int a2, .int a3, .int a4, .int a5, d6, d7], [.int (a3 + (nI 1)), .int a2, .ref a1], h) (rfl) ?_
  obtain ⟨h1, r2, eh1, e⟩ := bn_some e
  refine eb_c rfl (f_Tokens_signAt_ev d (Nat.le_trans (by decide) hd) eh1) ?_
  show Eb _ 129 (81, [.ref a0, .ref a1, .int a2, .int a3, .int a4, .int a5, d6, d7], [.int r2], h1) _ _
  refine eb_n 1 (83, [.ref a0, .ref a1, .int a2, .int a3, .int a4, .int a5, d6, d7], [.int (nI 61), .int r2], h1) (rfl) ?_
  refine eb_b (c := ¬ r2 = (nI 61)) (90, [.ref a0, .ref a1, .int a2, .int a3, .int a4, .int a5, d6, d7], [], h1) (86, [.ref a0, .ref a1, .int a2, .int a3, .int a4, .int a5, d6, d7], [], h1) rfl (fun c3 => ?_) (fun c3 => ?_)
  · replace e := ite_t c3 e
    exact f_Tokens_behindToken_b90_ev d hd   _ _ _ _ _ _ _ _ _ e
  · replace e := ite_f c3 e
    refine eb_n 2 (91, [.ref a0, .ref a1, .int a2, .int a3, .int a4, .int a5, d6, d7], [.int (nI 1)], h1) (rfl) ?_
    exact f_Tokens_behindToken_b91_ev d hd   _ _ _ _ _ _ _ _ _ _ e
set_option maxRecDepth 100000 in
set_option maxHeartbeats 4000000 in
theorem f_Tokens_behindToken_ev (d0 : Nat) (hd0 : 5 ≤ d0) {h' : AH} {r : Int32} {h : AH} {a0 : Nat} {a1 : Nat} {a2 : Int32} {a3 : Int32} {a4 : Int32} (e : f_Tokens_behindToken h a0 a1 a2 a3 a4 = some (h', r)) : Ev tb mL d0 129 [.ref a0, .ref a1, .int a2, .int a3, .int a4] h h' (some (.int r)) := by
  obtain ⟨d, rfl⟩ : ∃ d, d0 = d + 1 := ⟨d0 - 1, by omega⟩
  have hd : 4 ≤ d := by omega
  refine ⟨Nat.le_of_ble_eq_true rfl, ?_⟩
  show Eb (Ev tb mL d) 129 (0, [.ref a0, .ref a1, .int a2, .int a3, .int a4, .retAddr 0, .retAddr 0, .retAddr 0], [], h) h' (some (.int r))
  unfold f_Tokens_behindToken at e
  refine eb_n 3 (3, [.ref a0, .ref a1, .int a2, .int a3, .int a4, .retAddr 0, .retAddr 0, .retAddr 0], [.int a3, .int a2, .ref a1], h) (rfl) ?_
  obtain ⟨h1, r2, eh1, e⟩ := bn_some e
  refine eb_c rfl (f_Tokens_signAt_ev d (Nat.le_trans (by decide) hd) eh1) ?_
  show Eb _ 129 (6, [.ref a0, .ref a1, .int a2, .int a3, .int a4, .retAddr 0, .retAddr 0, .retAddr 0], [.int r2], h1) _ _
  refine eb_n 3 (10, [.ref a0, .ref a1, .int a2, .int a3, .int a4, .int r2, .retAddr 0, .retAddr 0], [.int a2, .int a3], h1) (rfl) ?_
  refine eb_b (c := a3 < a2) (23, [.ref a0, .ref a1, .int a2, .int a3, .int a4, .int r2, .retAddr 0, .retAddr 0], [], h1) (13, [.ref a0, .ref a1, .int a2, .int a3, .int a4, .int r2, .retAddr 0, .retAddr 0], [], h1) rfl (fun c3 => ?_) (fun c3 => ?_)
  · replace e := ite_t c3 e
    refine eb_n 1 (25, [.ref a0, .ref a1, .int a2, .int a3, .int a4, .int r2, .retAddr 0, .retAddr 0], [.int r2], h1) (rfl) ?_
    obtain ⟨h4, r5, eh4, e⟩ := bn_some e
    refine eb_c rfl (f_Tokens_isLetter_ev d (Nat.le_trans (by decide) hd) eh4) ?_
    show Eb _ 129 (28, [.ref a0, .ref a1, .int a2, .int a3, .int a4, .int r2, .retAddr 0, .retAddr 0], [.int r5], h4) _ _
    refine eb_b (c := r5 = 0) (41, [.ref a0, .ref a1, .int a2, .int a3, .int a4, .int r2, .retAddr 0, .retAddr 0], [], h4) (31, [.ref a0, .ref a1, .int a2, .int a3, .int a4, .int r2, .retAddr 0, .retAddr 0], [], h4) rfl (fun c6 => ?_) (fun c6 => ?_)
    · replace e := ite_t c6 e
      refine eb_n 1 (43, [.ref a0, .ref a1, .int a2, .int a3, .int a4, .int r2, .retAddr 0, .retAddr 0], [.int r2], h4) (rfl) ?_
      obtain ⟨h7, r8, eh7, e⟩ := bn_some e
      refine eb_c rfl (f_Tokens_isDigit_ev d (Nat.le_trans (by decide) hd) eh7) ?_
      show Eb _ 129 (46, [.ref a0, .ref a1, .int a2, .int a3, .int a4, .int r2, .retAddr 0, .retAddr 0], [.int r8], h7) _ _
      refine eb_b (c := r8 = 0) (59, [.ref a0, .ref a1, .int a2, .int a3, .int a4, .int r2, .retAddr 0, .retAddr 0], [], h7) (49, [.ref a0, .ref a1, .int a2, .int a3, .int a4, .int r2, .retAddr 0, .retAddr 0], [], h7) rfl (fun c9 => ?_) (fun c9 => ?_)
      · replace e := ite_t c9 e
        refine eb_n 2 (63, [.ref a0, .ref a1, .int a2, .int a3, .int a4, .int r2, .retAddr 0, .retAddr 0], [.int (nI 60), .int r2], h7) (rfl) ?_
        refine eb_b (c := r2 = (nI 60)) (73, [.ref a0, .ref a1, .int a2, .int a3, .int a4, .int r2, .retAddr 0, .retAddr 0], [], h7) (66, [.ref a0, .ref a1, .int a2, .int a3, .int a4, .int r2, .retAddr 0, .retAddr 0], [], h7) rfl (fun c10 => ?_) (fun c10 => ?_)
        · replace e := ite_t c10 e
          exact f_Tokens_behindToken_b73_ev d hd   _ _ _ _ _ _ _ _ _ e
        · replace e := ite_f c10 e
          refine eb_n 2 (70, [.ref a0, .ref a1, .int a2, .int a3, .int a4, .int r2, .retAddr 0, .retAddr 0], [.int (nI 62), .int r2], h7) (rfl) ?_
          refine eb_b (c := ¬ r2 = (nI 62)) (90, [.ref a0, .ref a1, .int a2, .int a3, .int a4, .int r2, .retAddr 0, .retAddr 0], [], h7) (73, [.ref a0, .ref a1, .int a2, .int a3, .int a4, .int r2, .retAddr 0, .retAddr 0], [], h7) rfl (fun c11 => ?_) (fun c11 => ?_)
          · replace e := ite_t c11 e
            exact f_Tokens_behindToken_b90_ev d hd   _ _ _ _ _ _ _ _ _ e
          · replace e := ite_f c11 e
            exact f_Tokens_behindToken_b73_ev d hd   _ _ _ _ _ _ _ _ _ e
      · replace e := ite_f c9 e
        refine eb_n 5 (55, [.ref a0, .ref a1, .int a2, .int a3, .int a4, .int r2, .retAddr 0, .retAddr 0], [.int a4, .int a3, .int a2, .ref a1, .ref a0], h7) (rfl) ?_
        obtain ⟨g12, e⟩ := gd_some e
        obtain ⟨h13, r14, eh13, e⟩ := bn_some e
        refine eb_cg (p := hT h7 a0 = 11) rfl g12 (f_Tokens_behindNumber_ev d (Nat.le_trans (by decide) hd) eh13) ?_
        show Eb _ 129 (58, [.ref a0, .ref a1, .int a2, .int a3, .int a4, .int r2, .retAddr 0, .retAddr 0], [.int r14], h13) _ _
        rw [(sp_inj e).1, (sp_inj e).2]
        exact eb_rg (p := nrm 0 r14) rfl (nrm_0 _)
    · replace e := ite_f c6 e
      refine eb_n 5 (37, [.ref a0, .ref a1, .int a2, .int a3, .int a4, .int r2, .retAddr 0, .retAddr 0], [.int a4, .int a3, .int a2, .ref a1, .ref a0], h4) (rfl) ?_
      obtain ⟨g15, e⟩ := gd_some e
      obtain ⟨h16, r17, eh16, e⟩ := bn_some e
      refine eb_cg (p := hT h4 a0 = 11) rfl g15 (f_Tokens_behindWord_ev d (Nat.le_trans (by decide) hd) eh16) ?_
      show Eb _ 129 (40, [.ref a0, .ref a1, .int a2, .int a3, .int a4, .int r2, .retAddr 0, .retAddr 0], [.int r17], h16) _ _
      rw [(sp_inj e).1, (sp_inj e).2]
      exact eb_rg (p := nrm 0 r17) rfl (nrm_0 _)
  · replace e := ite_f c3 e
    refine eb_n 3 (18, [.ref a0, .ref a1, .int a2, .int a3, .int a4, .int r2, .retAddr 0, .retAddr 0], [.int (nI 57), .int a4, .ref a0], h1) (rfl) ?_
    obtain ⟨g18, e⟩ := gd_some e
    obtain ⟨h19, eh19, e⟩ := bv_some e
    refine eb_cg (p := hT h1 a0 = 11) rfl g18 (f_Tokens_put_ev d (Nat.le_trans (by decide) hd) eh19) ?_
    show Eb _ 129 (21, [.ref a0, .ref a1, .int a2, .int a3, .int a4, .int r2, .retAddr 0, .retAddr 0], [], h19) _ _
    refine eb_n 1 (22, [.ref a0, .ref a1, .int a2, .int a3, .int a4, .int r2, .retAddr 0, .retAddr 0], [.int a3], h19) (rfl) ?_
    rw [(sp_inj e).1, (sp_inj e).2]
    exact eb_rg (p := nrm 0 a3) rfl (nrm_0 _)
set_option maxRecDepth 100000 in
set_option maxHeartbeats 4000000 in
theorem f_Tokens_behindLast_b14_ev {h' : AH} {r : Int32} (d : Nat) (hd : 1 ≤ d)  (h : AH) (a2 : Int32) (s0 : Nat) (s1 : Int32) (s2 : Int32) (d0 : Value) (d1 : Value) (d3 : Value) (e : f_Tokens_behindLast_b14  h a2 s0 s1 s2 = some (h', r)) : Eb (Ev tb mL d) 130 (14, [d0, d1, .int a2, d3], [.int s2, .int s1, .ref s0], h) h' (some (.int r)) := by
  unfold f_Tokens_behindLast_b14 at e
  obtain ⟨g1, e⟩ := gd_some e
  obtain ⟨h2, eh2, e⟩ := bv_some e
  refine eb_cg (p := hT h s0 = 11) rfl g1 (f_Tokens_put_ev d (Nat.le_trans (by decide) hd) eh2) ?_
  show Eb _ 130 (17, [d0, d1, .int a2, d3], [], h2) _ _
  refine eb_n 1 (18, [d0, d1, .int a2, d3], [.int a2], h2) (rfl) ?_
  rw [(sp_inj e).1, (sp_inj e).2]
  exact eb_rg (p := nrm 0 a2) rfl (nrm_0 _)
set_option maxRecDepth 100000 in
set_option maxHeartbeats 4000000 in
theorem f_Tokens_behindLast_ev (d0 : Nat) (hd0 : 2 ≤ d0) {h' : AH} {r : Int32} {h : AH} {a0 : Nat} {a1 : Int32} {a2 : Int32} {a3 : Int32} (e : f_Tokens_behindLast h a0 a1 a2 a3 = some (h', r)) : Ev tb mL d0 130 [.ref a0, .int a1, .int a2, .int a3] h h' (some (.int r)) := by
  obtain ⟨d, rfl⟩ : ∃ d, d0 = d + 1 := ⟨d0 - 1, by omega⟩
  have hd : 1 ≤ d := by omega
  refine ⟨Nat.le_of_ble_eq_true rfl, ?_⟩
  show Eb (Ev tb mL d) 130 (0, [.ref a0, .int a1, .int a2, .int a3], [], h) h' (some (.int r))
  unfold f_Tokens_behindLast at e
  refine eb_n 4 (4, [.ref a0, .int a1, .int a2, .int a3], [.int a1, .int a2, .int a3, .ref a0], h) (rfl) ?_
  refine eb_b (c := a2 < a1) (12, [.ref a0, .int a1, .int a2, .int a3], [.int a3, .ref a0], h) (7, [.ref a0, .int a1, .int a2, .int a3], [.int a3, .ref a0], h) rfl (fun c1 => ?_) (fun c1 => ?_)
  · replace e := ite_t c1 e
    refine eb_n 1 (14, [.ref a0, .int a1, .int a2, .int a3], [.int (nI 58), .int a3, .ref a0], h) (rfl) ?_
    exact f_Tokens_behindLast_b14_ev d hd   _ _ _ _ _ _ _ _ e
  · replace e := ite_f c1 e
    refine eb_n 2 (14, [.ref a0, .int a1, .int a2, .int a3], [.int (nI 57), .int a3, .ref a0], h) (rfl) ?_
    exact f_Tokens_behindLast_b14_ev d hd   _ _ _ _ _ _ _ _ e
set_option maxRecDepth 100000 in
set_option maxHeartbeats 4000000 in
theorem f_Tokens_split_b76_ev {h' : AH} (d : Nat) (hd : 5 ≤ d) (k18 : AH → Nat → Nat → Int32 → Int32 → Int32 → Option AH) (hk18 : ∀ (h : AH) (a0 : Nat) (a1 : Nat) (a3 : Int32) (a4 : Int32) (a5 : Int32)  (d2 : Value), k18 h a0 a1 a3 a4 a5 = some h' → Eb (Ev tb mL d) 95 (18, [.ref a0, .ref a1, d2, .int a3, .int a4, .int a5], [], h) h' none)  (h : AH) (a0 : Nat) (a1 : Nat) (a3 : Int32) (a5 : Int32) (s0 : Int32) (d2 : Value) (d4 : Value) (e : f_Tokens_split_b76 k18 h a0 a1 a3 a5 s0 = some h') : Eb (Ev tb mL d) 95 (76, [.ref a0, .ref a1, d2, .int a3, d4, .int a5], [.int s0], h) h' none := by
  unfold f_Tokens_split_b76 at e
  refine eb_n 2 (79, [.ref a0, .ref a1, d2, .int a3, .int s0, .int a5], [.ref a0], h) (rfl) ?_
  obtain ⟨g1, e⟩ := gd_some e
  refine eb_g (p := hT h a0 = 11) (82, [.ref a0, .ref a1, d2, .int a3, .int s0, .int a5], [.ref (hR h a0 1)], h) rfl g1 ?_
  refine eb_n 1 (84, [.ref a0, .ref a1, d2, .int a3, .int s0, .int a5], [.int a5, .ref (hR h a0 1)], h) (rfl) ?_
  obtain ⟨g2, e⟩ := gd_some e
  refine eb_g (p := hT h (hR h a0 1) = 101 ∧ inb a5 (hL h (hR h a0 1))) (85, [.ref a0, .ref a1, d2, .int a3, .int s0, .int a5], [.int (hI h (hR h a0 1) (ix a5))], h) rfl g2 ?_
  refine eb_n 1 (87, [.ref a0, .ref a1, d2, .int a3, .int s0, .int a5], [.int (nI 57), .int (hI h (hR h a0 1) (ix a5))], h) (rfl) ?_
  refine eb_b (c := (hI h (hR h a0 1) (ix a5)) = (nI 57)) (102, [.ref a0, .ref a1, d2, .int a3, .int s0, .int a5], [], h) (90, [.ref a0, .ref a1, d2, .int a3, .int s0, .int a5], [], h) rfl (fun c3 => ?_) (fun c3 => ?_)
  · replace e := ite_t c3 e
    rw [sv_inj e]
    exact eb_r rfl
  · replace e := ite_f c3 e
    refine eb_n 1 (91, [.ref a0, .ref a1, d2, .int a3, .int s0, .int a5], [.ref a0], h) (rfl) ?_
    refine eb_g (p := hT h a0 = 11) (94, [.ref a0, .ref a1, d2, .int a3, .int s0, .int a5], [.ref (hR h a0 1)], h) rfl g1 ?_
    refine eb_n 1 (96, [.ref a0, .ref a1, d2, .int a3, .int s0, .int a5], [.int a5, .ref (hR h a0 1)], h) (rfl) ?_
    refine eb_g (p := hT h (hR h a0 1) = 101 ∧ inb a5 (hL h (hR h a0 1))) (97, [.ref a0, .ref a1, d2, .int a3, .int s0, .int a5], [.int (hI h (hR h a0 1) (ix a5))], h) rfl g2 ?_
    refine eb_n 1 (99, [.ref a0, .ref a1, d2, .int a3, .int s0, .int a5], [.int (nI 58), .int (hI h (hR h a0 1) (ix a5))], h) (rfl) ?_
    refine eb_b (c := ¬ (hI h (hR h a0 1) (ix a5)) = (nI 58)) (103, [.ref a0, .ref a1, d2, .int a3, .int s0, .int a5], [], h) (102, [.ref a0, .ref a1, d2, .int a3, .int s0, .int a5], [], h) rfl (fun c4 => ?_) (fun c4 => ?_)
    · replace e := ite_t c4 e
      refine eb_n 4 (108, [.ref a0, .ref a1, d2, .int a3, .int s0, .int a5], [.int (a5 + (nI 1)), .ref a0], h) (rfl) ?_
      obtain ⟨h5, eh5, e⟩ := lq_some e
      refine eb_g (p := hT h a0 = 11) (111, [.ref a0, .ref a1, d2, .int a3, .int s0, .int a5], [], h5) (by rw [eh5]; rfl) g1 ?_
      obtain ⟨x6, hx6, e⟩ := lq_some e
      refine eb_n 1 (114, [.ref a0, .ref a1, d2, .int a3, .int s0, .int x6], [], h5) (by subst hx6; rfl) ?_
      refine eb_n 1 (18, [.ref a0, .ref a1, d2, .int a3, .int s0, .int x6], [], h5) (rfl) ?_
      exact hk18 _ _ _ _ _ _ _ e
    · replace e := ite_f c4 e
      rw [sv_inj e]
      exact eb_r rfl
set_option maxRecDepth 100000 in
set_option maxHeartbeats 4000000 in
theorem f_Tokens_split_b18_ev {h' : AH} (d : Nat) (hd : 5 ≤ d) (k18 : AH → Nat → Nat → Int32 → Int32 → Int32 → Option AH) (hk18 : ∀ (h : AH) (a0 : Nat) (a1 : Nat) (a3 : Int32) (a4 : Int32) (a5 : Int32)  (d2 : Value), k18 h a0 a1 a3 a4 a5 = some h' → Eb (Ev tb mL d) 95 (18, [.ref a0, .ref a1, d2, .int a3, .int a4, .int a5], [], h) h' none)  (h : AH) (a0 : Nat) (a1 : Nat) (a3 : Int32) (a4 : Int32) (a5 : Int32)  (d2 : Value) (e : f_Tokens_split_b18 k18 h a0 a1 a3 a4 a5 = some h') : Eb (Ev tb mL d) 95 (18, [.ref a0, .ref a1, d2, .int a3, .int a4, .int a5], [], h) h' none := by
  unfold f_Tokens_split_b18 at e
  refine eb_n 2 (21, [.ref a0, .ref a1, d2, .int a3, .int a4, .int a5], [.ref a0, .int a5], h) (rfl) ?_
  obtain ⟨g1, e⟩ := gd_some e
  refine eb_g (p := hT h a0 = 11) (24, [.ref a0, .ref a1, d2, .int a3, .int a4, .int a5], [.ref (hR h a0 1), .int a5], h) rfl g1 ?_
  obtain ⟨g2, e⟩ := gd_some e
  refine eb_g (p := hT h (hR h a0 1) = 101) (25, [.ref a0, .ref a1, d2, .int a3, .int a4, .int a5], [.int (nI (hL h (hR h a0 1))), .int a5], h) rfl g2 ?_
  refine eb_b (c := (nI (hL h (hR h a0 1))) ≤ a5) (117, [.ref a0, .ref a1, d2, .int a3, .int a4, .int a5], [], h) (28, [.ref a0, .ref a1, d2, .int a3, .int a4, .int a5], [], h) rfl (fun c3 => ?_) (fun c3 => ?_)
  · replace e := ite_t c3 e
    rw [sv_inj e]
    exact eb_r rfl
  · replace e := ite_f c3 e
    refine eb_n 3 (32, [.ref a0, .ref a1, d2, .int a3, .int a4, .int a5], [.int a4, .int a3, .ref a1], h) (rfl) ?_
    obtain ⟨h4, r5, eh4, e⟩ := bn_some e
    refine eb_c rfl (f_Tokens_behindBlanks_ev d (Nat.le_trans (by decide) hd) eh4) ?_
    show Eb _ 95 (35, [.ref a0, .ref a1, d2, .int a3, .int a4, .int a5], [.int r5], h4) _ _
    refine eb_n 2 (38, [.ref a0, .ref a1, d2, .int a3, .int r5, .int a5], [.ref a0], h4) (rfl) ?_
    obtain ⟨g6, e⟩ := gd_some e
    refine eb_g (p := hT h4 a0 = 11) (41, [.ref a0, .ref a1, d2, .int a3, .int r5, .int a5], [.ref (hR h4 a0 2)], h4) rfl g6 ?_
    refine eb_n 2 (45, [.ref a0, .ref a1, d2, .int a3, .int r5, .int a5], [.int r5, .int a5, .ref (hR h4 a0 2)], h4) (rfl) ?_
    obtain ⟨g7, e⟩ := gd_some e
    obtain ⟨h8, eh8, e⟩ := lq_some e
    refine eb_g (p := hT h4 (hR h4 a0 2) = 101 ∧ inb a5 (hL h4 (hR h4 a0 2))) (46, [.ref a0, .ref a1, d2, .int a3, .int r5, .int a5], [], h8) (by rw [eh8]; rfl) g7 ?_
    refine eb_n 2 (51, [.ref a0, .ref a1, d2, .int a3, .int r5, .int a5], [.int (nI 400), .int a5], h8) (rfl) ?_
    refine eb_b (c := (nI 400) ≤ a5) (67, [.ref a0, .ref a1, d2, .int a3, .int r5, .int a5], [], h8) (54, [.ref a0, .ref a1, d2, .int a3, .int r5, .int a5], [], h8) rfl (fun c9 => ?_) (fun c9 => ?_)
    · replace e := ite_t c9 e
      refine eb_n 4 (73, [.ref a0, .ref a1, d2, .int a3, .int r5, .int a5], [.int a5, .int r5, .int a3, .ref a0], h8) (rfl) ?_
      obtain ⟨g10, e⟩ := gd_some e
      obtain ⟨h11, r12, eh11, e⟩ := bn_some e
      refine eb_cg (p := hT h8 a0 = 11) rfl g10 (f_Tokens_behindLast_ev d (Nat.le_trans (by decide) hd) eh11) ?_
      show Eb _ 95 (76, [.ref a0, .ref a1, d2, .int a3, .int r5, .int a5], [.int r12], h11) _ _
      exact f_Tokens_split_b76_ev d hd k18 hk18 _ _ _ _ _ _ _ _ e
    · replace e := ite_f c9 e
      refine eb_n 5 (61, [.ref a0, .ref a1, d2, .int a3, .int r5, .int a5], [.int a5, .int r5, .int a3, .ref a1, .ref a0], h8) (rfl) ?_
      obtain ⟨g13, e⟩ := gd_some e
      obtain ⟨h14, r15, eh14, e⟩ := bn_some e
      refine eb_cg (p := hT h8 a0 = 11) rfl g13 (f_Tokens_behindToken_ev d (Nat.le_trans (by decide) hd) eh14) ?_
      show Eb _ 95 (64, [.ref a0, .ref a1, d2, .int a3, .int r5, .int a5], [.int r15], h14) _ _
      refine eb_n 1 (76, [.ref a0, .ref a1, d2, .int a3, .int r5, .int a5], [.int r15], h14) (rfl) ?_
      exact f_Tokens_split_b76_ev d hd k18 hk18 _ _ _ _ _ _ _ _ e
set_option maxRecDepth 100000 in
set_option maxHeartbeats 4000000 in
theorem f_Tokens_split_l18_ev {h' : AH} (d : Nat) (hd : 5 ≤ d)  : ∀ (n : Nat) (h : AH) (a0 : Nat) (a1 : Nat) (a3 : Int32) (a4 : Int32) (a5 : Int32)  (d2 : Value) (_ : f_Tokens_split_l18  n h a0 a1 a3 a4 a5 = some h'), Eb (Ev tb mL d) 95 (18, [.ref a0, .ref a1, d2, .int a3, .int a4, .int a5], [], h) h' none := by
  intro n
  induction n with
  | zero => intro h a0 a1 a3 a4 a5 d2 e; exact nomatch e
  | succ n ih =>
    intro h a0 a1 a3 a4 a5 d2 e
    exact f_Tokens_split_b18_ev d hd _ (fun h a0 a1 a3 a4 a5 d2 e => ih h a0 a1 a3 a4 a5 d2 e) h a0 a1 a3 a4 a5 d2 e
set_option maxRecDepth 100000 in
set_option maxHeartbeats 4000000 in
theorem f_Tokens_split_ev (d0 : Nat) (hd0 : 6 ≤ d0) {h' : AH} {h : AH} {a0 : Nat} {a1 : Nat} {a2 : Int32} (e : f_Tokens_split h a0 a1 a2 = some h') : Ev tb mL d0 95 [.ref a0, .ref a1, .int a2] h h' none := by
  obtain ⟨d, rfl⟩ : ∃ d, d0 = d + 1 := ⟨d0 - 1, by omega⟩
  have hd : 5 ≤ d := by omega
  refine ⟨Nat.le_of_ble_eq_true rfl, ?_⟩
  show Eb (Ev tb mL d) 95 (0, [.ref a0, .ref a1, .int a2, .retAddr 0, .retAddr 0, .retAddr 0], [], h) h' none
  unfold f_Tokens_split at e
  refine eb_n 2 (2, [.ref a0, .ref a1, .int a2, .retAddr 0, .retAddr 0, .retAddr 0], [.ref a1, .int a2], h) (rfl) ?_
  obtain ⟨g1, e⟩ := gd_some e
  refine eb_g (p := hT h a1 = 102) (3, [.ref a0, .ref a1, .int a2, .retAddr 0, .retAddr 0, .retAddr 0], [.int (nI (hL h a1)), .int a2], h) rfl g1 ?_
  obtain ⟨h2, r3, eh2, e⟩ := bn_some e
  refine eb_c rfl (f_Math_min_ev d (Nat.le_trans (by decide) hd) eh2) ?_
  show Eb _ 95 (6, [.ref a0, .ref a1, .int a2, .retAddr 0, .retAddr 0, .retAddr 0], [.int r3], h2) _ _
  refine eb_n 5 (12, [.ref a0, .ref a1, .int a2, .int r3, .int (nI 0), .retAddr 0], [.int (nI 0), .ref a0], h2) (rfl) ?_
  obtain ⟨g4, e⟩ := gd_some e
  obtain ⟨h5, eh5, e⟩ := lq_some e
  refine eb_g (p := hT h2 a0 = 11) (15, [.ref a0, .ref a1, .int a2, .int r3, .int (nI 0), .retAddr 0], [], h5) (by rw [eh5]; rfl) g4 ?_
  refine eb_n 2 (18, [.ref a0, .ref a1, .int a2, .int r3, .int (nI 0), .int (nI 0)], [], h5) (rfl) ?_
  exact f_Tokens_split_l18_ev d hd   FU _ _ _ _ _ _ _ e
set_option maxRecDepth 100000 in
set_option maxHeartbeats 4000000 in
theorem f_Tokens_kindOf_I_b30_ev {h' : AH} {r : Int32} (d : Nat) (hd : 0 ≤ d)  (h : AH)   (d0 : Value) (d1 : Value) (e : f_Tokens_kindOf_I_b30  h  = some (h', r)) : Eb (Ev tb mL d) 131 (30, [d0, d1], [], h) h' (some (.int r)) := by
  unfold f_Tokens_kindOf_I_b30 at e
  refine eb_n 1 (32, [d0, d1], [.int (nI 57)], h) (rfl) ?_
  rw [(sp_inj e).1, (sp_inj e).2]
  exact eb_rg (p := nrm 0 (nI 57)) rfl (nrm_0 _)
set_option maxRecDepth 100000 in
set_option maxHeartbeats 4000000 in
theorem f_Tokens_kindOf_I_ev (d0 : Nat) (hd0 : 1 ≤ d0) {h' : AH} {r : Int32} {h : AH} {a0 : Nat} {a1 : Int32} (e : f_Tokens_kindOf_I h a0 a1 = some (h', r)) : Ev tb mL d0 131 [.ref a0, .int a1] h h' (some (.int r)) := by
  obtain ⟨d, rfl⟩ : ∃ d, d0 = d + 1 := ⟨d0 - 1, by omega⟩
  have hd : 0 ≤ d := by omega
  refine ⟨Nat.le_of_ble_eq_true rfl, ?_⟩
  show Eb (Ev tb mL d) 131 (0, [.ref a0, .int a1], [], h) h' (some (.int r))
  unfold f_Tokens_kindOf_I at e
  refine eb_n 1 (1, [.ref a0, .int a1], [.int a1], h) (rfl) ?_
  refine eb_b (c := a1 < 0) (30, [.ref a0, .int a1], [], h) (4, [.ref a0, .int a1], [], h) rfl (fun c1 => ?_) (fun c1 => ?_)
  · replace e := ite_t c1 e
    exact f_Tokens_kindOf_I_b30_ev d hd   _  _ _ e
  · replace e := ite_f c1 e
    refine eb_n 2 (6, [.ref a0, .int a1], [.ref a0, .int a1], h) (rfl) ?_
    obtain ⟨g2, e⟩ := gd_some e
    refine eb_g (p := hT h a0 = 11) (9, [.ref a0, .int a1], [.ref (hR h a0 1), .int a1], h) rfl g2 ?_
    obtain ⟨g3, e⟩ := gd_some e
    refine eb_g (p := hT h (hR h a0 1) = 101) (10, [.ref a0, .int a1], [.int (nI (hL h (hR h a0 1))), .int a1], h) rfl g3 ?_
    refine eb_b (c := (nI (hL h (hR h a0 1))) ≤ a1) (30, [.ref a0, .int a1], [], h) (13, [.ref a0, .int a1], [], h) rfl (fun c4 => ?_) (fun c4 => ?_)
    · replace e := ite_t c4 e
      exact f_Tokens_kindOf_I_b30_ev d hd   _  _ _ e
    · replace e := ite_f c4 e
      refine eb_n 2 (15, [.ref a0, .int a1], [.ref a0, .int a1], h) (rfl) ?_
      refine eb_g (p := hT h a0 = 11) (18, [.ref a0, .int a1], [.int (hI h a0 5), .int a1], h) rfl g2 ?_
      refine eb_b (c := (hI h a0 5) < a1) (30, [.ref a0, .int a1], [], h) (21, [.ref a0, .int a1], [], h) rfl (fun c5 => ?_) (fun c5 => ?_)
      · replace e := ite_t c5 e
        exact f_Tokens_kindOf_I_b30_ev d hd   _  _ _ e
      · replace e := ite_f c5 e
        refine eb_n 1 (22, [.ref a0, .int a1], [.ref a0], h) (rfl) ?_
        refine eb_g (p := hT h a0 = 11) (25, [.ref a0, .int a1], [.ref (hR h a0 1)], h) rfl g2 ?_
        refine eb_n 1 (26, [.ref a0, .int a1], [.int a1, .ref (hR h a0 1)], h) (rfl) ?_
        obtain ⟨g6, e⟩ := gd_some e
        refine eb_g (p := hT h (hR h a0 1) = 101 ∧ inb a1 (hL h (hR h a0 1))) (27, [.ref a0, .int a1], [.int (hI h (hR h a0 1) (ix a1))], h) rfl g6 ?_
        refine eb_n 1 (32, [.ref a0, .int a1], [.int (hI h (hR h a0 1) (ix a1))], h) (rfl) ?_
        rw [(sp_inj e).1, (sp_inj e).2]
        exact eb_rg (p := nrm 0 (hI h (hR h a0 1) (ix a1))) rfl (nrm_0 _)
set_option maxRecDepth 100000 in
set_option maxHeartbeats 4000000 in
theorem f_Orders_clear_ev (d0 : Nat) (hd0 : 1 ≤ d0) {h' : AH} {h : AH} {a0 : Nat} (e : f_Orders_clear h a0 = some h') : Ev tb mL d0 132 [.ref a0] h h' none := by
  obtain ⟨d, rfl⟩ : ∃ d, d0 = d + 1 := ⟨d0 - 1, by omega⟩
  have hd : 0 ≤ d := by omega
  refine ⟨Nat.le_of_ble_eq_true rfl, ?_⟩
  show Eb (Ev tb mL d) 132 (0, [.ref a0], [], h) h' none
  unfold f_Orders_clear at e
  refine eb_n 2 (2, [.ref a0], [.int (nI 0), .ref a0], h) (rfl) ?_
  obtain ⟨g1, e⟩ := gd_some e
  obtain ⟨h2, eh2, e⟩ := lq_some e
  refine eb_g (p := hT h a0 = 2) (5, [.ref a0], [], h2) (by rw [eh2]; rfl) g1 ?_
  rw [sv_inj e]
  exact eb_r rfl
set_option maxRecDepth 100000 in
set_option maxHeartbeats 4000000 in
theorem f_Grammar_reads_ev (d0 : Nat) (hd0 : 2 ≤ d0) {h' : AH} {r : Int32} {h : AH} {a0 : Nat} {a1 : Int32} (e : f_Grammar_reads h a0 a1 = some (h', r)) : Ev tb mL d0 134 [.ref a0, .int a1] h h' (some (.int r)) := by
  obtain ⟨d, rfl⟩ : ∃ d, d0 = d + 1 := ⟨d0 - 1, by omega⟩
  have hd : 1 ≤ d := by omega
  refine ⟨Nat.le_of_ble_eq_true rfl, ?_⟩
  show Eb (Ev tb mL d) 134 (0, [.ref a0, .int a1], [], h) h' (some (.int r))
  unfold f_Grammar_reads at e
  refine eb_n 1 (1, [.ref a0, .int a1], [.ref a0], h) (rfl) ?_
  obtain ⟨g1, e⟩ := gd_some e
  refine eb_g (p := hT h a0 = 10) (4, [.ref a0, .int a1], [.int (hI h a0 3)], h) rfl g1 ?_
  refine eb_n 1 (5, [.ref a0, .int a1], [.int a1, .int (hI h a0 3)], h) (rfl) ?_
  refine eb_b (c := (hI h a0 3) = a1) (10, [.ref a0, .int a1], [], h) (8, [.ref a0, .int a1], [], h) rfl (fun c2 => ?_) (fun c2 => ?_)
  · replace e := ite_t c2 e
    refine eb_n 2 (12, [.ref a0, .int a1], [.ref a0, .ref a0], h) (rfl) ?_
    refine eb_g (p := hT h a0 = 10) (15, [.ref a0, .int a1], [.int (hI h a0 2), .ref a0], h) rfl g1 ?_
    refine eb_n 2 (17, [.ref a0, .int a1], [.int ((hI h a0 2) + (nI 1)), .ref a0], h) (rfl) ?_
    obtain ⟨h3, eh3, e⟩ := lq_some e
    refine eb_g (p := hT h a0 = 10) (20, [.ref a0, .int a1], [], h3) (by rw [eh3]; rfl) g1 ?_
    refine eb_n 2 (22, [.ref a0, .int a1], [.ref a0, .ref a0], h3) (rfl) ?_
    obtain ⟨g4, e⟩ := gd_some e
    refine eb_g (p := hT h3 a0 = 10) (25, [.ref a0, .int a1], [.ref (hR h3 a0 0), .ref a0], h3) rfl g4 ?_
    refine eb_n 1 (26, [.ref a0, .int a1], [.ref a0, .ref (hR h3 a0 0), .ref a0], h3) (rfl) ?_
    refine eb_g (p := hT h3 a0 = 10) (29, [.ref a0, .int a1], [.int (hI h3 a0 2), .ref (hR h3 a0 0), .ref a0], h3) rfl g4 ?_
    obtain ⟨g5, e⟩ := gd_some e
    obtain ⟨h6, r7, eh6, e⟩ := bn_some e
    refine eb_cg (p := hT h3 (hR h3 a0 0) = 11) rfl g5 (f_Tokens_kindOf_I_ev d (Nat.le_trans (by decide) hd) eh6) ?_
    show Eb _ 134 (32, [.ref a0, .int a1], [.int r7, .ref a0], h6) _ _
    obtain ⟨g8, e⟩ := gd_some e
    obtain ⟨h9, eh9, e⟩ := lq_some e
    refine eb_g (p := hT h6 a0 = 10) (35, [.ref a0, .int a1], [], h9) (by rw [eh9]; rfl) g8 ?_
    refine eb_n 1 (36, [.ref a0, .int a1], [.int (nI 1)], h9) (rfl) ?_
    rw [(sp_inj e).1, (sp_inj e).2]
    exact eb_rg (p := nrm 3 (nI 1)) rfl nrm_31
  · replace e := ite_f c2 e
    refine eb_n 1 (9, [.ref a0, .int a1], [.int (nI 0)], h) (rfl) ?_
    rw [(sp_inj e).1, (sp_inj e).2]
    exact eb_rg (p := nrm 3 (nI 0)) rfl nrm_30
set_option maxRecDepth 100000 in
set_option maxHeartbeats 4000000 in
theorem f_Grammar_readsNameOf_ev (d0 : Nat) (hd0 : 3 ≤ d0) {h' : AH} {r : Int32} {h : AH} {a0 : Nat} {a1 : Int32} (e : f_Grammar_readsNameOf h a0 a1 = some (h', r)) : Ev tb mL d0 167 [.ref a0, .int a1] h h' (some (.int r)) := by
  obtain ⟨d, rfl⟩ : ∃ d, d0 = d + 1 := ⟨d0 - 1, by omega⟩
  have hd : 2 ≤ d := by omega
  refine ⟨Nat.le_of_ble_eq_true rfl, ?_⟩
  show Eb (Ev tb mL d) 167 (0, [.ref a0, .int a1], [], h) h' (some (.int r))
  unfold f_Grammar_readsNameOf at e
  refine eb_n 2 (2, [.ref a0, .int a1], [.int a1, .ref a0], h) (rfl) ?_
  obtain ⟨g1, e⟩ := gd_some e
  obtain ⟨h2, r3, eh2, e⟩ := bn_some e
  refine eb_cg (p := hT h a0 = 10) rfl g1 (f_Grammar_reads_ev d (Nat.le_trans (by decide) hd) eh2) ?_
  show Eb _ 167 (5, [.ref a0, .int a1], [.int r3], h2) _ _
  refine eb_b (c := r3 = 0) (21, [.ref a0, .int a1], [], h2) (8, [.ref a0, .int a1], [], h2) rfl (fun c4 => ?_) (fun c4 => ?_)
  · replace e := ite_t c4 e
    refine eb_n 1 (22, [.ref a0, .int a1], [.int (nI 0)], h2) (rfl) ?_
    rw [(sp_inj e).1, (sp_inj e).2]
    exact eb_rg (p := nrm 3 (nI 0)) rfl nrm_30
  · replace e := ite_f c4 e
    refine eb_n 2 (11, [.ref a0, .int a1], [.int (nI 55), .ref a0], h2) (rfl) ?_
    obtain ⟨g5, e⟩ := gd_some e
    obtain ⟨h6, r7, eh6, e⟩ := bn_some e
    refine eb_cg (p := hT h2 a0 = 10) rfl g5 (f_Grammar_reads_ev d (Nat.le_trans (by decide) hd) eh6) ?_
    show Eb _ 167 (14, [.ref a0, .int a1], [.int r7], h6) _ _
    refine eb_b (c := r7 = 0) (21, [.ref a0, .int a1], [], h6) (17, [.ref a0, .int a1], [], h6) rfl (fun c8 => ?_) (fun c8 => ?_)
    · replace e := ite_t c8 e
      refine eb_n 1 (22, [.ref a0, .int a1], [.int (nI 0)], h6) (rfl) ?_
      rw [(sp_inj e).1, (sp_inj e).2]
      exact eb_rg (p := nrm 3 (nI 0)) rfl nrm_30
    · replace e := ite_f c8 e
      refine eb_n 2 (22, [.ref a0, .int a1], [.int (nI 1)], h6) (rfl) ?_
      rw [(sp_inj e).1, (sp_inj e).2]
      exact eb_rg (p := nrm 3 (nI 1)) rfl nrm_31
set_option maxRecDepth 100000 in
set_option maxHeartbeats 4000000 in
theorem f_Grammar_readsNumberOf_ev (d0 : Nat) (hd0 : 3 ≤ d0) {h' : AH} {r : Int32} {h : AH} {a0 : Nat} {a1 : Int32} (e : f_Grammar_readsNumberOf h a0 a1 = some (h', r)) : Ev tb mL d0 168 [.ref a0, .int a1] h h' (some (.int r)) := by
  obtain ⟨d, rfl⟩ : ∃ d, d0 = d + 1 := ⟨d0 - 1, by omega⟩
  have hd : 2 ≤ d := by omega
  refine ⟨Nat.le_of_ble_eq_true rfl, ?_⟩
  show Eb (Ev tb mL d) 168 (0, [.ref a0, .int a1], [], h) h' (some (.int r))
  unfold f_Grammar_readsNumberOf at e
  refine eb_n 2 (2, [.ref a0, .int a1], [.int a1, .ref a0], h) (rfl) ?_
  obtain ⟨g1, e⟩ := gd_some e
  obtain ⟨h2, r3, eh2, e⟩ := bn_some e
  refine eb_cg (p := hT h a0 = 10) rfl g1 (f_Grammar_reads_ev d (Nat.le_trans (by decide) hd) eh2) ?_
  show Eb _ 168 (5, [.ref a0, .int a1], [.int r3], h2) _ _
  refine eb_b (c := r3 = 0) (21, [.ref a0, .int a1], [], h2) (8, [.ref a0, .int a1], [], h2) rfl (fun c4 => ?_) (fun c4 => ?_)
  · replace e := ite_t c4 e
    refine eb_n 1 (22, [.ref a0, .int a1], [.int (nI 0)], h2) (rfl) ?_
    rw [(sp_inj e).1, (sp_inj e).2]
    exact eb_rg (p := nrm 3 (nI 0)) rfl nrm_30
  · replace e := ite_f c4 e
    refine eb_n 2 (11, [.ref a0, .int a1], [.int (nI 56), .ref a0], h2) (rfl) ?_
    obtain ⟨g5, e⟩ := gd_some e
    obtain ⟨h6, r7, eh6, e⟩ := bn_some e
    refine eb_cg (p := hT h2 a0 = 10) rfl g5 (f_Grammar_reads_ev d (Nat.le_trans (by decide) hd) eh6) ?_
    show Eb _ 168 (14, [.ref a0, .int a1], [.int r7], h6) _ _
    refine eb_b (c := r7 = 0) (21, [.ref a0, .int a1], [], h6) (17, [.ref a0, .int a1], [], h6) rfl (fun c8 => ?_) (fun c8 => ?_)
    · replace e := ite_t c8 e
      refine eb_n 1 (22, [.ref a0, .int a1], [.int (nI 0)], h6) (rfl) ?_
      rw [(sp_inj e).1, (sp_inj e).2]
      exact eb_rg (p := nrm 3 (nI 0)) rfl nrm_30
    · replace e := ite_f c8 e
      refine eb_n 2 (22, [.ref a0, .int a1], [.int (nI 1)], h6) (rfl) ?_
      rw [(sp_inj e).1, (sp_inj e).2]
      exact eb_rg (p := nrm 3 (nI 1)) rfl nrm_31
set_option maxRecDepth 100000 in
set_option maxHeartbeats 4000000 in
theorem f_Grammar_isGrade_b24_ev {h' : AH} {r : Int32} (d : Nat) (hd : 0 ≤ d)  (h : AH)   (d0 : Value) (e : f_Grammar_isGrade_b24  h  = some (h', r)) : Eb (Ev tb mL d) 169 (24, [d0], [], h) h' (some (.int r)) := by
  unfold f_Grammar_isGrade_b24 at e
  refine eb_n 2 (29, [d0], [.int (nI 1)], h) (rfl) ?_
  rw [(sp_inj e).1, (sp_inj e).2]
  exact eb_rg (p := nrm 3 (nI 1)) rfl nrm_31
set_option maxRecDepth 100000 in
set_option maxHeartbeats 4000000 in
theorem f_Grammar_isGrade_ev (d0 : Nat) (hd0 : 1 ≤ d0) {h' : AH} {r : Int32} {h : AH} {a0 : Int32} (e : f_Grammar_isGrade h a0 = some (h', r)) : Ev tb mL d0 169 [.int a0] h h' (some (.int r)) := by
  obtain ⟨d, rfl⟩ : ∃ d, d0 = d + 1 := ⟨d0 - 1, by omega⟩
  have hd : 0 ≤ d := by omega
  refine ⟨Nat.le_of_ble_eq_true rfl, ?_⟩
  show Eb (Ev tb mL d) 169 (0, [.int a0], [], h) h' (some (.int r))
  unfold f_Grammar_isGrade at e
  refine eb_n 2 (3, [.int a0], [.int (nI 18), .int a0], h) (rfl) ?_
  refine eb_b (c := a0 = (nI 18)) (24, [.int a0], [], h) (6, [.int a0], [], h) rfl (fun c1 => ?_) (fun c1 => ?_)
  · replace e := ite_t c1 e
    exact f_Grammar_isGrade_b24_ev d hd   _  _ e
  · replace e := ite_f c1 e
    refine eb_n 2 (9, [.int a0], [.int (nI 19), .int a0], h) (rfl) ?_
    refine eb_b (c := a0 = (nI 19)) (24, [.int a0], [], h) (12, [.int a0], [], h) rfl (fun c2 => ?_) (fun c2 => ?_)
    · replace e := ite_t c2 e
      exact f_Grammar_isGrade_b24_ev d hd   _  _ e
    · replace e := ite_f c2 e
      refine eb_n 2 (15, [.int a0], [.int (nI 20), .int a0], h) (rfl) ?_
      refine eb_b (c := a0 = (nI 20)) (24, [.int a0], [], h) (18, [.int a0], [], h) rfl (fun c3 => ?_) (fun c3 => ?_)
      · replace e := ite_t c3 e
        exact f_Grammar_isGrade_b24_ev d hd   _  _ e
      · replace e := ite_f c3 e
        refine eb_n 2 (21, [.int a0], [.int (nI 21), .int a0], h) (rfl) ?_
        refine eb_b (c := ¬ a0 = (nI 21)) (28, [.int a0], [], h) (24, [.int a0], [], h) rfl (fun c4 => ?_) (fun c4 => ?_)
        · replace e := ite_t c4 e
          refine eb_n 1 (29, [.int a0], [.int (nI 0)], h) (rfl) ?_
          rw [(sp_inj e).1, (sp_inj e).2]
          exact eb_rg (p := nrm 3 (nI 0)) rfl nrm_30
        · replace e := ite_f c4 e
          exact f_Grammar_isGrade_b24_ev d hd   _  _ e
set_option maxRecDepth 100000 in
set_option maxHeartbeats 4000000 in
theorem f_Orders_add_ev (d0 : Nat) (hd0 : 1 ≤ d0) {h' : AH} {h : AH} {a0 : Nat} {a1 : Int32} {a2 : Int32} (e : f_Orders_add h a0 a1 a2 = some h') : Ev tb mL d0 187 [.ref a0, .int a1, .int a2] h h' none := by
  obtain ⟨d, rfl⟩ : ∃ d, d0 = d + 1 := ⟨d0 - 1, by omega⟩
  have hd : 0 ≤ d := by omega
  refine ⟨Nat.le_of_ble_eq_true rfl, ?_⟩
  show Eb (Ev tb mL d) 187 (0, [.ref a0, .int a1, .int a2], [], h) h' none
  unfold f_Orders_add at e
  refine eb_n 1 (1, [.ref a0, .int a1, .int a2], [.ref a0], h) (rfl) ?_
  obtain ⟨g1, e⟩ := gd_some e
  refine eb_g (p := hT h a0 = 2) (4, [.ref a0, .int a1, .int a2], [.int (hI h a0 2)], h) rfl g1 ?_
  refine eb_b (c := (hI h a0 2) < 0) (61, [.ref a0, .int a1, .int a2], [], h) (7, [.ref a0, .int a1, .int a2], [], h) rfl (fun c2 => ?_) (fun c2 => ?_)
  · replace e := ite_t c2 e
    rw [sv_inj e]
    exact eb_r rfl
  · replace e := ite_f c2 e
    refine eb_n 1 (8, [.ref a0, .int a1, .int a2], [.ref a0], h) (rfl) ?_
    refine eb_g (p := hT h a0 = 2) (11, [.ref a0, .int a1, .int a2], [.int (hI h a0 2)], h) rfl g1 ?_
    refine eb_n 1 (12, [.ref a0, .int a1, .int a2], [.ref a0, .int (hI h a0 2)], h) (rfl) ?_
    refine eb_g (p := hT h a0 = 2) (15, [.ref a0, .int a1, .int a2], [.ref (hR h a0 0), .int (hI h a0 2)], h) rfl g1 ?_
    obtain ⟨g3, e⟩ := gd_some e
    refine eb_g (p := hT h (hR h a0 0) = 101) (16, [.ref a0, .int a1, .int a2], [.int (nI (hL h (hR h a0 0))), .int (hI h a0 2)], h) rfl g3 ?_
    refine eb_b (c := (nI (hL h (hR h a0 0))) ≤ (hI h a0 2)) (61, [.ref a0, .int a1, .int a2], [], h) (19, [.ref a0, .int a1, .int a2], [], h) rfl (fun c4 => ?_) (fun c4 => ?_)
    · replace e := ite_t c4 e
      rw [sv_inj e]
      exact eb_r rfl
    · replace e := ite_f c4 e
      refine eb_n 1 (20, [.ref a0, .int a1, .int a2], [.ref a0], h) (rfl) ?_
      refine eb_g (p := hT h a0 = 2) (23, [.ref a0, .int a1, .int a2], [.int (hI h a0 2)], h) rfl g1 ?_
      refine eb_n 1 (24, [.ref a0, .int a1, .int a2], [.ref a0, .int (hI h a0 2)], h) (rfl) ?_
      refine eb_g (p := hT h a0 = 2) (27, [.ref a0, .int a1, .int a2], [.ref (hR h a0 1), .int (hI h a0 2)], h) rfl g1 ?_
      obtain ⟨g5, e⟩ := gd_some e
      refine eb_g (p := hT h (hR h a0 1) = 101) (28, [.ref a0, .int a1, .int a2], [.int (nI (hL h (hR h a0 1))), .int (hI h a0 2)], h) rfl g5 ?_
      refine eb_b (c := (nI (hL h (hR h a0 1))) ≤ (hI h a0 2)) (61, [.ref a0, .int a1, .int a2], [], h) (31, [.ref a0, .int a1, .int a2], [], h) rfl (fun c6 => ?_) (fun c6 => ?_)
      · replace e := ite_t c6 e
        rw [sv_inj e]
        exact eb_r rfl
      · replace e := ite_f c6 e
        refine eb_n 1 (32, [.ref a0, .int a1, .int a2], [.ref a0], h) (rfl) ?_
        refine eb_g (p := hT h a0 = 2) (35, [.ref a0, .int a1, .int a2], [.ref (hR h a0 0)], h) rfl g1 ?_
        refine eb_n 1 (36, [.ref a0, .int a1, .int a2], [.ref a0, .ref (hR h a0 0)], h) (rfl) ?_
        refine eb_g (p := hT h a0 = 2) (39, [.ref a0, .int a1, .int a2], [.int (hI h a0 2), .ref (hR h a0 0)], h) rfl g1 ?_
        refine eb_n 1 (40, [.ref a0, .int a1, .int a2], [.int a1, .int (hI h a0 2), .ref (hR h a0 0)], h) (rfl) ?_
        obtain ⟨g7, e⟩ := gd_some e
        obtain ⟨h8, eh8, e⟩ := lq_some e
        refine eb_g (p := hT h (hR h a0 0) = 101 ∧ inb (hI h a0 2) (hL h (hR h a0 0))) (41, [.ref a0, .int a1, .int a2], [], h8) (by rw [eh8]; rfl) g7 ?_
        refine eb_n 1 (42, [.ref a0, .int a1, .int a2], [.ref a0], h8) (rfl) ?_
        obtain ⟨g9, e⟩ := gd_some e
        refine eb_g (p := hT h8 a0 = 2) (45, [.ref a0, .int a1, .int a2], [.ref (hR h8 a0 1)], h8) rfl g9 ?_
        refine eb_n 1 (46, [.ref a0, .int a1, .int a2], [.ref a0, .ref (hR h8 a0 1)], h8) (rfl) ?_
        refine eb_g (p := hT h8 a0 = 2) (49, [.ref a0, .int a1, .int a2], [.int (hI h8 a0 2), .ref (hR h8 a0 1)], h8) rfl g9 ?_
        refine eb_n 1 (50, [.ref a0, .int a1, .int a2], [.int a2, .int (hI h8 a0 2), .ref (hR h8 a0 1)], h8) (rfl) ?_
        obtain ⟨g10, e⟩ := gd_some e
        obtain ⟨h11, eh11, e⟩ := lq_some e
        refine eb_g (p := hT h8 (hR h8 a0 1) = 101 ∧ inb (hI h8 a0 2) (hL h8 (hR h8 a0 1))) (51, [.ref a0, .int a1, .int a2], [], h11) (by rw [eh11]; rfl) g10 ?_
        refine eb_n 2 (53, [.ref a0, .int a1, .int a2], [.ref a0, .ref a0], h11) (rfl) ?_
        obtain ⟨g12, e⟩ := gd_some e
        refine eb_g (p := hT h11 a0 = 2) (56, [.ref a0, .int a1, .int a2], [.int (hI h11 a0 2), .ref a0], h11) rfl g12 ?_
        refine eb_n 2 (58, [.ref a0, .int a1, .int a2], [.int ((hI h11 a0 2) + (nI 1)), .ref a0], h11) (rfl) ?_
        obtain ⟨h13, eh13, e⟩ := lq_some e
        refine eb_g (p := hT h11 a0 = 2) (61, [.ref a0, .int a1, .int a2], [], h13) (by rw [eh13]; rfl) g12 ?_
        rw [sv_inj e]
        exact eb_r rfl
set_option maxRecDepth 100000 in
set_option maxHeartbeats 4000000 in
theorem f_Grammar_mayGoDeeper_ev (d0 : Nat) (hd0 : 1 ≤ d0) {h' : AH} {r : Int32} {h : AH} {a0 : Int32} (e : f_Grammar_mayGoDeeper h a0 = some (h', r)) : Ev tb mL d0 224 [.int a0] h h' (some (.int r)) := by
  obtain ⟨d, rfl⟩ : ∃ d, d0 = d + 1 := ⟨d0 - 1, by omega⟩
  have hd : 0 ≤ d := by omega
  refine ⟨Nat.le_of_ble_eq_true rfl, ?_⟩
  show Eb (Ev tb mL d) 224 (0, [.int a0], [], h) h' (some (.int r))
  unfold f_Grammar_mayGoDeeper at e
  refine eb_n 2 (3, [.int a0], [.int (nI 8), .int a0], h) (rfl) ?_
  refine eb_b (c := (nI 8) ≤ a0) (10, [.int a0], [], h) (6, [.int a0], [], h) rfl (fun c1 => ?_) (fun c1 => ?_)
  · replace e := ite_t c1 e
    refine eb_n 1 (11, [.int a0], [.int (nI 0)], h) (rfl) ?_
    rw [(sp_inj e).1, (sp_inj e).2]
    exact eb_rg (p := nrm 3 (nI 0)) rfl nrm_30
  · replace e := ite_f c1 e
    refine eb_n 2 (11, [.int a0], [.int (nI 1)], h) (rfl) ?_
    rw [(sp_inj e).1, (sp_inj e).2]
    exact eb_rg (p := nrm 3 (nI 1)) rfl nrm_31
set_option maxRecDepth 100000 in
set_option maxHeartbeats 4000000 in
theorem f_Grammar_isComparison_b30_ev {h' : AH} {r : Int32} (d : Nat) (hd : 0 ≤ d)  (h : AH)   (d0 : Value) (e : f_Grammar_isComparison_b30  h  = some (h', r)) : Eb (Ev tb mL d) 225 (30, [d0], [], h) h' (some (.int r)) := by
  unfold f_Grammar_isComparison_b30 at e
  refine eb_n 2 (35, [d0], [.int (nI 1)], h) (rfl) ?_
  rw [(sp_inj e).1, (sp_inj e).2]
  exact eb_rg (p := nrm 3 (nI 1)) rfl nrm_31
set_option maxRecDepth 100000 in
set_option maxHeartbeats 4000000 in
theorem f_Grammar_isComparison_ev (d0 : Nat) (hd0 : 1 ≤ d0) {h' : AH} {r : Int32} {h : AH} {a0 : Int32} (e : f_Grammar_isComparison h a0 = some (h', r)) : Ev tb mL d0 225 [.int a0] h h' (some (.int r)) := by
  obtain ⟨d, rfl⟩ : ∃ d, d0 = d + 1 := ⟨d0 - 1, by omega⟩
  have hd : 0 ≤ d := by omega
  refine ⟨Nat.le_of_ble_eq_true rfl, ?_⟩
  show Eb (Ev tb mL d) 225 (0, [.int a0], [], h) h' (some (.int r))
  unfold f_Grammar_isComparison at e
  refine eb_n 2 (3, [.int a0], [.int (nI 50), .int a0], h) (rfl) ?_
  refine eb_b (c := a0 = (nI 50)) (30, [.int a0], [], h) (6, [.int a0], [], h) rfl (fun c1 => ?_) (fun c1 => ?_)
  · replace e := ite_t c1 e
    exact f_Grammar_isComparison_b30_ev d hd   _  _ e
  · replace e := ite_f c1 e
    refine eb_n 2 (9, [.int a0], [.int (nI 51), .int a0], h) (rfl) ?_
    refine eb_b (c := a0 = (nI 51)) (30, [.int a0], [], h) (12, [.int a0], [], h) rfl (fun c2 => ?_) (fun c2 => ?_)
    · replace e := ite_t c2 e
      exact f_Grammar_isComparison_b30_ev d hd   _  _ e
    · replace e := ite_f c2 e
      refine eb_n 2 (15, [.int a0], [.int (nI 52), .int a0], h) (rfl) ?_
      refine eb_b (c := a0 = (nI 52)) (30, [.int a0], [], h) (18, [.int a0], [], h) rfl (fun c3 => ?_) (fun c3 => ?_)
      · replace e := ite_t c3 e
        exact f_Grammar_isComparison_b30_ev d hd   _  _ e
      · replace e := ite_f c3 e
        refine eb_n 2 (21, [.int a0], [.int (nI 53), .int a0], h) (rfl) ?_
        refine eb_b (c := a0 = (nI 53)) (30, [.int a0], [], h) (24, [.int a0], [], h) rfl (fun c4 => ?_) (fun c4 => ?_)
        · replace e := ite_t c4 e
          exact f_Grammar_isComparison_b30_ev d hd   _  _ e
        · replace e := ite_f c4 e
          refine eb_n 2 (27, [.int a0], [.int (nI 54), .int a0], h) (rfl) ?_
          refine eb_b (c := ¬ a0 = (nI 54)) (34, [.int a0], [], h) (30, [.int a0], [], h) rfl (fun c5 => ?_) (fun c5 => ?_)
          · replace e := ite_t c5 e
            refine eb_n 1 (35, [.int a0], [.int (nI 0)], h) (rfl) ?_
            rw [(sp_inj e).1, (sp_inj e).2]
            exact eb_rg (p := nrm 3 (nI 0)) rfl nrm_30
          · replace e := ite_f c5 e
            exact f_Grammar_isComparison_b30_ev d hd   _  _ e
set_option maxRecDepth 100000 in
set_option maxHeartbeats 4000000 in
theorem f_Grammar_readsTest_b12_ev {h' : AH} {r : Int32} (d : Nat) (hd : 2 ≤ d) (G : Nat → AH → Nat → Int32 → Int32 → Option (AH × Int32)) (hG : (∀ h a x0 h1 r, G 0 h a x0 (nI 0) = some (h1, r) → Ev tb mL d 186 [.ref a, .int x0] h h1 (some (.int r))) ∧ (∀ h a x0 h1 r, G 1 h a x0 (nI 0) = some (h1, r) → Ev tb mL d 209 [.ref a, .int x0] h h1 (some (.int r))) ∧ (∀ h a x0 h1 r, G 2 h a x0 (nI 0) = some (h1, r) → Ev tb mL d 219 [.ref a, .int x0] h h1 (some (.int r))) ∧ (∀ h a x0 h1 r, G 3 h a x0 (nI 0) = some (h1, r) → Ev tb mL d 188 [.ref a, .int x0] h h1 (some (.int r))) ∧ (∀ h a x0 h1 r, G 4 h a x0 (nI 0) = some (h1, r) → Ev tb mL d 210 [.ref a, .int x0] h h1 (some (.int r))) ∧ (∀ h a x0 h1 r, G 5 h a x0 (nI 0) = some (h1, r) → Ev tb mL d 220 [.ref a, .int x0] h h1 (some (.int r))) ∧ (∀ h a x0 x1 h1 r, G 6 h a x0 x1 = some (h1, r) → Ev tb mL d 226 [.ref a, .int x0, .int x1] h h1 (some (.int r)))) (k12 : AH → Nat → Int32 → Int32 → Option (AH × Int32)) (hk12 : ∀ (h : AH) (a0 : Nat) (a1 : Int32) (a2 : Int32)  , k12 h a0 a1 a2 = some (h', r) → Eb (Ev tb mL d) 186 (12, [.ref a0, .int a1, .int a2], [], h) h' (some (.int r)))  (h : AH) (a0 : Nat) (a1 : Int32) (a2 : Int32)   (e : f_Grammar_readsTest_b12 G k12 h a0 a1 a2 = some (h', r)) : Eb (Ev tb mL d) 186 (12, [.ref a0, .int a1, .int a2], [], h) h' (some (.int r)) := by
  unfold f_Grammar_readsTest_b12 at e
  refine eb_n 2 (16, [.ref a0, .int a1, .int a2], [.int (nI 400), .int a2], h) (rfl) ?_
  refine eb_b (c := (nI 400) ≤ a2) (57, [.ref a0, .int a1, .int a2], [], h) (19, [.ref a0, .int a1, .int a2], [], h) rfl (fun c1 => ?_) (fun c1 => ?_)
  · replace e := ite_t c1 e
    refine eb_n 1 (58, [.ref a0, .int a1, .int a2], [.int (nI 1)], h) (rfl) ?_
    rw [(sp_inj e).1, (sp_inj e).2]
    exact eb_rg (p := nrm 3 (nI 1)) rfl nrm_31
  · replace e := ite_f c1 e
    refine eb_n 2 (22, [.ref a0, .int a1, .int a2], [.int (nI 37), .ref a0], h) (rfl) ?_
    obtain ⟨g2, e⟩ := gd_some e
    obtain ⟨h3, r4, eh3, e⟩ := bn_some e
    refine eb_cg (p := hT h a0 = 10) rfl g2 (f_Grammar_reads_ev d (Nat.le_trans (by decide) hd) eh3) ?_
    show Eb _ 186 (25, [.ref a0, .int a1, .int a2], [.int r4], h3) _ _
    refine eb_b (c := r4 = 0) (57, [.ref a0, .int a1, .int a2], [], h3) (28, [.ref a0, .int a1, .int a2], [], h3) rfl (fun c5 => ?_) (fun c5 => ?_)
    · replace e := ite_t c5 e
      refine eb_n 1 (58, [.ref a0, .int a1, .int a2], [.int (nI 1)], h3) (rfl) ?_
      rw [(sp_inj e).1, (sp_inj e).2]
      exact eb_rg (p := nrm 3 (nI 1)) rfl nrm_31
    · replace e := ite_f c5 e
      refine eb_n 2 (30, [.ref a0, .int a1, .int a2], [.int a1, .ref a0], h3) (rfl) ?_
      obtain ⟨g6, e⟩ := gd_some e
      obtain ⟨h7, r8, eh7, e⟩ := bn_some e
      refine eb_cg (p := hT h3 a0 = 10) rfl g6 (hG.2.1 _ _ _ _ _ eh7) ?_
      show Eb _ 186 (33, [.ref a0, .int a1, .int a2], [.int r8], h7) _ _
      refine eb_b (c := ¬ r8 = 0) (38, [.ref a0, .int a1, .int a2], [], h7) (36, [.ref a0, .int a1, .int a2], [], h7) rfl (fun c9 => ?_) (fun c9 => ?_)
      · replace e := ite_t c9 e
        refine eb_n 1 (39, [.ref a0, .int a1, .int a2], [.ref a0], h7) (rfl) ?_
        obtain ⟨g10, e⟩ := gd_some e
        refine eb_g (p := hT h7 a0 = 10) (42, [.ref a0, .int a1, .int a2], [.ref (hR h7 a0 1)], h7) rfl g10 ?_
        refine eb_n 2 (45, [.ref a0, .int a1, .int a2], [.ref a0, .int (nI 37), .ref (hR h7 a0 1)], h7) (rfl) ?_
        refine eb_g (p := hT h7 a0 = 10) (48, [.ref a0, .int a1, .int a2], [.int (hI h7 a0 2), .int (nI 37), .ref (hR h7 a0 1)], h7) rfl g10 ?_
        obtain ⟨g11, e⟩ := gd_some e
        obtain ⟨h12, eh12, e⟩ := bv_some e
        refine eb_cg (p := hT h7 (hR h7 a0 1) = 2) rfl g11 (f_Orders_add_ev d (Nat.le_trans (by decide) hd) eh12) ?_
        show Eb _ 186 (51, [.ref a0, .int a1, .int a2], [], h12) _ _
        obtain ⟨x13, hx13, e⟩ := lq_some e
        refine eb_n 1 (54, [.ref a0, .int a1, .int x13], [], h12) (by subst hx13; rfl) ?_
        refine eb_n 1 (12, [.ref a0, .int a1, .int x13], [], h12) (rfl) ?_
        exact hk12 _ _ _ _  e
      · replace e := ite_f c9 e
        refine eb_n 1 (37, [.ref a0, .int a1, .int a2], [.int (nI 0)], h7) (rfl) ?_
        rw [(sp_inj e).1, (sp_inj e).2]
        exact eb_rg (p := nrm 3 (nI 0)) rfl nrm_30
set_option maxRecDepth 100000 in
set_option maxHeartbeats 4000000 in
theorem f_Grammar_readsTest_l12_ev {h' : AH} {r : Int32} (d : Nat) (hd : 2 ≤ d) (G : Nat → AH → Nat → Int32 → Int32 → Option (AH × Int32)) (hG : (∀ h a x0 h1 r, G 0 h a x0 (nI 0) = some (h1, r) → Ev tb mL d 186 [.ref a, .int x0] h h1 (some (.int r))) ∧ (∀ h a x0 h1 r, G 1 h a x0 (nI 0) = some (h1, r) → Ev tb mL d 209 [.ref a, .int x0] h h1 (some (.int r))) ∧ (∀ h a x0 h1 r, G 2 h a x0 (nI 0) = some (h1, r) → Ev tb mL d 219 [.ref a, .int x0] h h1 (some (.int r))) ∧ (∀ h a x0 h1 r, G 3 h a x0 (nI 0) = some (h1, r) → Ev tb mL d 188 [.ref a, .int x0] h h1 (some (.int r))) ∧ (∀ h a x0 h1 r, G 4 h a x0 (nI 0) = some (h1, r) → Ev tb mL d 210 [.ref a, .int x0] h h1 (some (.int r))) ∧ (∀ h a x0 h1 r, G 5 h a x0 (nI 0) = some (h1, r) → Ev tb mL d 220 [.ref a, .int x0] h h1 (some (.int r))) ∧ (∀ h a x0 x1 h1 r, G 6 h a x0 x1 = some (h1, r) → Ev tb mL d 226 [.ref a, .int x0, .int x1] h h1 (some (.int r))))  : ∀ (n : Nat) (h : AH) (a0 : Nat) (a1 : Int32) (a2 : Int32)   (_ : f_Grammar_readsTest_l12 G  n h a0 a1 a2 = some (h', r)), Eb (Ev tb mL d) 186 (12, [.ref a0, .int a1, .int a2], [], h) h' (some (.int r)) := by
  intro n
  induction n with
  | zero => intro h a0 a1 a2  e; exact nomatch e
  | succ n ih =>
    intro h a0 a1 a2  e
    exact f_Grammar_readsTest_b12_ev d hd G hG _ (fun h a0 a1 a2  e => ih h a0 a1 a2  e) h a0 a1 a2  e
set_option maxRecDepth 100000 in
set_option maxHeartbeats 4000000 in
theorem f_Grammar_readsTest_ev (d : Nat) (hd : 2 ≤ d) (G : Nat → AH → Nat → Int32 → Int32 → Option (AH × Int32)) (hG : (∀ h a x0 h1 r, G 0 h a x0 (nI 0) = some (h1, r) → Ev tb mL d 186 [.ref a, .int x0] h h1 (some (.int r))) ∧ (∀ h a x0 h1 r, G 1 h a x0 (nI 0) = some (h1, r) → Ev tb mL d 209 [.ref a, .int x0] h h1 (some (.int r))) ∧ (∀ h a x0 h1 r, G 2 h a x0 (nI 0) = some (h1, r) → Ev tb mL d 219 [.ref a, .int x0] h h1 (some (.int r))) ∧ (∀ h a x0 h1 r, G 3 h a x0 (nI 0) = some (h1, r) → Ev tb mL d 188 [.ref a, .int x0] h h1 (some (.int r))) ∧ (∀ h a x0 h1 r, G 4 h a x0 (nI 0) = some (h1, r) → Ev tb mL d 210 [.ref a, .int x0] h h1 (some (.int r))) ∧ (∀ h a x0 h1 r, G 5 h a x0 (nI 0) = some (h1, r) → Ev tb mL d 220 [.ref a, .int x0] h h1 (some (.int r))) ∧ (∀ h a x0 x1 h1 r, G 6 h a x0 x1 = some (h1, r) → Ev tb mL d 226 [.ref a, .int x0, .int x1] h h1 (some (.int r)))) {h' : AH} {r : Int32} {h : AH} {a0 : Nat} {a1 : Int32} (e : f_Grammar_readsTest G h a0 a1 = some (h', r)) : Ev tb mL (d + 1) 186 [.ref a0, .int a1] h h' (some (.int r)) := by
  refine ⟨Nat.le_of_ble_eq_true rfl, ?_⟩
  show Eb (Ev tb mL d) 186 (0, [.ref a0, .int a1, .retAddr 0], [], h) h' (some (.int r))
  unfold f_Grammar_readsTest at e
  refine eb_n 2 (2, [.ref a0, .int a1, .retAddr 0], [.int a1, .ref a0], h) (rfl) ?_
  obtain ⟨g1, e⟩ := gd_some e
  obtain ⟨h2, r3, eh2, e⟩ := bn_some e
  refine eb_cg (p := hT h a0 = 10) rfl g1 (hG.2.1 _ _ _ _ _ eh2) ?_
  show Eb _ 186 (5, [.ref a0, .int a1, .retAddr 0], [.int r3], h2) _ _
  refine eb_b (c := ¬ r3 = 0) (10, [.ref a0, .int a1, .retAddr 0], [], h2) (8, [.ref a0, .int a1, .retAddr 0], [], h2) rfl (fun c4 => ?_) (fun c4 => ?_)
  · replace e := ite_t c4 e
    refine eb_n 2 (12, [.ref a0, .int a1, .int (nI 0)], [], h2) (rfl) ?_
    exact f_Grammar_readsTest_l12_ev d hd G hG   FU _ _ _ _  e
  · replace e := ite_f c4 e
    refine eb_n 1 (9, [.ref a0, .int a1, .retAddr 0], [.int (nI 0)], h2) (rfl) ?_
    rw [(sp_inj e).1, (sp_inj e).2]
    exact eb_rg (p := nrm 3 (nI 0)) rfl nrm_30
set_option maxRecDepth 100000 in
set_option maxHeartbeats 4000000 in
theorem f_Grammar_readsBoth_b12_ev {h' : AH} {r : Int32} (d : Nat) (hd : 2 ≤ d) (G : Nat → AH → Nat → Int32 → Int32 → Option (AH × Int32)) (hG : (∀ h a x0 h1 r, G 0 h a x0 (nI 0) = some (h1, r) → Ev tb mL d 186 [.ref a, .int x0] h h1 (some (.int r))) ∧ (∀ h a x0 h1 r, G 1 h a x0 (nI 0) = some (h1, r) → Ev tb mL d 209 [.ref a, .int x0] h h1 (some (.int r))) ∧ (∀ h a x0 h1 r, G 2 h a x0 (nI 0) = some (h1, r) → Ev tb mL d 219 [.ref a, .int x0] h h1 (some (.int r))) ∧ (∀ h a x0 h1 r, G 3 h a x0 (nI 0) = some (h1, r) → Ev tb mL d 188 [.ref a, .int x0] h h1 (some (.int r))) ∧ (∀ h a x0 h1 r, G 4 h a x0 (nI 0) = some (h1, r) → Ev tb mL d 210 [.ref a, .int x0] h h1 (some (.int r))) ∧ (∀ h a x0 h1 r, G 5 h a x0 (nI 0) = some (h1, r) → Ev tb mL d 220 [.ref a, .int x0] h h1 (some (.int r))) ∧ (∀ h a x0 x1 h1 r, G 6 h a x0 x1 = some (h1, r) → Ev tb mL d 226 [.ref a, .int x0, .int x1] h h1 (some (.int r)))) (k12 : AH → Nat → Int32 → Int32 → Option (AH × Int32)) (hk12 : ∀ (h : AH) (a0 : Nat) (a1 : Int32) (a2 : Int32)  , k12 h a0 a1 a2 = some (h', r) → Eb (Ev tb mL d) 209 (12, [.ref a0, .int a1, .int a2], [], h) h' (some (.int r)))  (h : AH) (a0 : Nat) (a1 : Int32) (a2 : Int32)   (e : f_Grammar_readsBoth_b12 G k12 h a0 a1 a2 = some (h', r)) : Eb (Ev tb mL d) 209 (12, [.ref a0, .int a1, .int a2], [], h) h' (some (.int r)) := by
  unfold f_Grammar_readsBoth_b12 at e
  refine eb_n 2 (16, [.ref a0, .int a1, .int a2], [.int (nI 400), .int a2], h) (rfl) ?_
  refine eb_b (c := (nI 400) ≤ a2) (57, [.ref a0, .int a1, .int a2], [], h) (19, [.ref a0, .int a1, .int a2], [], h) rfl (fun c1 => ?_) (fun c1 => ?_)
  · replace e := ite_t c1 e
    refine eb_n 1 (58, [.ref a0, .int a1, .int a2], [.int (nI 1)], h) (rfl) ?_
    rw [(sp_inj e).1, (sp_inj e).2]
    exact eb_rg (p := nrm 3 (nI 1)) rfl nrm_31
  · replace e := ite_f c1 e
    refine eb_n 2 (22, [.ref a0, .int a1, .int a2], [.int (nI 36), .ref a0], h) (rfl) ?_
    obtain ⟨g2, e⟩ := gd_some e
    obtain ⟨h3, r4, eh3, e⟩ := bn_some e
    refine eb_cg (p := hT h a0 = 10) rfl g2 (f_Grammar_reads_ev d (Nat.le_trans (by decide) hd) eh3) ?_
    show Eb _ 209 (25, [.ref a0, .int a1, .int a2], [.int r4], h3) _ _
    refine eb_b (c := r4 = 0) (57, [.ref a0, .int a1, .int a2], [], h3) (28, [.ref a0, .int a1, .int a2], [], h3) rfl (fun c5 => ?_) (fun c5 => ?_)
    · replace e := ite_t c5 e
      refine eb_n 1 (58, [.ref a0, .int a1, .int a2], [.int (nI 1)], h3) (rfl) ?_
      rw [(sp_inj e).1, (sp_inj e).2]
      exact eb_rg (p := nrm 3 (nI 1)) rfl nrm_31
    · replace e := ite_f c5 e
      refine eb_n 2 (30, [.ref a0, .int a1, .int a2], [.int a1, .ref a0], h3) (rfl) ?_
      obtain ⟨g6, e⟩ := gd_some e
      obtain ⟨h7, r8, eh7, e⟩ := bn_some e
      refine eb_cg (p := hT h3 a0 = 10) rfl g6 (hG.2.2.1 _ _ _ _ _ eh7) ?_
      show Eb _ 209 (33, [.ref a0, .int a1, .int a2], [.int r8], h7) _ _
      refine eb_b (c := ¬ r8 = 0) (38, [.ref a0, .int a1, .int a2], [], h7) (36, [.ref a0, .int a1, .int a2], [], h7) rfl (fun c9 => ?_) (fun c9 => ?_)
      · replace e := ite_t c9 e
        refine eb_n 1 (39, [.ref a0, .int a1, .int a2], [.ref a0], h7) (rfl) ?_
        obtain ⟨g10, e⟩ := gd_some e
        refine eb_g (p := hT h7 a0 = 10) (42, [.ref a0, .int a1, .int a2], [.ref (hR h7 a0 1)], h7) rfl g10 ?_
        refine eb_n 2 (45, [.ref a0, .int a1, .int a2], [.ref a0, .int (nI 36), .ref (hR h7 a0 1)], h7) (rfl) ?_
        refine eb_g (p := hT h7 a0 = 10) (48, [.ref a0, .int a1, .int a2], [.int (hI h7 a0 2), .int (nI 36), .ref (hR h7 a0 1)], h7) rfl g10 ?_
        obtain ⟨g11, e⟩ := gd_some e
        obtain ⟨h12, eh12, e⟩ := bv_some e
        refine eb_cg (p := hT h7 (hR h7 a0 1) = 2) rfl g11 (f_Orders_add_ev d (Nat.le_trans (by decide) hd) eh12) ?_
        show Eb _ 209 (51, [.ref a0, .int a1, .int a2], [], h12) _ _
        obtain ⟨x13, hx13, e⟩ := lq_some e
        refine eb_n 1 (54, [.ref a0, .int a1, .int x13], [], h12) (by subst hx13; rfl) ?_
        refine eb_n 1 (12, [.ref a0, .int a1, .int x13], [], h12) (rfl) ?_
        exact hk12 _ _ _ _  e
      · replace e := ite_f c9 e
        refine eb_n 1 (37, [.ref a0, .int a1, .int a2], [.int (nI 0)], h7) (rfl) ?_
        rw [(sp_inj e).1, (sp_inj e).2]
        exact eb_rg (p := nrm 3 (nI 0)) rfl nrm_30
set_option maxRecDepth 100000 in
set_option maxHeartbeats 4000000 in
theorem f_Grammar_readsBoth_l12_ev {h' : AH} {r : Int32} (d : Nat) (hd : 2 ≤ d) (G : Nat → AH → Nat → Int32 → Int32 → Option (AH × Int32)) (hG : (∀ h a x0 h1 r, G 0 h a x0 (nI 0) = some (h1, r) → Ev tb mL d 186 [.ref a, .int x0] h h1 (some (.int r))) ∧ (∀ h a x0 h1 r, G 1 h a x0 (nI 0) = some (h1, r) → Ev tb mL d 209 [.ref a, .int x0] h h1 (some (.int r))) ∧ (∀ h a x0 h1 r, G 2 h a x0 (nI 0) = some (h1, r) → Ev tb mL d 219 [.ref a, .int x0] h h1 (some (.int r))) ∧ (∀ h a x0 h1 r, G 3 h a x0 (nI 0) = some (h1, r) → Ev tb mL d 188 [.ref a, .int x0] h h1 (some (.int r))) ∧ (∀ h a x0 h1 r, G 4 h a x0 (nI 0) = some (h1, r) → Ev tb mL d 210 [.ref a, .int x0] h h1 (some (.int r))) ∧ (∀ h a x0 h1 r, G 5 h a x0 (nI 0) = some (h1, r) → Ev tb mL d 220 [.ref a, .int x0] h h1 (some (.int r))) ∧ (∀ h a x0 x1 h1 r, G 6 h a x0 x1 = some (h1, r) → Ev tb mL d 226 [.ref a, .int x0, .int x1] h h1 (some (.int r))))  : ∀ (n : Nat) (h : AH) (a0 : Nat) (a1 : Int32) (a2 : Int32)   (_ : f_Grammar_readsBoth_l12 G  n h a0 a1 a2 = some (h', r)), Eb (Ev tb mL d) 209 (12, [.ref a0, .int a1, .int a2], [], h) h' (some (.int r)) := by
  intro n
  induction n with
  | zero => intro h a0 a1 a2  e; exact nomatch e
  | succ n ih =>
    intro h a0 a1 a2  e
    exact f_Grammar_readsBoth_b12_ev d hd G hG _ (fun h a0 a1 a2  e => ih h a0 a1 a2  e) h a0 a1 a2  e
set_option maxRecDepth 100000 in
set_option maxHeartbeats 4000000 in
theorem f_Grammar_readsBoth_ev (d : Nat) (hd : 2 ≤ d) (G : Nat → AH → Nat → Int32 → Int32 → Option (AH × Int32)) (hG : (∀ h a x0 h1 r, G 0 h a x0 (nI 0) = some (h1, r) → Ev tb mL d 186 [.ref a, .int x0] h h1 (some (.int r))) ∧ (∀ h a x0 h1 r, G 1 h a x0 (nI 0) = some (h1, r) → Ev tb mL d 209 [.ref a, .int x0] h h1 (some (.int r))) ∧ (∀ h a x0 h1 r, G 2 h a x0 (nI 0) = some (h1, r) → Ev tb mL d 219 [.ref a, .int x0] h h1 (some (.int r))) ∧ (∀ h a x0 h1 r, G 3 h a x0 (nI 0) = some (h1, r) → Ev tb mL d 188 [.ref a, .int x0] h h1 (some (.int r))) ∧ (∀ h a x0 h1 r, G 4 h a x0 (nI 0) = some (h1, r) → Ev tb mL d 210 [.ref a, .int x0] h h1 (some (.int r))) ∧ (∀ h a x0 h1 r, G 5 h a x0 (nI 0) = some (h1, r) → Ev tb mL d 220 [.ref a, .int x0] h h1 (some (.int r))) ∧ (∀ h a x0 x1 h1 r, G 6 h a x0 x1 = some (h1, r) → Ev tb mL d 226 [.ref a, .int x0, .int x1] h h1 (some (.int r)))) {h' : AH} {r : Int32} {h : AH} {a0 : Nat} {a1 : Int32} (e : f_Grammar_readsBoth G h a0 a1 = some (h', r)) : Ev tb mL (d + 1) 209 [.ref a0, .int a1] h h' (some (.int r)) := by
  refine ⟨Nat.le_of_ble_eq_true rfl, ?_⟩
  show Eb (Ev tb mL d) 209 (0, [.ref a0, .int a1, .retAddr 0], [], h) h' (some (.int r))
  unfold f_Grammar_readsBoth at e
  refine eb_n 2 (2, [.ref a0, .int a1, .retAddr 0], [.int a1, .ref a0], h) (rfl) ?_
  obtain ⟨g1, e⟩ := gd_some e
  obtain ⟨h2, r3, eh2, e⟩ := bn_some e
  refine eb_cg (p := hT h a0 = 10) rfl g1 (hG.2.2.1 _ _ _ _ _ eh2) ?_
  show Eb _ 209 (5, [.ref a0, .int a1, .retAddr 0], [.int r3], h2) _ _
  refine eb_b (c := ¬ r3 = 0) (10, [.ref a0, .int a1, .retAddr 0], [], h2) (8, [.ref a0, .int a1, .retAddr 0], [], h2) rfl (fun c4 => ?_) (fun c4 => ?_)
  · replace e := ite_t c4 e
    refine eb_n 2 (12, [.ref a0, .int a1, .int (nI 0)], [], h2) (rfl) ?_
    exact f_Grammar_readsBoth_l12_ev d hd G hG   FU _ _ _ _  e
  · replace e := ite_f c4 e
    refine eb_n 1 (9, [.ref a0, .int a1, .retAddr 0], [.int (nI 0)], h2) (rfl) ?_
    rw [(sp_inj e).1, (sp_inj e).2]
    exact eb_rg (p := nrm 3 (nI 0)) rfl nrm_30
set_option maxRecDepth 100000 in
set_option maxHeartbeats 4000000 in
theorem f_Grammar_readsSingle_ev (d : Nat) (hd : 2 ≤ d) (G : Nat → AH → Nat → Int32 → Int32 → Option (AH × Int32)) (hG : (∀ h a x0 h1 r, G 0 h a x0 (nI 0) = some (h1, r) → Ev tb mL d 186 [.ref a, .int x0] h h1 (some (.int r))) ∧ (∀ h a x0 h1 r, G 1 h a x0 (nI 0) = some (h1, r) → Ev tb mL d 209 [.ref a, .int x0] h h1 (some (.int r))) ∧ (∀ h a x0 h1 r, G 2 h a x0 (nI 0) = some (h1, r) → Ev tb mL d 219 [.ref a, .int x0] h h1 (some (.int r))) ∧ (∀ h a x0 h1 r, G 3 h a x0 (nI 0) = some (h1, r) → Ev tb mL d 188 [.ref a, .int x0] h h1 (some (.int r))) ∧ (∀ h a x0 h1 r, G 4 h a x0 (nI 0) = some (h1, r) → Ev tb mL d 210 [.ref a, .int x0] h h1 (some (.int r))) ∧ (∀ h a x0 h1 r, G 5 h a x0 (nI 0) = some (h1, r) → Ev tb mL d 220 [.ref a, .int x0] h h1 (some (.int r))) ∧ (∀ h a x0 x1 h1 r, G 6 h a x0 x1 = some (h1, r) → Ev tb mL d 226 [.ref a, .int x0, .int x1] h h1 (some (.int r)))) {h' : AH} {r : Int32} {h : AH} {a0 : Nat} {a1 : Int32} (e : f_Grammar_readsSingle G h a0 a1 = some (h', r)) : Ev tb mL (d + 1) 219 [.ref a0, .int a1] h h' (some (.int r)) := by
  refine ⟨Nat.le_of_ble_eq_true rfl, ?_⟩
  show Eb (Ev tb mL d) 219 (0, [.ref a0, .int a1, .retAddr 0], [], h) h' (some (.int r))
  unfold f_Grammar_readsSingle at e
  refine eb_n 1 (1, [.ref a0, .int a1, .retAddr 0], [.ref a0], h) (rfl) ?_
  obtain ⟨g1, e⟩ := gd_some e
  refine eb_g (p := hT h a0 = 10) (4, [.ref a0, .int a1, .retAddr 0], [.int (hI h a0 3)], h) rfl g1 ?_
  obtain ⟨x2, hx2, e⟩ := lq_some e
  rw [← hx2]
  by_cases c3 : x2 = nI 33
  · replace e := ite_t c3 e
    refine eb_n 1 (144, [.ref a0, .int a1, .retAddr 0], [], h) (by rw [c3]; rfl) ?_
    refine eb_n 1 (145, [.ref a0, .int a1, .retAddr 0], [.ref a0], h) (rfl) ?_
    refine eb_g (p := hT h a0 = 10) (148, [.ref a0, .int a1, .retAddr 0], [.ref (hR h a0 1)], h) rfl g1 ?_
    refine eb_n 1 (149, [.ref a0, .int a1, .retAddr 0], [.ref a0, .ref (hR h a0 1)], h) (rfl) ?_
    refine eb_g (p := hT h a0 = 10) (152, [.ref a0, .int a1, .retAddr 0], [.int (hI h a0 3), .ref (hR h a0 1)], h) rfl g1 ?_
    refine eb_n 1 (153, [.ref a0, .int a1, .retAddr 0], [.ref a0, .int (hI h a0 3), .ref (hR h a0 1)], h) (rfl) ?_
    refine eb_g (p := hT h a0 = 10) (156, [.ref a0, .int a1, .retAddr 0], [.int (hI h a0 2), .int (hI h a0 3), .ref (hR h a0 1)], h) rfl g1 ?_
    refine eb_n 2 (158, [.ref a0, .int a1, .retAddr 0], [.int ((hI h a0 2) + (nI 1)), .int (hI h a0 3), .ref (hR h a0 1)], h) (rfl) ?_
    obtain ⟨g4, e⟩ := gd_some e
    obtain ⟨h5, eh5, e⟩ := bv_some e
    refine eb_cg (p := hT h (hR h a0 1) = 2) rfl g4 (f_Orders_add_ev d (Nat.le_trans (by decide) hd) eh5) ?_
    show Eb _ 219 (161, [.ref a0, .int a1, .retAddr 0], [], h5) _ _
    refine eb_n 2 (163, [.ref a0, .int a1, .retAddr 0], [.ref a0, .ref a0], h5) (rfl) ?_
    obtain ⟨g6, e⟩ := gd_some e
    refine eb_g (p := hT h5 a0 = 10) (166, [.ref a0, .int a1, .retAddr 0], [.int (hI h5 a0 3), .ref a0], h5) rfl g6 ?_
    obtain ⟨h7, r8, eh7, e⟩ := bn_some e
    refine eb_cg (p := hT h5 a0 = 10) rfl g6 (f_Grammar_reads_ev d (Nat.le_trans (by decide) hd) eh7) ?_
    show Eb _ 219 (169, [.ref a0, .int a1, .retAddr 0], [.int r8], h7) _ _
    refine eb_b (c := r8 = 0) (185, [.ref a0, .int a1, .retAddr 0], [], h7) (172, [.ref a0, .int a1, .retAddr 0], [], h7) rfl (fun c9 => ?_) (fun c9 => ?_)
    · replace e := ite_t c9 e
      refine eb_n 1 (186, [.ref a0, .int a1, .retAddr 0], [.int (nI 0)], h7) (rfl) ?_
      rw [(sp_inj e).1, (sp_inj e).2]
      exact eb_rg (p := nrm 3 (nI 0)) rfl nrm_30
    · replace e := ite_f c9 e
      refine eb_n 2 (175, [.ref a0, .int a1, .retAddr 0], [.int (nI 55), .ref a0], h7) (rfl) ?_
      obtain ⟨g10, e⟩ := gd_some e
      obtain ⟨h11, r12, eh11, e⟩ := bn_some e
      refine eb_cg (p := hT h7 a0 = 10) rfl g10 (f_Grammar_reads_ev d (Nat.le_trans (by decide) hd) eh11) ?_
      show Eb _ 219 (178, [.ref a0, .int a1, .retAddr 0], [.int r12], h11) _ _
      refine eb_b (c := r12 = 0) (185, [.ref a0, .int a1, .retAddr 0], [], h11) (181, [.ref a0, .int a1, .retAddr 0], [], h11) rfl (fun c13 => ?_) (fun c13 => ?_)
      · replace e := ite_t c13 e
        refine eb_n 1 (186, [.ref a0, .int a1, .retAddr 0], [.int (nI 0)], h11) (rfl) ?_
        rw [(sp_inj e).1, (sp_inj e).2]
        exact eb_rg (p := nrm 3 (nI 0)) rfl nrm_30
      · replace e := ite_f c13 e
        refine eb_n 2 (186, [.ref a0, .int a1, .retAddr 0], [.int (nI 1)], h11) (rfl) ?_
        rw [(sp_inj e).1, (sp_inj e).2]
        exact eb_rg (p := nrm 3 (nI 1)) rfl nrm_31
  replace e := ite_f c3 e
  by_cases c14 : x2 = nI 34
  · replace e := ite_t c14 e
    refine eb_n 1 (144, [.ref a0, .int a1, .retAddr 0], [], h) (by rw [c14]; rfl) ?_
    refine eb_n 1 (145, [.ref a0, .int a1, .retAddr 0], [.ref a0], h) (rfl) ?_
    refine eb_g (p := hT h a0 = 10) (148, [.ref a0, .int a1, .retAddr 0], [.ref (hR h a0 1)], h) rfl g1 ?_
    refine eb_n 1 (149, [.ref a0, .int a1, .retAddr 0], [.ref a0, .ref (hR h a0 1)], h) (rfl) ?_
    refine eb_g (p := hT h a0 = 10) (152, [.ref a0, .int a1, .retAddr 0], [.int (hI h a0 3), .ref (hR h a0 1)], h) rfl g1 ?_
    refine eb_n 1 (153, [.ref a0, .int a1, .retAddr 0], [.ref a0, .int (hI h a0 3), .ref (hR h a0 1)], h) (rfl) ?_
    refine eb_g (p := hT h a0 = 10) (156, [.ref a0, .int a1, .retAddr 0], [.int (hI h a0 2), .int (hI h a0 3), .ref (hR h a0 1)], h) rfl g1 ?_
    refine eb_n 2 (158, [.ref a0, .int a1, .retAddr 0], [.int ((hI h a0 2) + (nI 1)), .int (hI h a0 3), .ref (hR h a0 1)], h) (rfl) ?_
    obtain ⟨g15, e⟩ := gd_some e
    obtain ⟨h16, eh16, e⟩ := bv_some e
    refine eb_cg (p := hT h (hR h a0 1) = 2) rfl g15 (f_Orders_add_ev d (Nat.le_trans (by decide) hd) eh16) ?_
    show Eb _ 219 (161, [.ref a0, .int a1, .retAddr 0], [], h16) _ _
    refine eb_n 2 (163, [.ref a0, .int a1, .retAddr 0], [.ref a0, .ref a0], h16) (rfl) ?_
    obtain ⟨g17, e⟩ := gd_some e
    refine eb_g (p := hT h16 a0 = 10) (166, [.ref a0, .int a1, .retAddr 0], [.int (hI h16 a0 3), .ref a0], h16) rfl g17 ?_
    obtain ⟨h18, r19, eh18, e⟩ := bn_some e
    refine eb_cg (p := hT h16 a0 = 10) rfl g17 (f_Grammar_reads_ev d (Nat.le_trans (by decide) hd) eh18) ?_
    show Eb _ 219 (169, [.ref a0, .int a1, .retAddr 0], [.int r19], h18) _ _
    refine eb_b (c := r19 = 0) (185, [.ref a0, .int a1, .retAddr 0], [], h18) (172, [.ref a0, .int a1, .retAddr 0], [], h18) rfl (fun c20 => ?_) (fun c20 => ?_)
    · replace e := ite_t c20 e
      refine eb_n 1 (186, [.ref a0, .int a1, .retAddr 0], [.int (nI 0)], h18) (rfl) ?_
      rw [(sp_inj e).1, (sp_inj e).2]
      exact eb_rg (p := nrm 3 (nI 0)) rfl nrm_30
    · replace e := ite_f c20 e
      refine eb_n 2 (175, [.ref a0, .int a1, .retAddr 0], [.int (nI 55), .ref a0], h18) (rfl) ?_
      obtain ⟨g21, e⟩ := gd_some e
      obtain ⟨h22, r23, eh22, e⟩ := bn_some e
      refine eb_cg (p := hT h18 a0 = 10) rfl g21 (f_Grammar_reads_ev d (Nat.le_trans (by decide) hd) eh22) ?_
      show Eb _ 219 (178, [.ref a0, .int a1, .retAddr 0], [.int r23], h22) _ _
      refine eb_b (c := r23 = 0) (185, [.ref a0, .int a1, .retAddr 0], [], h22) (181, [.ref a0, .int a1, .retAddr 0], [], h22) rfl (fun c24 => ?_) (fun c24 => ?_)
      · replace e := ite_t c24 e
        refine eb_n 1 (186, [.ref a0, .int a1, .retAddr 0], [.int (nI 0)], h22) (rfl) ?_
        rw [(sp_inj e).1, (sp_inj e).2]
        exact eb_rg (p := nrm 3 (nI 0)) rfl nrm_30
      · replace e := ite_f c24 e
        refine eb_n 2 (186, [.ref a0, .int a1, .retAddr 0], [.int (nI 1)], h22) (rfl) ?_
        rw [(sp_inj e).1, (sp_inj e).2]
        exact eb_rg (p := nrm 3 (nI 1)) rfl nrm_31
  replace e := ite_f c14 e
  by_cases c25 : x2 = nI 35
  · replace e := ite_t c25 e
    refine eb_n 1 (60, [.ref a0, .int a1, .retAddr 0], [], h) (by rw [c25]; rfl) ?_
    refine eb_n 1 (61, [.ref a0, .int a1, .retAddr 0], [.int a1], h) (rfl) ?_
    obtain ⟨h26, r27, eh26, e⟩ := bn_some e
    refine eb_c rfl (f_Grammar_mayGoDeeper_ev d (Nat.le_trans (by decide) hd) eh26) ?_
    show Eb _ 219 (64, [.ref a0, .int a1, .retAddr 0], [.int r27], h26) _ _
    refine eb_b (c := r27 = 0) (86, [.ref a0, .int a1, .retAddr 0], [], h26) (67, [.ref a0, .int a1, .retAddr 0], [], h26) rfl (fun c28 => ?_) (fun c28 => ?_)
    · replace e := ite_t c28 e
      refine eb_n 1 (87, [.ref a0, .int a1, .retAddr 0], [.int (nI 0)], h26) (rfl) ?_
      rw [(sp_inj e).1, (sp_inj e).2]
      exact eb_rg (p := nrm 3 (nI 0)) rfl nrm_30
    · replace e := ite_f c28 e
      refine eb_n 2 (70, [.ref a0, .int a1, .retAddr 0], [.int (nI 35), .ref a0], h26) (rfl) ?_
      obtain ⟨g29, e⟩ := gd_some e
      obtain ⟨h30, r31, eh30, e⟩ := bn_some e
      refine eb_cg (p := hT h26 a0 = 10) rfl g29 (f_Grammar_reads_ev d (Nat.le_trans (by decide) hd) eh30) ?_
      show Eb _ 219 (73, [.ref a0, .int a1, .retAddr 0], [.int r31], h30) _ _
      refine eb_b (c := r31 = 0) (86, [.ref a0, .int a1, .retAddr 0], [], h30) (76, [.ref a0, .int a1, .retAddr 0], [], h30) rfl (fun c32 => ?_) (fun c32 => ?_)
      · replace e := ite_t c32 e
        refine eb_n 1 (87, [.ref a0, .int a1, .retAddr 0], [.int (nI 0)], h30) (rfl) ?_
        rw [(sp_inj e).1, (sp_inj e).2]
        exact eb_rg (p := nrm 3 (nI 0)) rfl nrm_30
      · replace e := ite_f c32 e
        refine eb_n 4 (80, [.ref a0, .int a1, .retAddr 0], [.int (a1 + (nI 1)), .ref a0], h30) (rfl) ?_
        obtain ⟨g33, e⟩ := gd_some e
        obtain ⟨h34, r35, eh34, e⟩ := bn_some e
        refine eb_cg (p := hT h30 a0 = 10) rfl g33 (hG.2.2.1 _ _ _ _ _ eh34) ?_
        show Eb _ 219 (83, [.ref a0, .int a1, .retAddr 0], [.int r35], h34) _ _
        refine eb_b (c := ¬ r35 = 0) (88, [.ref a0, .int a1, .retAddr 0], [], h34) (86, [.ref a0, .int a1, .retAddr 0], [], h34) rfl (fun c36 => ?_) (fun c36 => ?_)
        · replace e := ite_t c36 e
          refine eb_n 1 (89, [.ref a0, .int a1, .retAddr 0], [.ref a0], h34) (rfl) ?_
          obtain ⟨g37, e⟩ := gd_some e
          refine eb_g (p := hT h34 a0 = 10) (92, [.ref a0, .int a1, .retAddr 0], [.ref (hR h34 a0 1)], h34) rfl g37 ?_
          refine eb_n 2 (95, [.ref a0, .int a1, .retAddr 0], [.ref a0, .int (nI 35), .ref (hR h34 a0 1)], h34) (rfl) ?_
          refine eb_g (p := hT h34 a0 = 10) (98, [.ref a0, .int a1, .retAddr 0], [.int (hI h34 a0 2), .int (nI 35), .ref (hR h34 a0 1)], h34) rfl g37 ?_
          obtain ⟨g38, e⟩ := gd_some e
          obtain ⟨h39, eh39, e⟩ := bv_some e
          refine eb_cg (p := hT h34 (hR h34 a0 1) = 2) rfl g38 (f_Orders_add_ev d (Nat.le_trans (by decide) hd) eh39) ?_
          show Eb _ 219 (101, [.ref a0, .int a1, .retAddr 0], [], h39) _ _
          refine eb_n 1 (102, [.ref a0, .int a1, .retAddr 0], [.int (nI 1)], h39) (rfl) ?_
          rw [(sp_inj e).1, (sp_inj e).2]
          exact eb_rg (p := nrm 3 (nI 1)) rfl nrm_31
        · replace e := ite_f c36 e
          refine eb_n 1 (87, [.ref a0, .int a1, .retAddr 0], [.int (nI 0)], h34) (rfl) ?_
          rw [(sp_inj e).1, (sp_inj e).2]
          exact eb_rg (p := nrm 3 (nI 0)) rfl nrm_30
  replace e := ite_f c25 e
  by_cases c40 : x2 = nI 36
  · replace e := ite_t c40 e
    refine eb_n 1 (187, [.ref a0, .int a1, .retAddr 0], [], h) (by rw [c40]; rfl) ?_
    refine eb_n 2 (189, [.ref a0, .int a1, .retAddr 0], [.int a1, .ref a0], h) (rfl) ?_
    obtain ⟨h41, r42, eh41, e⟩ := bn_some e
    refine eb_cg (p := hT h a0 = 10) rfl g1 (hG.2.2.2.1 _ _ _ _ _ eh41) ?_
    show Eb _ 219 (192, [.ref a0, .int a1, .retAddr 0], [.int r42], h41) _ _
    refine eb_b (c := ¬ r42 = 0) (197, [.ref a0, .int a1, .retAddr 0], [], h41) (195, [.ref a0, .int a1, .retAddr 0], [], h41) rfl (fun c43 => ?_) (fun c43 => ?_)
    · replace e := ite_t c43 e
      refine eb_n 1 (198, [.ref a0, .int a1, .retAddr 0], [.ref a0], h41) (rfl) ?_
      obtain ⟨g44, e⟩ := gd_some e
      refine eb_g (p := hT h41 a0 = 10) (201, [.ref a0, .int a1, .retAddr 0], [.int (hI h41 a0 3)], h41) rfl g44 ?_
      obtain ⟨x45, hx45, e⟩ := lq_some e
      refine eb_n 1 (202, [.ref a0, .int a1, .int x45], [], h41) (by subst hx45; rfl) ?_
      refine eb_n 1 (203, [.ref a0, .int a1, .int x45], [.int x45], h41) (rfl) ?_
      obtain ⟨h46, r47, eh46, e⟩ := bn_some e
      refine eb_c rfl (f_Grammar_isComparison_ev d (Nat.le_trans (by decide) hd) eh46) ?_
      show Eb _ 219 (206, [.ref a0, .int a1, .int x45], [.int r47], h46) _ _
      refine eb_b (c := r47 = 0) (225, [.ref a0, .int a1, .int x45], [], h46) (209, [.ref a0, .int a1, .int x45], [], h46) rfl (fun c48 => ?_) (fun c48 => ?_)
      · replace e := ite_t c48 e
        refine eb_n 1 (226, [.ref a0, .int a1, .int x45], [.int (nI 0)], h46) (rfl) ?_
        rw [(sp_inj e).1, (sp_inj e).2]
        exact eb_rg (p := nrm 3 (nI 0)) rfl nrm_30
      · replace e := ite_f c48 e
        refine eb_n 2 (211, [.ref a0, .int a1, .int x45], [.int x45, .ref a0], h46) (rfl) ?_
        obtain ⟨g49, e⟩ := gd_some e
        obtain ⟨h50, r51, eh50, e⟩ := bn_some e
        refine eb_cg (p := hT h46 a0 = 10) rfl g49 (f_Grammar_reads_ev d (Nat.le_trans (by decide) hd) eh50) ?_
        show Eb _ 219 (214, [.ref a0, .int a1, .int x45], [.int r51], h50) _ _
        refine eb_b (c := r51 = 0) (225, [.ref a0, .int a1, .int x45], [], h50) (217, [.ref a0, .int a1, .int x45], [], h50) rfl (fun c52 => ?_) (fun c52 => ?_)
        · replace e := ite_t c52 e
          refine eb_n 1 (226, [.ref a0, .int a1, .int x45], [.int (nI 0)], h50) (rfl) ?_
          rw [(sp_inj e).1, (sp_inj e).2]
          exact eb_rg (p := nrm 3 (nI 0)) rfl nrm_30
        · replace e := ite_f c52 e
          refine eb_n 2 (219, [.ref a0, .int a1, .int x45], [.int a1, .ref a0], h50) (rfl) ?_
          obtain ⟨g53, e⟩ := gd_some e
          obtain ⟨h54, r55, eh54, e⟩ := bn_some e
          refine eb_cg (p := hT h50 a0 = 10) rfl g53 (hG.2.2.2.1 _ _ _ _ _ eh54) ?_
          show Eb _ 219 (222, [.ref a0, .int a1, .int x45], [.int r55], h54) _ _
          refine eb_b (c := ¬ r55 = 0) (227, [.ref a0, .int a1, .int x45], [], h54) (225, [.ref a0, .int a1, .int x45], [], h54) rfl (fun c56 => ?_) (fun c56 => ?_)
          · replace e := ite_t c56 e
            refine eb_n 1 (228, [.ref a0, .int a1, .int x45], [.ref a0], h54) (rfl) ?_
            obtain ⟨g57, e⟩ := gd_some e
            refine eb_g (p := hT h54 a0 = 10) (231, [.ref a0, .int a1, .int x45], [.ref (hR h54 a0 1)], h54) rfl g57 ?_
            refine eb_n 2 (233, [.ref a0, .int a1, .int x45], [.ref a0, .int x45, .ref (hR h54 a0 1)], h54) (rfl) ?_
            refine eb_g (p := hT h54 a0 = 10) (236, [.ref a0, .int a1, .int x45], [.int (hI h54 a0 2), .int x45, .ref (hR h54 a0 1)], h54) rfl g57 ?_
            obtain ⟨g58, e⟩ := gd_some e
            obtain ⟨h59, eh59, e⟩ := bv_some e
            refine eb_cg (p := hT h54 (hR h54 a0 1) = 2) rfl g58 (f_Orders_add_ev d (Nat.le_trans (by decide) hd) eh59) ?_
            show Eb _ 219 (239, [.ref a0, .int a1, .int x45], [], h59) _ _
            refine eb_n 1 (240, [.ref a0, .int a1, .int x45], [.int (nI 1)], h59) (rfl) ?_
            rw [(sp_inj e).1, (sp_inj e).2]
            exact eb_rg (p := nrm 3 (nI 1)) rfl nrm_31
          · replace e := ite_f c56 e
            refine eb_n 1 (226, [.ref a0, .int a1, .int x45], [.int (nI 0)], h54) (rfl) ?_
            rw [(sp_inj e).1, (sp_inj e).2]
            exact eb_rg (p := nrm 3 (nI 0)) rfl nrm_30
    · replace e := ite_f c43 e
      refine eb_n 1 (196, [.ref a0, .int a1, .retAddr 0], [.int (nI 0)], h41) (rfl) ?_
      rw [(sp_inj e).1, (sp_inj e).2]
      exact eb_rg (p := nrm 3 (nI 0)) rfl nrm_30
  replace e := ite_f c40 e
  by_cases c60 : x2 = nI 37
  · replace e := ite_t c60 e
    refine eb_n 1 (187, [.ref a0, .int a1, .retAddr 0], [], h) (by rw [c60]; rfl) ?_
    refine eb_n 2 (189, [.ref a0, .int a1, .retAddr 0], [.int a1, .ref a0], h) (rfl) ?_
    obtain ⟨h61, r62, eh61, e⟩ := bn_some e
    refine eb_cg (p := hT h a0 = 10) rfl g1 (hG.2.2.2.1 _ _ _ _ _ eh61) ?_
    show Eb _ 219 (192, [.ref a0, .int a1, .retAddr 0], [.int r62], h61) _ _
    refine eb_b (c := ¬ r62 = 0) (197, [.ref a0, .int a1, .retAddr 0], [], h61) (195, [.ref a0, .int a1, .retAddr 0], [], h61) rfl (fun c63 => ?_) (fun c63 => ?_)
    · replace e := ite_t c63 e
      refine eb_n 1 (198, [.ref a0, .int a1, .retAddr 0], [.ref a0], h61) (rfl) ?_
      obtain ⟨g64, e⟩ := gd_some e
      refine eb_g (p := hT h61 a0 = 10) (201, [.ref a0, .int a1, .retAddr 0], [.int (hI h61 a0 3)], h61) rfl g64 ?_
      obtain ⟨x65, hx65, e⟩ := lq_some e
      refine eb_n 1 (202, [.ref a0, .int a1, .int x65], [], h61) (by subst hx65; rfl) ?_
      refine eb_n 1 (203, [.ref a0, .int a1, .int x65], [.int x65], h61) (rfl) ?_
      obtain ⟨h66, r67, eh66, e⟩ := bn_some e
      refine eb_c rfl (f_Grammar_isComparison_ev d (Nat.le_trans (by decide) hd) eh66) ?_
      show Eb _ 219 (206, [.ref a0, .int a1, .int x65], [.int r67], h66) _ _
      refine eb_b (c := r67 = 0) (225, [.ref a0, .int a1, .int x65], [], h66) (209, [.ref a0, .int a1, .int x65], [], h66) rfl (fun c68 => ?_) (fun c68 => ?_)
      · replace e := ite_t c68 e
        refine eb_n 1 (226, [.ref a0, .int a1, .int x65], [.int (nI 0)], h66) (rfl) ?_
        rw [(sp_inj e).1, (sp_inj e).2]
        exact eb_rg (p := nrm 3 (nI 0)) rfl nrm_30
      · replace e := ite_f c68 e
        refine eb_n 2 (211, [.ref a0, .int a1, .int x65], [.int x65, .ref a0], h66) (rfl) ?_
        obtain ⟨g69, e⟩ := gd_some e
        obtain ⟨h70, r71, eh70, e⟩ := bn_some e
        refine eb_cg (p := hT h66 a0 = 10) rfl g69 (f_Grammar_reads_ev d (Nat.le_trans (by decide) hd) eh70) ?_
        show Eb _ 219 (214, [.ref a0, .int a1, .int x65], [.int r71], h70) _ _
        refine eb_b (c := r71 = 0) (225, [.ref a0, .int a1, .int x65], [], h70) (217, [.ref a0, .int a1, .int x65], [], h70) rfl (fun c72 => ?_) (fun c72 => ?_)
        · replace e := ite_t c72 e
          refine eb_n 1 (226, [.ref a0, .int a1, .int x65], [.int (nI 0)], h70) (rfl) ?_
          rw [(sp_inj e).1, (sp_inj e).2]
          exact eb_rg (p := nrm 3 (nI 0)) rfl nrm_30
        · replace e := ite_f c72 e
          refine eb_n 2 (219, [.ref a0, .int a1, .int x65], [.int a1, .ref a0], h70) (rfl) ?_
          obtain ⟨g73, e⟩ := gd_some e
          obtain ⟨h74, r75, eh74, e⟩ := bn_some e
          refine eb_cg (p := hT h70 a0 = 10) rfl g73 (hG.2.2.2.1 _ _ _ _ _ eh74) ?_
          show Eb _ 219 (222, [.ref a0, .int a1, .int x65], [.int r75], h74) _ _
          refine eb_b (c := ¬ r75 = 0) (227, [.ref a0, .int a1, .int x65], [], h74) (225, [.ref a0, .int a1, .int x65], [], h74) rfl (fun c76 => ?_) (fun c76 => ?_)
          · replace e := ite_t c76 e
            refine eb_n 1 (228, [.ref a0, .int a1, .int x65], [.ref a0], h74) (rfl) ?_
            obtain ⟨g77, e⟩ := gd_some e
            refine eb_g (p := hT h74 a0 = 10) (231, [.ref a0, .int a1, .int x65], [.ref (hR h74 a0 1)], h74) rfl g77 ?_
            refine eb_n 2 (233, [.ref a0, .int a1, .int x65], [.ref a0, .int x65, .ref (hR h74 a0 1)], h74) (rfl) ?_
            refine eb_g (p := hT h74 a0 = 10) (236, [.ref a0, .int a1, .int x65], [.int (hI h74 a0 2), .int x65, .ref (hR h74 a0 1)], h74) rfl g77 ?_
            obtain ⟨g78, e⟩ := gd_some e
            obtain ⟨h79, eh79, e⟩ := bv_some e
            refine eb_cg (p := hT h74 (hR h74 a0 1) = 2) rfl g78 (f_Orders_add_ev d (Nat.le_trans (by decide) hd) eh79) ?_
            show Eb _ 219 (239, [.ref a0, .int a1, .int x65], [], h79) _ _
            refine eb_n 1 (240, [.ref a0, .int a1, .int x65], [.int (nI 1)], h79) (rfl) ?_
            rw [(sp_inj e).1, (sp_inj e).2]
            exact eb_rg (p := nrm 3 (nI 1)) rfl nrm_31
          · replace e := ite_f c76 e
            refine eb_n 1 (226, [.ref a0, .int a1, .int x65], [.int (nI 0)], h74) (rfl) ?_
            rw [(sp_inj e).1, (sp_inj e).2]
            exact eb_rg (p := nrm 3 (nI 0)) rfl nrm_30
    · replace e := ite_f c63 e
      refine eb_n 1 (196, [.ref a0, .int a1, .retAddr 0], [.int (nI 0)], h61) (rfl) ?_
      rw [(sp_inj e).1, (sp_inj e).2]
      exact eb_rg (p := nrm 3 (nI 0)) rfl nrm_30
  replace e := ite_f c60 e
  by_cases c80 : x2 = nI 38
  · replace e := ite_t c80 e
    refine eb_n 1 (187, [.ref a0, .int a1, .retAddr 0], [], h) (by rw [c80]; rfl) ?_
    refine eb_n 2 (189, [.ref a0, .int a1, .retAddr 0], [.int a1, .ref a0], h) (rfl) ?_
    obtain ⟨h81, r82, eh81, e⟩ := bn_some e
    refine eb_cg (p := hT h a0 = 10) rfl g1 (hG.2.2.2.1 _ _ _ _ _ eh81) ?_
    show Eb _ 219 (192, [.ref a0, .int a1, .retAddr 0], [.int r82], h81) _ _
    refine eb_b (c := ¬ r82 = 0) (197, [.ref a0, .int a1, .retAddr 0], [], h81) (195, [.ref a0, .int a1, .retAddr 0], [], h81) rfl (fun c83 => ?_) (fun c83 => ?_)
    · replace e := ite_t c83 e
      refine eb_n 1 (198, [.ref a0, .int a1, .retAddr 0], [.ref a0], h81) (rfl) ?_
      obtain ⟨g84, e⟩ := gd_some e
      refine eb_g (p := hT h81 a0 = 10) (201, [.ref a0, .int a1, .retAddr 0], [.int (hI h81 a0 3)], h81) rfl g84 ?_
      obtain ⟨x85, hx85, e⟩ := lq_some e
      refine eb_n 1 (202, [.ref a0, .int a1, .int x85], [], h81) (by subst hx85; rfl) ?_
      refine eb_n 1 (203, [.ref a0, .int a1, .int x85], [.int x85], h81) (rfl) ?_
      obtain ⟨h86, r87, eh86, e⟩ := bn_some e
      refine eb_c rfl (f_Grammar_isComparison_ev d (Nat.le_trans (by decide) hd) eh86) ?_
      show Eb _ 219 (206, [.ref a0, .int a1, .int x85], [.int r87], h86) _ _
      refine eb_b (c := r87 = 0) (225, [.ref a0, .int a1, .int x85], [], h86) (209, [.ref a0, .int a1, .int x85], [], h86) rfl (fun c88 => ?_) (fun c88 => ?_)
      · replace e := ite_t c88 e
        refine eb_n 1 (226, [.ref a0, .int a1, .int x85], [.int (nI 0)], h86) (rfl) ?_
        rw [(sp_inj e).1, (sp_inj e).2]
        exact eb_rg (p := nrm 3 (nI 0)) rfl nrm_30
      · replace e := ite_f c88 e
        refine eb_n 2 (211, [.ref a0, .int a1, .int x85], [.int x85, .ref a0], h86) (rfl) ?_
        obtain ⟨g89, e⟩ := gd_some e
        obtain ⟨h90, r91, eh90, e⟩ := bn_some e
        refine eb_cg (p := hT h86 a0 = 10) rfl g89 (f_Grammar_reads_ev d (Nat.le_trans (by decide) hd) eh90) ?_
        show Eb _ 219 (214, [.ref a0, .int a1, .int x85], [.int r91], h90) _ _
        refine eb_b (c := r91 = 0) (225, [.ref a0, .int a1, .int x85], [], h90) (217, [.ref a0, .int a1, .int x85], [], h90) rfl (fun c92 => ?_) (fun c92 => ?_)
        · replace e := ite_t c92 e
          refine eb_n 1 (226, [.ref a0, .int a1, .int x85], [.int (nI 0)], h90) (rfl) ?_
          rw [(sp_inj e).1, (sp_inj e).2]
          exact eb_rg (p := nrm 3 (nI 0)) rfl nrm_30
        · replace e := ite_f c92 e
          refine eb_n 2 (219, [.ref a0, .int a1, .int x85], [.int a1, .ref a0], h90) (rfl) ?_
          obtain ⟨g93, e⟩ := gd_some e
          obtain ⟨h94, r95, eh94, e⟩ := bn_some e
          refine eb_cg (p := hT h90 a0 = 10) rfl g93 (hG.2.2.2.1 _ _ _ _ _ eh94) ?_
          show Eb _ 219 (222, [.ref a0, .int a1, .int x85], [.int r95], h94) _ _
          refine eb_b (c := ¬ r95 = 0) (227, [.ref a0, .int a1, .int x85], [], h94) (225, [.ref a0, .int a1, .int x85], [], h94) rfl (fun c96 => ?_) (fun c96 => ?_)
          · replace e := ite_t c96 e
            refine eb_n 1 (228, [.ref a0, .int a1, .int x85], [.ref a0], h94) (rfl) ?_
            obtain ⟨g97, e⟩ := gd_some e
            refine eb_g (p := hT h94 a0 = 10) (231, [.ref a0, .int a1, .int x85], [.ref (hR h94 a0 1)], h94) rfl g97 ?_
            refine eb_n 2 (233, [.ref a0, .int a1, .int x85], [.ref a0, .int x85, .ref (hR h94 a0 1)], h94) (rfl) ?_
            refine eb_g (p := hT h94 a0 = 10) (236, [.ref a0, .int a1, .int x85], [.int (hI h94 a0 2), .int x85, .ref (hR h94 a0 1)], h94) rfl g97 ?_
            obtain ⟨g98, e⟩ := gd_some e
            obtain ⟨h99, eh99, e⟩ := bv_some e
            refine eb_cg (p := hT h94 (hR h94 a0 1) = 2) rfl g98 (f_Orders_add_ev d (Nat.le_trans (by decide) hd) eh99) ?_
            show Eb _ 219 (239, [.ref a0, .int a1, .int x85], [], h99) _ _
            refine eb_n 1 (240, [.ref a0, .int a1, .int x85], [.int (nI 1)], h99) (rfl) ?_
            rw [(sp_inj e).1, (sp_inj e).2]
            exact eb_rg (p := nrm 3 (nI 1)) rfl nrm_31
          · replace e := ite_f c96 e
            refine eb_n 1 (226, [.ref a0, .int a1, .int x85], [.int (nI 0)], h94) (rfl) ?_
            rw [(sp_inj e).1, (sp_inj e).2]
            exact eb_rg (p := nrm 3 (nI 0)) rfl nrm_30
    · replace e := ite_f c83 e
      refine eb_n 1 (196, [.ref a0, .int a1, .retAddr 0], [.int (nI 0)], h81) (rfl) ?_
      rw [(sp_inj e).1, (sp_inj e).2]
      exact eb_rg (p := nrm 3 (nI 0)) rfl nrm_30
  replace e := ite_f c80 e
  by_cases c100 : x2 = nI 39
  · replace e := ite_t c100 e
    refine eb_n 1 (187, [.ref a0, .int a1, .retAddr 0], [], h) (by rw [c100]; rfl) ?_
    refine eb_n 2 (189, [.ref a0, .int a1, .retAddr 0], [.int a1, .ref a0], h) (rfl) ?_
    obtain ⟨h101, r102, eh101, e⟩ := bn_some e
    refine eb_cg (p := hT h a0 = 10) rfl g1 (hG.2.2.2.1 _ _ _ _ _ eh101) ?_
    show Eb _ 219 (192, [.ref a0, .int a1, .retAddr 0], [.int r102], h101) _ _
    refine eb_b (c := ¬ r102 = 0) (197, [.ref a0, .int a1, .retAddr 0], [], h101) (195, [.ref a0, .int a1, .retAddr 0], [], h101) rfl (fun c103 => ?_) (fun c103 => ?_)
    · replace e := ite_t c103 e
      refine eb_n 1 (198, [.ref a0, .int a1, .retAddr 0], [.ref a0], h101) (rfl) ?_
      obtain ⟨g104, e⟩ := gd_some e
      refine eb_g (p := hT h101 a0 = 10) (201, [.ref a0, .int a1, .retAddr 0], [.int (hI h101 a0 3)], h101) rfl g104 ?_
      obtain ⟨x105, hx105, e⟩ := lq_some e
      refine eb_n 1 (202, [.ref a0, .int a1, .int x105], [], h101) (by subst hx105; rfl) ?_
      refine eb_n 1 (203, [.ref a0, .int a1, .int x105], [.int x105], h101) (rfl) ?_
      obtain ⟨h106, r107, eh106, e⟩ := bn_some e
      refine eb_c rfl (f_Grammar_isComparison_ev d (Nat.le_trans (by decide) hd) eh106) ?_
      show Eb _ 219 (206, [.ref a0, .int a1, .int x105], [.int r107], h106) _ _
      refine eb_b (c := r107 = 0) (225, [.ref a0, .int a1, .int x105], [], h106) (209, [.ref a0, .int a1, .int x105], [], h106) rfl (fun c108 => ?_) (fun c108 => ?_)
      · replace e := ite_t c108 e
        refine eb_n 1 (226, [.ref a0, .int a1, .int x105], [.int (nI 0)], h106) (rfl) ?_
        rw [(sp_inj e).1, (sp_inj e).2]
        exact eb_rg (p := nrm 3 (nI 0)) rfl nrm_30
      · replace e := ite_f c108 e
        refine eb_n 2 (211, [.ref a0, .int a1, .int x105], [.int x105, .ref a0], h106) (rfl) ?_
        obtain ⟨g109, e⟩ := gd_some e
        obtain ⟨h110, r111, eh110, e⟩ := bn_some e
        refine eb_cg (p := hT h106 a0 = 10) rfl g109 (f_Grammar_reads_ev d (Nat.le_trans (by decide) hd) eh110) ?_
        show Eb _ 219 (214, [.ref a0, .int a1, .int x105], [.int r111], h110) _ _
        refine eb_b (c := r111 = 0) (225, [.ref a0, .int a1, .int x105], [], h110) (217, [.ref a0, .int a1, .int x105], [], h110) rfl (fun c112 => ?_) (fun c112 => ?_)
        · replace e := ite_t c112 e
          refine eb_n 1 (226, [.ref a0, .int a1, .int x105], [.int (nI 0)], h110) (rfl) ?_
          rw [(sp_inj e).1, (sp_inj e).2]
          exact eb_rg (p := nrm 3 (nI 0)) rfl nrm_30
        · replace e := ite_f c112 e
          refine eb_n 2 (219, [.ref a0, .int a1, .int x105], [.int a1, .ref a0], h110) (rfl) ?_
          obtain ⟨g113, e⟩ := gd_some e
          obtain ⟨h114, r115, eh114, e⟩ := bn_some e
          refine eb_cg (p := hT h110 a0 = 10) rfl g113 (hG.2.2.2.1 _ _ _ _ _ eh114) ?_
          show Eb _ 219 (222, [.ref a0, .int a1, .int x105], [.int r115], h114) _ _
          refine eb_b (c := ¬ r115 = 0) (227, [.ref a0, .int a1, .int x105], [], h114) (225, [.ref a0, .int a1, .int x105], [], h114) rfl (fun c116 => ?_) (fun c116 => ?_)
          · replace e := ite_t c116 e
            refine eb_n 1 (228, [.ref a0, .int a1, .int x105], [.ref a0], h114) (rfl) ?_
            obtain ⟨g117, e⟩ := gd_some e
            refine eb_g (p := hT h114 a0 = 10) (231, [.ref a0, .int a1, .int x105], [.ref (hR h114 a0 1)], h114) rfl g117 ?_
            refine eb_n 2 (233, [.ref a0, .int a1, .int x105], [.ref a0, .int x105, .ref (hR h114 a0 1)], h114) (rfl) ?_
            refine eb_g (p := hT h114 a0 = 10) (236, [.ref a0, .int a1, .int x105], [.int (hI h114 a0 2), .int x105, .ref (hR h114 a0 1)], h114) rfl g117 ?_
            obtain ⟨g118, e⟩ := gd_some e
            obtain ⟨h119, eh119, e⟩ := bv_some e
            refine eb_cg (p := hT h114 (hR h114 a0 1) = 2) rfl g118 (f_Orders_add_ev d (Nat.le_trans (by decide) hd) eh119) ?_
            show Eb _ 219 (239, [.ref a0, .int a1, .int x105], [], h119) _ _
            refine eb_n 1 (240, [.ref a0, .int a1, .int x105], [.int (nI 1)], h119) (rfl) ?_
            rw [(sp_inj e).1, (sp_inj e).2]
            exact eb_rg (p := nrm 3 (nI 1)) rfl nrm_31
          · replace e := ite_f c116 e
            refine eb_n 1 (226, [.ref a0, .int a1, .int x105], [.int (nI 0)], h114) (rfl) ?_
            rw [(sp_inj e).1, (sp_inj e).2]
            exact eb_rg (p := nrm 3 (nI 0)) rfl nrm_30
    · replace e := ite_f c103 e
      refine eb_n 1 (196, [.ref a0, .int a1, .retAddr 0], [.int (nI 0)], h101) (rfl) ?_
      rw [(sp_inj e).1, (sp_inj e).2]
      exact eb_rg (p := nrm 3 (nI 0)) rfl nrm_30
  replace e := ite_f c100 e
  by_cases c120 : x2 = nI 40
  · replace e := ite_t c120 e
    refine eb_n 1 (187, [.ref a0, .int a1, .retAddr 0], [], h) (by rw [c120]; rfl) ?_
    refine eb_n 2 (189, [.ref a0, .int a1, .retAddr 0], [.int a1, .ref a0], h) (rfl) ?_
    obtain ⟨h121, r122, eh121, e⟩ := bn_some e
    refine eb_cg (p := hT h a0 = 10) rfl g1 (hG.2.2.2.1 _ _ _ _ _ eh121) ?_
    show Eb _ 219 (192, [.ref a0, .int a1, .retAddr 0], [.int r122], h121) _ _
    refine eb_b (c := ¬ r122 = 0) (197, [.ref a0, .int a1, .retAddr 0], [], h121) (195, [.ref a0, .int a1, .retAddr 0], [], h121) rfl (fun c123 => ?_) (fun c123 => ?_)
    · replace e := ite_t c123 e
      refine eb_n 1 (198, [.ref a0, .int a1, .retAddr 0], [.ref a0], h121) (rfl) ?_
      obtain ⟨g124, e⟩ := gd_some e
      refine eb_g (p := hT h121 a0 = 10) (201, [.ref a0, .int a1, .retAddr 0], [.int (hI h121 a0 3)], h121) rfl g124 ?_
      obtain ⟨x125, hx125, e⟩ := lq_some e
      refine eb_n 1 (202, [.ref a0, .int a1, .int x125], [], h121) (by subst hx125; rfl) ?_
      refine eb_n 1 (203, [.ref a0, .int a1, .int x125], [.int x125], h121) (rfl) ?_
      obtain ⟨h126, r127, eh126, e⟩ := bn_some e
      refine eb_c rfl (f_Grammar_isComparison_ev d (Nat.le_trans (by decide) hd) eh126) ?_
      show Eb _ 219 (206, [.ref a0, .int a1, .int x125], [.int r127], h126) _ _
      refine eb_b (c := r127 = 0) (225, [.ref a0, .int a1, .int x125], [], h126) (209, [.ref a0, .int a1, .int x125], [], h126) rfl (fun c128 => ?_) (fun c128 => ?_)
      · replace e := ite_t c128 e
        refine eb_n 1 (226, [.ref a0, .int a1, .int x125], [.int (nI 0)], h126) (rfl) ?_
        rw [(sp_inj e).1, (sp_inj e).2]
        exact eb_rg (p := nrm 3 (nI 0)) rfl nrm_30
      · replace e := ite_f c128 e
        refine eb_n 2 (211, [.ref a0, .int a1, .int x125], [.int x125, .ref a0], h126) (rfl) ?_
        obtain ⟨g129, e⟩ := gd_some e
        obtain ⟨h130, r131, eh130, e⟩ := bn_some e
        refine eb_cg (p := hT h126 a0 = 10) rfl g129 (f_Grammar_reads_ev d (Nat.le_trans (by decide) hd) eh130) ?_
        show Eb _ 219 (214, [.ref a0, .int a1, .int x125], [.int r131], h130) _ _
        refine eb_b (c := r131 = 0) (225, [.ref a0, .int a1, .int x125], [], h130) (217, [.ref a0, .int a1, .int x125], [], h130) rfl (fun c132 => ?_) (fun c132 => ?_)
        · replace e := ite_t c132 e
          refine eb_n 1 (226, [.ref a0, .int a1, .int x125], [.int (nI 0)], h130) (rfl) ?_
          rw [(sp_inj e).1, (sp_inj e).2]
          exact eb_rg (p := nrm 3 (nI 0)) rfl nrm_30
        · replace e := ite_f c132 e
          refine eb_n 2 (219, [.ref a0, .int a1, .int x125], [.int a1, .ref a0], h130) (rfl) ?_
          obtain ⟨g133, e⟩ := gd_some e
          obtain ⟨h134, r135, eh134, e⟩ := bn_some e
          refine eb_cg (p := hT h130 a0 = 10) rfl g133 (hG.2.2.2.1 _ _ _ _ _ eh134) ?_
          show Eb _ 219 (222, [.ref a0, .int a1, .int x125], [.int r135], h134) _ _
          refine eb_b (c := ¬ r135 = 0) (227, [.ref a0, .int a1, .int x125], [], h134) (225, [.ref a0, .int a1, .int x125], [], h134) rfl (fun c136 => ?_) (fun c136 => ?_)
          · replace e := ite_t c136 e
            refine eb_n 1 (228, [.ref a0, .int a1, .int x125], [.ref a0], h134) (rfl) ?_
            obtain ⟨g137, e⟩ := gd_some e
            refine eb_g (p := hT h134 a0 = 10) (231, [.ref a0, .int a1, .int x125], [.ref (hR h134 a0 1)], h134) rfl g137 ?_
            refine eb_n 2 (233, [.ref a0, .int a1, .int x125], [.ref a0, .int x125, .ref (hR h134 a0 1)], h134) (rfl) ?_
            refine eb_g (p := hT h134 a0 = 10) (236, [.ref a0, .int a1, .int x125], [.int (hI h134 a0 2), .int x125, .ref (hR h134 a0 1)], h134) rfl g137 ?_
            obtain ⟨g138, e⟩ := gd_some e
            obtain ⟨h139, eh139, e⟩ := bv_some e
            refine eb_cg (p := hT h134 (hR h134 a0 1) = 2) rfl g138 (f_Orders_add_ev d (Nat.le_trans (by decide) hd) eh139) ?_
            show Eb _ 219 (239, [.ref a0, .int a1, .int x125], [], h139) _ _
            refine eb_n 1 (240, [.ref a0, .int a1, .int x125], [.int (nI 1)], h139) (rfl) ?_
            rw [(sp_inj e).1, (sp_inj e).2]
            exact eb_rg (p := nrm 3 (nI 1)) rfl nrm_31
          · replace e := ite_f c136 e
            refine eb_n 1 (226, [.ref a0, .int a1, .int x125], [.int (nI 0)], h134) (rfl) ?_
            rw [(sp_inj e).1, (sp_inj e).2]
            exact eb_rg (p := nrm 3 (nI 0)) rfl nrm_30
    · replace e := ite_f c123 e
      refine eb_n 1 (196, [.ref a0, .int a1, .retAddr 0], [.int (nI 0)], h121) (rfl) ?_
      rw [(sp_inj e).1, (sp_inj e).2]
      exact eb_rg (p := nrm 3 (nI 0)) rfl nrm_30
  replace e := ite_f c120 e
  by_cases c140 : x2 = nI 41
  · replace e := ite_t c140 e
    refine eb_n 1 (187, [.ref a0, .int a1, .retAddr 0], [], h) (by rw [c140]; rfl) ?_
    refine eb_n 2 (189, [.ref a0, .int a1, .retAddr 0], [.int a1, .ref a0], h) (rfl) ?_
    obtain ⟨h141, r142, eh141, e⟩ := bn_some e
    refine eb_cg (p := hT h a0 = 10) rfl g1 (hG.2.2.2.1 _ _ _ _ _ eh141) ?_
    show Eb _ 219 (192, [.ref a0, .int a1, .retAddr 0], [.int r142], h141) _ _
    refine eb_b (c := ¬ r142 = 0) (197, [.ref a0, .int a1, .retAddr 0], [], h141) (195, [.ref a0, .int a1, .retAddr 0], [], h141) rfl (fun c143 => ?_) (fun c143 => ?_)
    · replace e := ite_t c143 e
      refine eb_n 1 (198, [.ref a0, .int a1, .retAddr 0], [.ref a0], h141) (rfl) ?_
      obtain ⟨g144, e⟩ := gd_some e
      refine eb_g (p := hT h141 a0 = 10) (201, [.ref a0, .int a1, .retAddr 0], [.int (hI h141 a0 3)], h141) rfl g144 ?_
      obtain ⟨x145, hx145, e⟩ := lq_some e
      refine eb_n 1 (202, [.ref a0, .int a1, .int x145], [], h141) (by subst hx145; rfl) ?_
      refine eb_n 1 (203, [.ref a0, .int a1, .int x145], [.int x145], h141) (rfl) ?_
      obtain ⟨h146, r147, eh146, e⟩ := bn_some e
      refine eb_c rfl (f_Grammar_isComparison_ev d (Nat.le_trans (by decide) hd) eh146) ?_
      show Eb _ 219 (206, [.ref a0, .int a1, .int x145], [.int r147], h146) _ _
      refine eb_b (c := r147 = 0) (225, [.ref a0, .int a1, .int x145], [], h146) (209, [.ref a0, .int a1, .int x145], [], h146) rfl (fun c148 => ?_) (fun c148 => ?_)
      · replace e := ite_t c148 e
        refine eb_n 1 (226, [.ref a0, .int a1, .int x145], [.int (nI 0)], h146) (rfl) ?_
        rw [(sp_inj e).1, (sp_inj e).2]
        exact eb_rg (p := nrm 3 (nI 0)) rfl nrm_30
      · replace e := ite_f c148 e
        refine eb_n 2 (211, [.ref a0, .int a1, .int x145], [.int x145, .ref a0], h146) (rfl) ?_
        obtain ⟨g149, e⟩ := gd_some e
        obtain ⟨h150, r151, eh150, e⟩ := bn_some e
        refine eb_cg (p := hT h146 a0 = 10) rfl g149 (f_Grammar_reads_ev d (Nat.le_trans (by decide) hd) eh150) ?_
        show Eb _ 219 (214, [.ref a0, .int a1, .int x145], [.int r151], h150) _ _
        refine eb_b (c := r151 = 0) (225, [.ref a0, .int a1, .int x145], [], h150) (217, [.ref a0, .int a1, .int x145], [], h150) rfl (fun c152 => ?_) (fun c152 => ?_)
        · replace e := ite_t c152 e
          refine eb_n 1 (226, [.ref a0, .int a1, .int x145], [.int (nI 0)], h150) (rfl) ?_
          rw [(sp_inj e).1, (sp_inj e).2]
          exact eb_rg (p := nrm 3 (nI 0)) rfl nrm_30
        · replace e := ite_f c152 e
          refine eb_n 2 (219, [.ref a0, .int a1, .int x145], [.int a1, .ref a0], h150) (rfl) ?_
          obtain ⟨g153, e⟩ := gd_some e
          obtain ⟨h154, r155, eh154, e⟩ := bn_some e
          refine eb_cg (p := hT h150 a0 = 10) rfl g153 (hG.2.2.2.1 _ _ _ _ _ eh154) ?_
          show Eb _ 219 (222, [.ref a0, .int a1, .int x145], [.int r155], h154) _ _
          refine eb_b (c := ¬ r155 = 0) (227, [.ref a0, .int a1, .int x145], [], h154) (225, [.ref a0, .int a1, .int x145], [], h154) rfl (fun c156 => ?_) (fun c156 => ?_)
          · replace e := ite_t c156 e
            refine eb_n 1 (228, [.ref a0, .int a1, .int x145], [.ref a0], h154) (rfl) ?_
            obtain ⟨g157, e⟩ := gd_some e
            refine eb_g (p := hT h154 a0 = 10) (231, [.ref a0, .int a1, .int x145], [.ref (hR h154 a0 1)], h154) rfl g157 ?_
            refine eb_n 2 (233, [.ref a0, .int a1, .int x145], [.ref a0, .int x145, .ref (hR h154 a0 1)], h154) (rfl) ?_
            refine eb_g (p := hT h154 a0 = 10) (236, [.ref a0, .int a1, .int x145], [.int (hI h154 a0 2), .int x145, .ref (hR h154 a0 1)], h154) rfl g157 ?_
            obtain ⟨g158, e⟩ := gd_some e
            obtain ⟨h159, eh159, e⟩ := bv_some e
            refine eb_cg (p := hT h154 (hR h154 a0 1) = 2) rfl g158 (f_Orders_add_ev d (Nat.le_trans (by decide) hd) eh159) ?_
            show Eb _ 219 (239, [.ref a0, .int a1, .int x145], [], h159) _ _
            refine eb_n 1 (240, [.ref a0, .int a1, .int x145], [.int (nI 1)], h159) (rfl) ?_
            rw [(sp_inj e).1, (sp_inj e).2]
            exact eb_rg (p := nrm 3 (nI 1)) rfl nrm_31
          · replace e := ite_f c156 e
            refine eb_n 1 (226, [.ref a0, .int a1, .int x145], [.int (nI 0)], h154) (rfl) ?_
            rw [(sp_inj e).1, (sp_inj e).2]
            exact eb_rg (p := nrm 3 (nI 0)) rfl nrm_30
    · replace e := ite_f c143 e
      refine eb_n 1 (196, [.ref a0, .int a1, .retAddr 0], [.int (nI 0)], h141) (rfl) ?_
      rw [(sp_inj e).1, (sp_inj e).2]
      exact eb_rg (p := nrm 3 (nI 0)) rfl nrm_30
  replace e := ite_f c140 e
  by_cases c160 : x2 = nI 42
  · replace e := ite_t c160 e
    refine eb_n 1 (103, [.ref a0, .int a1, .retAddr 0], [], h) (by rw [c160]; rfl) ?_
    refine eb_n 1 (104, [.ref a0, .int a1, .retAddr 0], [.int a1], h) (rfl) ?_
    obtain ⟨h161, r162, eh161, e⟩ := bn_some e
    refine eb_c rfl (f_Grammar_mayGoDeeper_ev d (Nat.le_trans (by decide) hd) eh161) ?_
    show Eb _ 219 (107, [.ref a0, .int a1, .retAddr 0], [.int r162], h161) _ _
    refine eb_b (c := r162 = 0) (142, [.ref a0, .int a1, .retAddr 0], [], h161) (110, [.ref a0, .int a1, .retAddr 0], [], h161) rfl (fun c163 => ?_) (fun c163 => ?_)
    · replace e := ite_t c163 e
      refine eb_n 1 (143, [.ref a0, .int a1, .retAddr 0], [.int (nI 0)], h161) (rfl) ?_
      rw [(sp_inj e).1, (sp_inj e).2]
      exact eb_rg (p := nrm 3 (nI 0)) rfl nrm_30
    · replace e := ite_f c163 e
      refine eb_n 2 (113, [.ref a0, .int a1, .retAddr 0], [.int (nI 42), .ref a0], h161) (rfl) ?_
      obtain ⟨g164, e⟩ := gd_some e
      obtain ⟨h165, r166, eh165, e⟩ := bn_some e
      refine eb_cg (p := hT h161 a0 = 10) rfl g164 (f_Grammar_reads_ev d (Nat.le_trans (by decide) hd) eh165) ?_
      show Eb _ 219 (116, [.ref a0, .int a1, .retAddr 0], [.int r166], h165) _ _
      refine eb_b (c := r166 = 0) (142, [.ref a0, .int a1, .retAddr 0], [], h165) (119, [.ref a0, .int a1, .retAddr 0], [], h165) rfl (fun c167 => ?_) (fun c167 => ?_)
      · replace e := ite_t c167 e
        refine eb_n 1 (143, [.ref a0, .int a1, .retAddr 0], [.int (nI 0)], h165) (rfl) ?_
        rw [(sp_inj e).1, (sp_inj e).2]
        exact eb_rg (p := nrm 3 (nI 0)) rfl nrm_30
      · replace e := ite_f c167 e
        refine eb_n 4 (123, [.ref a0, .int a1, .retAddr 0], [.int (a1 + (nI 1)), .ref a0], h165) (rfl) ?_
        obtain ⟨g168, e⟩ := gd_some e
        obtain ⟨h169, r170, eh169, e⟩ := bn_some e
        refine eb_cg (p := hT h165 a0 = 10) rfl g168 (hG.1 _ _ _ _ _ eh169) ?_
        show Eb _ 219 (126, [.ref a0, .int a1, .retAddr 0], [.int r170], h169) _ _
        refine eb_b (c := r170 = 0) (142, [.ref a0, .int a1, .retAddr 0], [], h169) (129, [.ref a0, .int a1, .retAddr 0], [], h169) rfl (fun c171 => ?_) (fun c171 => ?_)
        · replace e := ite_t c171 e
          refine eb_n 1 (143, [.ref a0, .int a1, .retAddr 0], [.int (nI 0)], h169) (rfl) ?_
          rw [(sp_inj e).1, (sp_inj e).2]
          exact eb_rg (p := nrm 3 (nI 0)) rfl nrm_30
        · replace e := ite_f c171 e
          refine eb_n 2 (132, [.ref a0, .int a1, .retAddr 0], [.int (nI 43), .ref a0], h169) (rfl) ?_
          obtain ⟨g172, e⟩ := gd_some e
          obtain ⟨h173, r174, eh173, e⟩ := bn_some e
          refine eb_cg (p := hT h169 a0 = 10) rfl g172 (f_Grammar_reads_ev d (Nat.le_trans (by decide) hd) eh173) ?_
          show Eb _ 219 (135, [.ref a0, .int a1, .retAddr 0], [.int r174], h173) _ _
          refine eb_b (c := r174 = 0) (142, [.ref a0, .int a1, .retAddr 0], [], h173) (138, [.ref a0, .int a1, .retAddr 0], [], h173) rfl (fun c175 => ?_) (fun c175 => ?_)
          · replace e := ite_t c175 e
            refine eb_n 1 (143, [.ref a0, .int a1, .retAddr 0], [.int (nI 0)], h173) (rfl) ?_
            rw [(sp_inj e).1, (sp_inj e).2]
            exact eb_rg (p := nrm 3 (nI 0)) rfl nrm_30
          · replace e := ite_f c175 e
            refine eb_n 2 (143, [.ref a0, .int a1, .retAddr 0], [.int (nI 1)], h173) (rfl) ?_
            rw [(sp_inj e).1, (sp_inj e).2]
            exact eb_rg (p := nrm 3 (nI 1)) rfl nrm_31
  replace e := ite_f c160 e
  refine eb_1 (f' := (187, [.ref a0, .int a1, .retAddr 0], [], h)) (tsw_d (tsw_out (x := x2) (lo := 33) (n := 10) (by decide) (by decide) (fun k hk => match k, hk with | 0, _ => c3 | 1, _ => c14 | 2, _ => c25 | 3, _ => c40 | 4, _ => c60 | 5, _ => c80 | 6, _ => c100 | 7, _ => c120 | 8, _ => c140 | 9, _ => c160 | k + 10, hk => absurd hk (by omega))) rfl rfl) ?_
  refine eb_n 2 (189, [.ref a0, .int a1, .retAddr 0], [.int a1, .ref a0], h) (rfl) ?_
  obtain ⟨h176, r177, eh176, e⟩ := bn_some e
  refine eb_cg (p := hT h a0 = 10) rfl g1 (hG.2.2.2.1 _ _ _ _ _ eh176) ?_
  show Eb _ 219 (192, [.ref a0, .int a1, .retAddr 0], [.int r177], h176) _ _
  refine eb_b (c := ¬ r177 = 0) (197, [.ref a0, .int a1, .retAddr 0], [], h176) (195, [.ref a0, .int a1, .retAddr 0], [], h176) rfl (fun c178 => ?_) (fun c178 => ?_)
  · replace e := ite_t c178 e
    refine eb_n 1 (198, [.ref a0, .int a1, .retAddr 0], [.ref a0], h176) (rfl) ?_
    obtain ⟨g179, e⟩ := gd_some e
    refine eb_g (p := hT h176 a0 = 10) (201, [.ref a0, .int a1, .retAddr 0], [.int (hI h176 a0 3)], h176) rfl g179 ?_
    obtain ⟨x180, hx180, e⟩ := lq_some e
    refine eb_n 1 (202, [.ref a0, .int a1, .int x180], [], h176) (by subst hx180; rfl) ?_
    refine eb_n 1 (203, [.ref a0, .int a1, .int x180], [.int x180], h176) (rfl) ?_
    obtain ⟨h181, r182, eh181, e⟩ := bn_some e
    refine eb_c rfl (f_Grammar_isComparison_ev d (Nat.le_trans (by decide) hd) eh181) ?_
    show Eb _ 219 (206, [.ref a0, .int a1, .int x180], [.int r182], h181) _ _
    refine eb_b (c := r182 = 0) (225, [.ref a0, .int a1, .int x180], [], h181) (209, [.ref a0, .int a1, .int x180], [], h181) rfl (fun c183 => ?_) (fun c183 => ?_)
    · replace e := ite_t c183 e
      refine eb_n 1 (226, [.ref a0, .int a1, .int x180], [.int (nI 0)], h181) (rfl) ?_
      rw [(sp_inj e).1, (sp_inj e).2]
      exact eb_rg (p := nrm 3 (nI 0)) rfl nrm_30
    · replace e := ite_f c183 e
      refine eb_n 2 (211, [.ref a0, .int a1, .int x180], [.int x180, .ref a0], h181) (rfl) ?_
      obtain ⟨g184, e⟩ := gd_some e
      obtain ⟨h185, r186, eh185, e⟩ := bn_some e
      refine eb_cg (p := hT h181 a0 = 10) rfl g184 (f_Grammar_reads_ev d (Nat.le_trans (by decide) hd) eh185) ?_
      show Eb _ 219 (214, [.ref a0, .int a1, .int x180], [.int r186], h185) _ _
      refine eb_b (c := r186 = 0) (225, [.ref a0, .int a1, .int x180], [], h185) (217, [.ref a0, .int a1, .int x180], [], h185) rfl (fun c187 => ?_) (fun c187 => ?_)
      · replace e := ite_t c187 e
        refine eb_n 1 (226, [.ref a0, .int a1, .int x180], [.int (nI 0)], h185) (rfl) ?_
        rw [(sp_inj e).1, (sp_inj e).2]
        exact eb_rg (p := nrm 3 (nI 0)) rfl nrm_30
      · replace e := ite_f c187 e
        refine eb_n 2 (219, [.ref a0, .int a1, .int x180], [.int a1, .ref a0], h185) (rfl) ?_
        obtain ⟨g188, e⟩ := gd_some e
        obtain ⟨h189, r190, eh189, e⟩ := bn_some e
        refine eb_cg (p := hT h185 a0 = 10) rfl g188 (hG.2.2.2.1 _ _ _ _ _ eh189) ?_
        show Eb _ 219 (222, [.ref a0, .int a1, .int x180], [.int r190], h189) _ _
        refine eb_b (c := ¬ r190 = 0) (227, [.ref a0, .int a1, .int x180], [], h189) (225, [.ref a0, .int a1, .int x180], [], h189) rfl (fun c191 => ?_) (fun c191 => ?_)
        · replace e := ite_t c191 e
          refine eb_n 1 (228, [.ref a0, .int a1, .int x180], [.ref a0], h189) (rfl) ?_
          obtain ⟨g192, e⟩ := gd_some e
          refine eb_g (p := hT h189 a0 = 10) (231, [.ref a0, .int a1, .int x180], [.ref (hR h189 a0 1)], h189) rfl g192 ?_
          refine eb_n 2 (233, [.ref a0, .int a1, .int x180], [.ref a0, .int x180, .ref (hR h189 a0 1)], h189) (rfl) ?_
          refine eb_g (p := hT h189 a0 = 10) (236, [.ref a0, .int a1, .int x180], [.int (hI h189 a0 2), .int x180, .ref (hR h189 a0 1)], h189) rfl g192 ?_
          obtain ⟨g193, e⟩ := gd_some e
          obtain ⟨h194, eh194, e⟩ := bv_some e
          refine eb_cg (p := hT h189 (hR h189 a0 1) = 2) rfl g193 (f_Orders_add_ev d (Nat.le_trans (by decide) hd) eh194) ?_
          show Eb _ 219 (239, [.ref a0, .int a1, .int x180], [], h194) _ _
          refine eb_n 1 (240, [.ref a0, .int a1, .int x180], [.int (nI 1)], h194) (rfl) ?_
          rw [(sp_inj e).1, (sp_inj e).2]
          exact eb_rg (p := nrm 3 (nI 1)) rfl nrm_31
        · replace e := ite_f c191 e
          refine eb_n 1 (226, [.ref a0, .int a1, .int x180], [.int (nI 0)], h189) (rfl) ?_
          rw [(sp_inj e).1, (sp_inj e).2]
          exact eb_rg (p := nrm 3 (nI 0)) rfl nrm_30
  · replace e := ite_f c178 e
    refine eb_n 1 (196, [.ref a0, .int a1, .retAddr 0], [.int (nI 0)], h176) (rfl) ?_
    rw [(sp_inj e).1, (sp_inj e).2]
    exact eb_rg (p := nrm 3 (nI 0)) rfl nrm_30
set_option maxRecDepth 100000 in
set_option maxHeartbeats 4000000 in
theorem f_Grammar_readsSum_b37_ev {h' : AH} {r : Int32} (d : Nat) (hd : 2 ≤ d) (G : Nat → AH → Nat → Int32 → Int32 → Option (AH × Int32)) (hG : (∀ h a x0 h1 r, G 0 h a x0 (nI 0) = some (h1, r) → Ev tb mL d 186 [.ref a, .int x0] h h1 (some (.int r))) ∧ (∀ h a x0 h1 r, G 1 h a x0 (nI 0) = some (h1, r) → Ev tb mL d 209 [.ref a, .int x0] h h1 (some (.int r))) ∧ (∀ h a x0 h1 r, G 2 h a x0 (nI 0) = some (h1, r) → Ev tb mL d 219 [.ref a, .int x0] h h1 (some (.int r))) ∧ (∀ h a x0 h1 r, G 3 h a x0 (nI 0) = some (h1, r) → Ev tb mL d 188 [.ref a, .int x0] h h1 (some (.int r))) ∧ (∀ h a x0 h1 r, G 4 h a x0 (nI 0) = some (h1, r) → Ev tb mL d 210 [.ref a, .int x0] h h1 (some (.int r))) ∧ (∀ h a x0 h1 r, G 5 h a x0 (nI 0) = some (h1, r) → Ev tb mL d 220 [.ref a, .int x0] h h1 (some (.int r))) ∧ (∀ h a x0 x1 h1 r, G 6 h a x0 x1 = some (h1, r) → Ev tb mL d 226 [.ref a, .int x0, .int x1] h h1 (some (.int r)))) (k12 : AH → Nat → Int32 → Int32 → Option (AH × Int32)) (hk12 : ∀ (h : AH) (a0 : Nat) (a1 : Int32) (a2 : Int32)  (d3 : Value), k12 h a0 a1 a2 = some (h', r) → Eb (Ev tb mL d) 188 (12, [.ref a0, .int a1, .int a2, d3], [], h) h' (some (.int r)))  (h : AH) (a0 : Nat) (a1 : Int32) (a2 : Int32)  (d3 : Value) (e : f_Grammar_readsSum_b37 G k12 h a0 a1 a2 = some (h', r)) : Eb (Ev tb mL d) 188 (37, [.ref a0, .int a1, .int a2, d3], [], h) h' (some (.int r)) := by
  unfold f_Grammar_readsSum_b37 at e
  refine eb_n 1 (38, [.ref a0, .int a1, .int a2, d3], [.ref a0], h) (rfl) ?_
  obtain ⟨g1, e⟩ := gd_some e
  refine eb_g (p := hT h a0 = 10) (41, [.ref a0, .int a1, .int a2, d3], [.int (hI h a0 3)], h) rfl g1 ?_
  obtain ⟨x2, hx2, e⟩ := lq_some e
  refine eb_n 1 (42, [.ref a0, .int a1, .int a2, .int x2], [], h) (by subst hx2; rfl) ?_
  refine eb_n 2 (44, [.ref a0, .int a1, .int a2, .int x2], [.int x2, .ref a0], h) (rfl) ?_
  obtain ⟨h3, r4, eh3, e⟩ := bn_some e
  refine eb_cg (p := hT h a0 = 10) rfl g1 (f_Grammar_reads_ev d (Nat.le_trans (by decide) hd) eh3) ?_
  show Eb _ 188 (47, [.ref a0, .int a1, .int a2, .int x2], [.int r4], h3) _ _
  refine eb_b (c := r4 = 0) (58, [.ref a0, .int a1, .int a2, .int x2], [], h3) (50, [.ref a0, .int a1, .int a2, .int x2], [], h3) rfl (fun c5 => ?_) (fun c5 => ?_)
  · replace e := ite_t c5 e
    refine eb_n 1 (59, [.ref a0, .int a1, .int a2, .int x2], [.int (nI 0)], h3) (rfl) ?_
    rw [(sp_inj e).1, (sp_inj e).2]
    exact eb_rg (p := nrm 3 (nI 0)) rfl nrm_30
  · replace e := ite_f c5 e
    refine eb_n 2 (52, [.ref a0, .int a1, .int a2, .int x2], [.int a1, .ref a0], h3) (rfl) ?_
    obtain ⟨g6, e⟩ := gd_some e
    obtain ⟨h7, r8, eh7, e⟩ := bn_some e
    refine eb_cg (p := hT h3 a0 = 10) rfl g6 (hG.2.2.2.2.1 _ _ _ _ _ eh7) ?_
    show Eb _ 188 (55, [.ref a0, .int a1, .int a2, .int x2], [.int r8], h7) _ _
    refine eb_b (c := ¬ r8 = 0) (60, [.ref a0, .int a1, .int a2, .int x2], [], h7) (58, [.ref a0, .int a1, .int a2, .int x2], [], h7) rfl (fun c9 => ?_) (fun c9 => ?_)
    · replace e := ite_t c9 e
      refine eb_n 1 (61, [.ref a0, .int a1, .int a2, .int x2], [.ref a0], h7) (rfl) ?_
      obtain ⟨g10, e⟩ := gd_some e
      refine eb_g (p := hT h7 a0 = 10) (64, [.ref a0, .int a1, .int a2, .int x2], [.ref (hR h7 a0 1)], h7) rfl g10 ?_
      refine eb_n 2 (66, [.ref a0, .int a1, .int a2, .int x2], [.ref a0, .int x2, .ref (hR h7 a0 1)], h7) (rfl) ?_
      refine eb_g (p := hT h7 a0 = 10) (69, [.ref a0, .int a1, .int a2, .int x2], [.int (hI h7 a0 2), .int x2, .ref (hR h7 a0 1)], h7) rfl g10 ?_
      obtain ⟨g11, e⟩ := gd_some e
      obtain ⟨h12, eh12, e⟩ := bv_some e
      refine eb_cg (p := hT h7 (hR h7 a0 1) = 2) rfl g11 (f_Orders_add_ev d (Nat.le_trans (by decide) hd) eh12) ?_
      show Eb _ 188 (72, [.ref a0, .int a1, .int a2, .int x2], [], h12) _ _
      obtain ⟨x13, hx13, e⟩ := lq_some e
      refine eb_n 1 (75, [.ref a0, .int a1, .int x13, .int x2], [], h12) (by subst hx13; rfl) ?_
      refine eb_n 1 (12, [.ref a0, .int a1, .int x13, .int x2], [], h12) (rfl) ?_
      exact hk12 _ _ _ _ _ e
    · replace e := ite_f c9 e
      refine eb_n 1 (59, [.ref a0, .int a1, .int a2, .int x2], [.int (nI 0)], h7) (rfl) ?_
      rw [(sp_inj e).1, (sp_inj e).2]
      exact eb_rg (p := nrm 3 (nI 0)) rfl nrm_30
set_option maxRecDepth 100000 in
set_option maxHeartbeats 4000000 in
theorem f_Grammar_readsSum_b12_ev {h' : AH} {r : Int32} (d : Nat) (hd : 2 ≤ d) (G : Nat → AH → Nat → Int32 → Int32 → Option (AH × Int32)) (hG : (∀ h a x0 h1 r, G 0 h a x0 (nI 0) = some (h1, r) → Ev tb mL d 186 [.ref a, .int x0] h h1 (some (.int r))) ∧ (∀ h a x0 h1 r, G 1 h a x0 (nI 0) = some (h1, r) → Ev tb mL d 209 [.ref a, .int x0] h h1 (some (.int r))) ∧ (∀ h a x0 h1 r, G 2 h a x0 (nI 0) = some (h1, r) → Ev tb mL d 219 [.ref a, .int x0] h h1 (some (.int r))) ∧ (∀ h a x0 h1 r, G 3 h a x0 (nI 0) = some (h1, r) → Ev tb mL d 188 [.ref a, .int x0] h h1 (some (.int r))) ∧ (∀ h a x0 h1 r, G 4 h a x0 (nI 0) = some (h1, r) → Ev tb mL d 210 [.ref a, .int x0] h h1 (some (.int r))) ∧ (∀ h a x0 h1 r, G 5 h a x0 (nI 0) = some (h1, r) → Ev tb mL d 220 [.ref a, .int x0] h h1 (some (.int r))) ∧ (∀ h a x0 x1 h1 r, G 6 h a x0 x1 = some (h1, r) → Ev tb mL d 226 [.ref a, .int x0, .int x1] h h1 (some (.int r)))) (k12 : AH → Nat → Int32 → Int32 → Option (AH × Int32)) (hk12 : ∀ (h : AH) (a0 : Nat) (a1 : Int32) (a2 : Int32)  (d3 : Value), k12 h a0 a1 a2 = some (h', r) → Eb (Ev tb mL d) 188 (12, [.ref a0, .int a1, .int a2, d3], [], h) h' (some (.int r)))  (h : AH) (a0 : Nat) (a1 : Int32) (a2 : Int32)  (d3 : Value) (e : f_Grammar_readsSum_b12 G k12 h a0 a1 a2 = some (h', r)) : Eb (Ev tb mL d) 188 (12, [.ref a0, .int a1, .int a2, d3], [], h) h' (some (.int r)) := by
  unfold f_Grammar_readsSum_b12 at e
  refine eb_n 2 (16, [.ref a0, .int a1, .int a2, d3], [.int (nI 400), .int a2], h) (rfl) ?_
  refine eb_b (c := (nI 400) ≤ a2) (78, [.ref a0, .int a1, .int a2, d3], [], h) (19, [.ref a0, .int a1, .int a2, d3], [], h) rfl (fun c1 => ?_) (fun c1 => ?_)
  · replace e := ite_t c1 e
    refine eb_n 1 (79, [.ref a0, .int a1, .int a2, d3], [.int (nI 1)], h) (rfl) ?_
    rw [(sp_inj e).1, (sp_inj e).2]
    exact eb_rg (p := nrm 3 (nI 1)) rfl nrm_31
  · replace e := ite_f c1 e
    refine eb_n 1 (20, [.ref a0, .int a1, .int a2, d3], [.ref a0], h) (rfl) ?_
    obtain ⟨g2, e⟩ := gd_some e
    refine eb_g (p := hT h a0 = 10) (23, [.ref a0, .int a1, .int a2, d3], [.int (hI h a0 3)], h) rfl g2 ?_
    refine eb_n 1 (25, [.ref a0, .int a1, .int a2, d3], [.int (nI 46), .int (hI h a0 3)], h) (rfl) ?_
    refine eb_b (c := (hI h a0 3) = (nI 46)) (37, [.ref a0, .int a1, .int a2, d3], [], h) (28, [.ref a0, .int a1, .int a2, d3], [], h) rfl (fun c3 => ?_) (fun c3 => ?_)
    · replace e := ite_t c3 e
      exact f_Grammar_readsSum_b37_ev d hd G hG k12 hk12 _ _ _ _ _ e
    · replace e := ite_f c3 e
      refine eb_n 1 (29, [.ref a0, .int a1, .int a2, d3], [.ref a0], h) (rfl) ?_
      refine eb_g (p := hT h a0 = 10) (32, [.ref a0, .int a1, .int a2, d3], [.int (hI h a0 3)], h) rfl g2 ?_
      refine eb_n 1 (34, [.ref a0, .int a1, .int a2, d3], [.int (nI 47), .int (hI h a0 3)], h) (rfl) ?_
      refine eb_b (c := ¬ (hI h a0 3) = (nI 47)) (78, [.ref a0, .int a1, .int a2, d3], [], h) (37, [.ref a0, .int a1, .int a2, d3], [], h) rfl (fun c4 => ?_) (fun c4 => ?_)
      · replace e := ite_t c4 e
        refine eb_n 1 (79, [.ref a0, .int a1, .int a2, d3], [.int (nI 1)], h) (rfl) ?_
        rw [(sp_inj e).1, (sp_inj e).2]
        exact eb_rg (p := nrm 3 (nI 1)) rfl nrm_31
      · replace e := ite_f c4 e
        exact f_Grammar_readsSum_b37_ev d hd G hG k12 hk12 _ _ _ _ _ e
set_option maxRecDepth 100000 in
set_option maxHeartbeats 4000000 in
theorem f_Grammar_readsSum_l12_ev {h' : AH} {r : Int32} (d : Nat) (hd : 2 ≤ d) (G : Nat → AH → Nat → Int32 → Int32 → Option (AH × Int32)) (hG : (∀ h a x0 h1 r, G 0 h a x0 (nI 0) = some (h1, r) → Ev tb mL d 186 [.ref a, .int x0] h h1 (some (.int r))) ∧ (∀ h a x0 h1 r, G 1 h a x0 (nI 0) = some (h1, r) → Ev tb mL d 209 [.ref a, .int x0] h h1 (some (.int r))) ∧ (∀ h a x0 h1 r, G 2 h a x0 (nI 0) = some (h1, r) → Ev tb mL d 219 [.ref a, .int x0] h h1 (some (.int r))) ∧ (∀ h a x0 h1 r, G 3 h a x0 (nI 0) = some (h1, r) → Ev tb mL d 188 [.ref a, .int x0] h h1 (some (.int r))) ∧ (∀ h a x0 h1 r, G 4 h a x0 (nI 0) = some (h1, r) → Ev tb mL d 210 [.ref a, .int x0] h h1 (some (.int r))) ∧ (∀ h a x0 h1 r, G 5 h a x0 (nI 0) = some (h1, r) → Ev tb mL d 220 [.ref a, .int x0] h h1 (some (.int r))) ∧ (∀ h a x0 x1 h1 r, G 6 h a x0 x1 = some (h1, r) → Ev tb mL d 226 [.ref a, .int x0, .int x1] h h1 (some (.int r))))  : ∀ (n : Nat) (h : AH) (a0 : Nat) (a1 : Int32) (a2 : Int32)  (d3 : Value) (_ : f_Grammar_readsSum_l12 G  n h a0 a1 a2 = some (h', r)), Eb (Ev tb mL d) 188 (12, [.ref a0, .int a1, .int a2, d3], [], h) h' (some (.int r)) := by
  intro n
  induction n with
  | zero => intro h a0 a1 a2 d3 e; exact nomatch e
  | succ n ih =>
    intro h a0 a1 a2 d3 e
    exact f_Grammar_readsSum_b12_ev d hd G hG _ (fun h a0 a1 a2 d3 e => ih h a0 a1 a2 d3 e) h a0 a1 a2 d3 e
set_option maxRecDepth 100000 in
set_option maxHeartbeats 4000000 in
theorem f_Grammar_readsSum_ev (d : Nat) (hd : 2 ≤ d) (G : Nat → AH → Nat → Int32 → Int32 → Option (AH × Int32)) (hG : (∀ h a x0 h1 r, G 0 h a x0 (nI 0) = some (h1, r) → Ev tb mL d 186 [.ref a, .int x0] h h1 (some (.int r))) ∧ (∀ h a x0 h1 r, G 1 h a x0 (nI 0) = some (h1, r) → Ev tb mL d 209 [.ref a, .int x0] h h1 (some (.int r))) ∧ (∀ h a x0 h1 r, G 2 h a x0 (nI 0) = some (h1, r) → Ev tb mL d 219 [.ref a, .int x0] h h1 (some (.int r))) ∧ (∀ h a x0 h1 r, G 3 h a x0 (nI 0) = some (h1, r) → Ev tb mL d 188 [.ref a, .int x0] h h1 (some (.int r))) ∧ (∀ h a x0 h1 r, G 4 h a x0 (nI 0) = some (h1, r) → Ev tb mL d 210 [.ref a, .int x0] h h1 (some (.int r))) ∧ (∀ h a x0 h1 r, G 5 h a x0 (nI 0) = some (h1, r) → Ev tb mL d 220 [.ref a, .int x0] h h1 (some (.int r))) ∧ (∀ h a x0 x1 h1 r, G 6 h a x0 x1 = some (h1, r) → Ev tb mL d 226 [.ref a, .int x0, .int x1] h h1 (some (.int r)))) {h' : AH} {r : Int32} {h : AH} {a0 : Nat} {a1 : Int32} (e : f_Grammar_readsSum G h a0 a1 = some (h', r)) : Ev tb mL (d + 1) 188 [.ref a0, .int a1] h h' (some (.int r)) := by
  refine ⟨Nat.le_of_ble_eq_true rfl, ?_⟩
  show Eb (Ev tb mL d) 188 (0, [.ref a0, .int a1, .retAddr 0, .retAddr 0], [], h) h' (some (.int r))
  unfold f_Grammar_readsSum at e
  refine eb_n 2 (2, [.ref a0, .int a1, .retAddr 0, .retAddr 0], [.int a1, .ref a0], h) (rfl) ?_
  obtain ⟨g1, e⟩ := gd_some e
  obtain ⟨h2, r3, eh2, e⟩ := bn_some e
  refine eb_cg (p := hT h a0 = 10) rfl g1 (hG.2.2.2.2.1 _ _ _ _ _ eh2) ?_
  show Eb _ 188 (5, [.ref a0, .int a1, .retAddr 0, .retAddr 0], [.int r3], h2) _ _
  refine eb_b (c := ¬ r3 = 0) (10, [.ref a0, .int a1, .retAddr 0, .retAddr 0], [], h2) (8, [.ref a0, .int a1, .retAddr 0, .retAddr 0], [], h2) rfl (fun c4 => ?_) (fun c4 => ?_)
  · replace e := ite_t c4 e
    refine eb_n 2 (12, [.ref a0, .int a1, .int (nI 0), .retAddr 0], [], h2) (rfl) ?_
    exact f_Grammar_readsSum_l12_ev d hd G hG   FU _ _ _ _ _ e
  · replace e := ite_f c4 e
    refine eb_n 1 (9, [.ref a0, .int a1, .retAddr 0, .retAddr 0], [.int (nI 0)], h2) (rfl) ?_
    rw [(sp_inj e).1, (sp_inj e).2]
    exact eb_rg (p := nrm 3 (nI 0)) rfl nrm_30
set_option maxRecDepth 100000 in
set_option maxHeartbeats 4000000 in
theorem f_Grammar_readsProduct_b37_ev {h' : AH} {r : Int32} (d : Nat) (hd : 2 ≤ d) (G : Nat → AH → Nat → Int32 → Int32 → Option (AH × Int32)) (hG : (∀ h a x0 h1 r, G 0 h a x0 (nI 0) = some (h1, r) → Ev tb mL d 186 [.ref a, .int x0] h h1 (some (.int r))) ∧ (∀ h a x0 h1 r, G 1 h a x0 (nI 0) = some (h1, r) → Ev tb mL d 209 [.ref a, .int x0] h h1 (some (.int r))) ∧ (∀ h a x0 h1 r, G 2 h a x0 (nI 0) = some (h1, r) → Ev tb mL d 219 [.ref a, .int x0] h h1 (some (.int r))) ∧ (∀ h a x0 h1 r, G 3 h a x0 (nI 0) = some (h1, r) → Ev tb mL d 188 [.ref a, .int x0] h h1 (some (.int r))) ∧ (∀ h a x0 h1 r, G 4 h a x0 (nI 0) = some (h1, r) → Ev tb mL d 210 [.ref a, .int x0] h h1 (some (.int r))) ∧ (∀ h a x0 h1 r, G 5 h a x0 (nI 0) = some (h1, r) → Ev tb mL d 220 [.ref a, .int x0] h h1 (some (.int r))) ∧ (∀ h a x0 x1 h1 r, G 6 h a x0 x1 = some (h1, r) → Ev tb mL d 226 [.ref a, .int x0, .int x1] h h1 (some (.int r)))) (k12 : AH → Nat → Int32 → Int32 → Option (AH × Int32)) (hk12 : ∀ (h : AH) (a0 : Nat) (a1 : Int32) (a2 : Int32)  (d3 : Value), k12 h a0 a1 a2 = some (h', r) → Eb (Ev tb mL d) 210 (12, [.ref a0, .int a1, .int a2, d3], [], h) h' (some (.int r)))  (h : AH) (a0 : Nat) (a1 : Int32) (a2 : Int32)  (d3 : Value) (e : f_Grammar_readsProduct_b37 G k12 h a0 a1 a2 = some (h', r)) : Eb (Ev tb mL d) 210 (37, [.ref a0, .int a1, .int a2, d3], [], h) h' (some (.int r)) := by
  unfold f_Grammar_readsProduct_b37 at e
  refine eb_n 1 (38, [.ref a0, .int a1, .int a2, d3], [.ref a0], h) (rfl) ?_
  obtain ⟨g1, e⟩ := gd_some e
  refine eb_g (p := hT h a0 = 10) (41, [.ref a0, .int a1, .int a2, d3], [.int (hI h a0 3)], h) rfl g1 ?_
  obtain ⟨x2, hx2, e⟩ := lq_some e
  refine eb_n 1 (42, [.ref a0, .int a1, .int a2, .int x2], [], h) (by subst hx2; rfl) ?_
  refine eb_n 2 (44, [.ref a0, .int a1, .int a2, .int x2], [.int x2, .ref a0], h) (rfl) ?_
  obtain ⟨h3, r4, eh3, e⟩ := bn_some e
  refine eb_cg (p := hT h a0 = 10) rfl g1 (f_Grammar_reads_ev d (Nat.le_trans (by decide) hd) eh3) ?_
  show Eb _ 210 (47, [.ref a0, .int a1, .int a2, .int x2], [.int r4], h3) _ _
  refine eb_b (c := r4 = 0) (58, [.ref a0, .int a1, .int a2, .int x2], [], h3) (50, [.ref a0, .int a1, .int a2, .int x2], [], h3) rfl (fun c5 => ?_) (fun c5 => ?_)
  · replace e := ite_t c5 e
    refine eb_n 1 (59, [.ref a0, .int a1, .int a2, .int x2], [.int (nI 0)], h3) (rfl) ?_
    rw [(sp_inj e).1, (sp_inj e).2]
    exact eb_rg (p := nrm 3 (nI 0)) rfl nrm_30
  · replace e := ite_f c5 e
    refine eb_n 2 (52, [.ref a0, .int a1, .int a2, .int x2], [.int a1, .ref a0], h3) (rfl) ?_
    obtain ⟨g6, e⟩ := gd_some e
    obtain ⟨h7, r8, eh7, e⟩ := bn_some e
    refine eb_cg (p := hT h3 a0 = 10) rfl g6 (hG.2.2.2.2.2.1 _ _ _ _ _ eh7) ?_
    show Eb _ 210 (55, [.ref a0, .int a1, .int a2, .int x2], [.int r8], h7) _ _
    refine eb_b (c := ¬ r8 = 0) (60, [.ref a0, .int a1, .int a2, .int x2], [], h7) (58, [.ref a0, .int a1, .int a2, .int x2], [], h7) rfl (fun c9 => ?_) (fun c9 => ?_)
    · replace e := ite_t c9 e
      refine eb_n 1 (61, [.ref a0, .int a1, .int a2, .int x2], [.ref a0], h7) (rfl) ?_
      obtain ⟨g10, e⟩ := gd_some e
      refine eb_g (p := hT h7 a0 = 10) (64, [.ref a0, .int a1, .int a2, .int x2], [.ref (hR h7 a0 1)], h7) rfl g10 ?_
      refine eb_n 2 (66, [.ref a0, .int a1, .int a2, .int x2], [.ref a0, .int x2, .ref (hR h7 a0 1)], h7) (rfl) ?_
      refine eb_g (p := hT h7 a0 = 10) (69, [.ref a0, .int a1, .int a2, .int x2], [.int (hI h7 a0 2), .int x2, .ref (hR h7 a0 1)], h7) rfl g10 ?_
      obtain ⟨g11, e⟩ := gd_some e
      obtain ⟨h12, eh12, e⟩ := bv_some e
      refine eb_cg (p := hT h7 (hR h7 a0 1) = 2) rfl g11 (f_Orders_add_ev d (Nat.le_trans (by decide) hd) eh12) ?_
      show Eb _ 210 (72, [.ref a0, .int a1, .int a2, .int x2], [], h12) _ _
      obtain ⟨x13, hx13, e⟩ := lq_some e
      refine eb_n 1 (75, [.ref a0, .int a1, .int x13, .int x2], [], h12) (by subst hx13; rfl) ?_
      refine eb_n 1 (12, [.ref a0, .int a1, .int x13, .int x2], [], h12) (rfl) ?_
      exact hk12 _ _ _ _ _ e
    · replace e := ite_f c9 e
      refine eb_n 1 (59, [.ref a0, .int a1, .int a2, .int x2], [.int (nI 0)], h7) (rfl) ?_
      rw [(sp_inj e).1, (sp_inj e).2]
      exact eb_rg (p := nrm 3 (nI 0)) rfl nrm_30
set_option maxRecDepth 100000 in
set_option maxHeartbeats 4000000 in
theorem f_Grammar_readsProduct_b12_ev {h' : AH} {r : Int32} (d : Nat) (hd : 2 ≤ d) (G : Nat → AH → Nat → Int32 → Int32 → Option (AH × Int32)) (hG : (∀ h a x0 h1 r, G 0 h a x0 (nI 0) = some (h1, r) → Ev tb mL d 186 [.ref a, .int x0] h h1 (some (.int r))) ∧ (∀ h a x0 h1 r, G 1 h a x0 (nI 0) = some (h1, r) → Ev tb mL d 209 [.ref a, .int x0] h h1 (some (.int r))) ∧ (∀ h a x0 h1 r, G 2 h a x0 (nI 0) = some (h1, r) → Ev tb mL d 219 [.ref a, .int x0] h h1 (some (.int r))) ∧ (∀ h a x0 h1 r, G 3 h a x0 (nI 0) = some (h1, r) → Ev tb mL d 188 [.ref a, .int x0] h h1 (some (.int r))) ∧ (∀ h a x0 h1 r, G 4 h a x0 (nI 0) = some (h1, r) → Ev tb mL d 210 [.ref a, .int x0] h h1 (some (.int r))) ∧ (∀ h a x0 h1 r, G 5 h a x0 (nI 0) = some (h1, r) → Ev tb mL d 220 [.ref a, .int x0] h h1 (some (.int r))) ∧ (∀ h a x0 x1 h1 r, G 6 h a x0 x1 = some (h1, r) → Ev tb mL d 226 [.ref a, .int x0, .int x1] h h1 (some (.int r)))) (k12 : AH → Nat → Int32 → Int32 → Option (AH × Int32)) (hk12 : ∀ (h : AH) (a0 : Nat) (a1 : Int32) (a2 : Int32)  (d3 : Value), k12 h a0 a1 a2 = some (h', r) → Eb (Ev tb mL d) 210 (12, [.ref a0, .int a1, .int a2, d3], [], h) h' (some (.int r)))  (h : AH) (a0 : Nat) (a1 : Int32) (a2 : Int32)  (d3 : Value) (e : f_Grammar_readsProduct_b12 G k12 h a0 a1 a2 = some (h', r)) : Eb (Ev tb mL d) 210 (12, [.ref a0, .int a1, .int a2, d3], [], h) h' (some (.int r)) := by
  unfold f_Grammar_readsProduct_b12 at e
  refine eb_n 2 (16, [.ref a0, .int a1, .int a2, d3], [.int (nI 400), .int a2], h) (rfl) ?_
  refine eb_b (c := (nI 400) ≤ a2) (78, [.ref a0, .int a1, .int a2, d3], [], h) (19, [.ref a0, .int a1, .int a2, d3], [], h) rfl (fun c1 => ?_) (fun c1 => ?_)
  · replace e := ite_t c1 e
    refine eb_n 1 (79, [.ref a0, .int a1, .int a2, d3], [.int (nI 1)], h) (rfl) ?_
    rw [(sp_inj e).1, (sp_inj e).2]
    exact eb_rg (p := nrm 3 (nI 1)) rfl nrm_31
  · replace e := ite_f c1 e
    refine eb_n 1 (20, [.ref a0, .int a1, .int a2, d3], [.ref a0], h) (rfl) ?_
    obtain ⟨g2, e⟩ := gd_some e
    refine eb_g (p := hT h a0 = 10) (23, [.ref a0, .int a1, .int a2, d3], [.int (hI h a0 3)], h) rfl g2 ?_
    refine eb_n 1 (25, [.ref a0, .int a1, .int a2, d3], [.int (nI 48), .int (hI h a0 3)], h) (rfl) ?_
    refine eb_b (c := (hI h a0 3) = (nI 48)) (37, [.ref a0, .int a1, .int a2, d3], [], h) (28, [.ref a0, .int a1, .int a2, d3], [], h) rfl (fun c3 => ?_) (fun c3 => ?_)
    · replace e := ite_t c3 e
      exact f_Grammar_readsProduct_b37_ev d hd G hG k12 hk12 _ _ _ _ _ e
    · replace e := ite_f c3 e
      refine eb_n 1 (29, [.ref a0, .int a1, .int a2, d3], [.ref a0], h) (rfl) ?_
      refine eb_g (p := hT h a0 = 10) (32, [.ref a0, .int a1, .int a2, d3], [.int (hI h a0 3)], h) rfl g2 ?_
      refine eb_n 1 (34, [.ref a0, .int a1, .int a2, d3], [.int (nI 49), .int (hI h a0 3)], h) (rfl) ?_
      refine eb_b (c := ¬ (hI h a0 3) = (nI 49)) (78, [.ref a0, .int a1, .int a2, d3], [], h) (37, [.ref a0, .int a1, .int a2, d3], [], h) rfl (fun c4 => ?_) (fun c4 => ?_)
      · replace e := ite_t c4 e
        refine eb_n 1 (79, [.ref a0, .int a1, .int a2, d3], [.int (nI 1)], h) (rfl) ?_
        rw [(sp_inj e).1, (sp_inj e).2]
        exact eb_rg (p := nrm 3 (nI 1)) rfl nrm_31
      · replace e := ite_f c4 e
        exact f_Grammar_readsProduct_b37_ev d hd G hG k12 hk12 _ _ _ _ _ e
set_option maxRecDepth 100000 in
set_option maxHeartbeats 4000000 in
theorem f_Grammar_readsProduct_l12_ev {h' : AH} {r : Int32} (d : Nat) (hd : 2 ≤ d) (G : Nat → AH → Nat → Int32 → Int32 → Option (AH × Int32)) (hG : (∀ h a x0 h1 r, G 0 h a x0 (nI 0) = some (h1, r) → Ev tb mL d 186 [.ref a, .int x0] h h1 (some (.int r))) ∧ (∀ h a x0 h1 r, G 1 h a x0 (nI 0) = some (h1, r) → Ev tb mL d 209 [.ref a, .int x0] h h1 (some (.int r))) ∧ (∀ h a x0 h1 r, G 2 h a x0 (nI 0) = some (h1, r) → Ev tb mL d 219 [.ref a, .int x0] h h1 (some (.int r))) ∧ (∀ h a x0 h1 r, G 3 h a x0 (nI 0) = some (h1, r) → Ev tb mL d 188 [.ref a, .int x0] h h1 (some (.int r))) ∧ (∀ h a x0 h1 r, G 4 h a x0 (nI 0) = some (h1, r) → Ev tb mL d 210 [.ref a, .int x0] h h1 (some (.int r))) ∧ (∀ h a x0 h1 r, G 5 h a x0 (nI 0) = some (h1, r) → Ev tb mL d 220 [.ref a, .int x0] h h1 (some (.int r))) ∧ (∀ h a x0 x1 h1 r, G 6 h a x0 x1 = some (h1, r) → Ev tb mL d 226 [.ref a, .int x0, .int x1] h h1 (some (.int r))))  : ∀ (n : Nat) (h : AH) (a0 : Nat) (a1 : Int32) (a2 : Int32)  (d3 : Value) (_ : f_Grammar_readsProduct_l12 G  n h a0 a1 a2 = some (h', r)), Eb (Ev tb mL d) 210 (12, [.ref a0, .int a1, .int a2, d3], [], h) h' (some (.int r)) := by
  intro n
  induction n with
  | zero => intro h a0 a1 a2 d3 e; exact nomatch e
  | succ n ih =>
    intro h a0 a1 a2 d3 e
    exact f_Grammar_readsProduct_b12_ev d hd G hG _ (fun h a0 a1 a2 d3 e => ih h a0 a1 a2 d3 e) h a0 a1 a2 d3 e
set_option maxRecDepth 100000 in
set_option maxHeartbeats 4000000 in
theorem f_Grammar_readsProduct_ev (d : Nat) (hd : 2 ≤ d) (G : Nat → AH → Nat → Int32 → Int32 → Option (AH × Int32)) (hG : (∀ h a x0 h1 r, G 0 h a x0 (nI 0) = some (h1, r) → Ev tb mL d 186 [.ref a, .int x0] h h1 (some (.int r))) ∧ (∀ h a x0 h1 r, G 1 h a x0 (nI 0) = some (h1, r) → Ev tb mL d 209 [.ref a, .int x0] h h1 (some (.int r))) ∧ (∀ h a x0 h1 r, G 2 h a x0 (nI 0) = some (h1, r) → Ev tb mL d 219 [.ref a, .int x0] h h1 (some (.int r))) ∧ (∀ h a x0 h1 r, G 3 h a x0 (nI 0) = some (h1, r) → Ev tb mL d 188 [.ref a, .int x0] h h1 (some (.int r))) ∧ (∀ h a x0 h1 r, G 4 h a x0 (nI 0) = some (h1, r) → Ev tb mL d 210 [.ref a, .int x0] h h1 (some (.int r))) ∧ (∀ h a x0 h1 r, G 5 h a x0 (nI 0) = some (h1, r) → Ev tb mL d 220 [.ref a, .int x0] h h1 (some (.int r))) ∧ (∀ h a x0 x1 h1 r, G 6 h a x0 x1 = some (h1, r) → Ev tb mL d 226 [.ref a, .int x0, .int x1] h h1 (some (.int r)))) {h' : AH} {r : Int32} {h : AH} {a0 : Nat} {a1 : Int32} (e : f_Grammar_readsProduct G h a0 a1 = some (h', r)) : Ev tb mL (d + 1) 210 [.ref a0, .int a1] h h' (some (.int r)) := by
  refine ⟨Nat.le_of_ble_eq_true rfl, ?_⟩
  show Eb (Ev tb mL d) 210 (0, [.ref a0, .int a1, .retAddr 0, .retAddr 0], [], h) h' (some (.int r))
  unfold f_Grammar_readsProduct at e
  refine eb_n 2 (2, [.ref a0, .int a1, .retAddr 0, .retAddr 0], [.int a1, .ref a0], h) (rfl) ?_
  obtain ⟨g1, e⟩ := gd_some e
  obtain ⟨h2, r3, eh2, e⟩ := bn_some e
  refine eb_cg (p := hT h a0 = 10) rfl g1 (hG.2.2.2.2.2.1 _ _ _ _ _ eh2) ?_
  show Eb _ 210 (5, [.ref a0, .int a1, .retAddr 0, .retAddr 0], [.int r3], h2) _ _
  refine eb_b (c := ¬ r3 = 0) (10, [.ref a0, .int a1, .retAddr 0, .retAddr 0], [], h2) (8, [.ref a0, .int a1, .retAddr 0, .retAddr 0], [], h2) rfl (fun c4 => ?_) (fun c4 => ?_)
  · replace e := ite_t c4 e
    refine eb_n 2 (12, [.ref a0, .int a1, .int (nI 0), .retAddr 0], [], h2) (rfl) ?_
    exact f_Grammar_readsProduct_l12_ev d hd G hG   FU _ _ _ _ _ e
  · replace e := ite_f c4 e
    refine eb_n 1 (9, [.ref a0, .int a1, .retAddr 0, .retAddr 0], [.int (nI 0)], h2) (rfl) ?_
    rw [(sp_inj e).1, (sp_inj e).2]
    exact eb_rg (p := nrm 3 (nI 0)) rfl nrm_30
set_option maxRecDepth 100000 in
set_option maxHeartbeats 4000000 in
theorem f_Grammar_readsValue_ev (d : Nat) (hd : 2 ≤ d) (G : Nat → AH → Nat → Int32 → Int32 → Option (AH × Int32)) (hG : (∀ h a x0 h1 r, G 0 h a x0 (nI 0) = some (h1, r) → Ev tb mL d 186 [.ref a, .int x0] h h1 (some (.int r))) ∧ (∀ h a x0 h1 r, G 1 h a x0 (nI 0) = some (h1, r) → Ev tb mL d 209 [.ref a, .int x0] h h1 (some (.int r))) ∧ (∀ h a x0 h1 r, G 2 h a x0 (nI 0) = some (h1, r) → Ev tb mL d 219 [.ref a, .int x0] h h1 (some (.int r))) ∧ (∀ h a x0 h1 r, G 3 h a x0 (nI 0) = some (h1, r) → Ev tb mL d 188 [.ref a, .int x0] h h1 (some (.int r))) ∧ (∀ h a x0 h1 r, G 4 h a x0 (nI 0) = some (h1, r) → Ev tb mL d 210 [.ref a, .int x0] h h1 (some (.int r))) ∧ (∀ h a x0 h1 r, G 5 h a x0 (nI 0) = some (h1, r) → Ev tb mL d 220 [.ref a, .int x0] h h1 (some (.int r))) ∧ (∀ h a x0 x1 h1 r, G 6 h a x0 x1 = some (h1, r) → Ev tb mL d 226 [.ref a, .int x0, .int x1] h h1 (some (.int r)))) {h' : AH} {r : Int32} {h : AH} {a0 : Nat} {a1 : Int32} (e : f_Grammar_readsValue G h a0 a1 = some (h', r)) : Ev tb mL (d + 1) 220 [.ref a0, .int a1] h h' (some (.int r)) := by
  refine ⟨Nat.le_of_ble_eq_true rfl, ?_⟩
  show Eb (Ev tb mL d) 220 (0, [.ref a0, .int a1, .retAddr 0], [], h) h' (some (.int r))
  unfold f_Grammar_readsValue at e
  refine eb_n 1 (1, [.ref a0, .int a1, .retAddr 0], [.ref a0], h) (rfl) ?_
  obtain ⟨g1, e⟩ := gd_some e
  refine eb_g (p := hT h a0 = 10) (4, [.ref a0, .int a1, .retAddr 0], [.int (hI h a0 3)], h) rfl g1 ?_
  obtain ⟨x2, hx2, e⟩ := lq_some e
  refine eb_n 1 (5, [.ref a0, .int a1, .int x2], [], h) (by subst hx2; rfl) ?_
  refine eb_n 1 (6, [.ref a0, .int a1, .int x2], [.int x2], h) (rfl) ?_
  by_cases c3 : x2 = nI 2
  · replace e := ite_t c3 e
    refine eb_n 1 (258, [.ref a0, .int a1, .int x2], [], h) (by rw [c3]; rfl) ?_
    refine eb_n 1 (259, [.ref a0, .int a1, .int x2], [.ref a0], h) (rfl) ?_
    refine eb_g (p := hT h a0 = 10) (262, [.ref a0, .int a1, .int x2], [.ref (hR h a0 1)], h) rfl g1 ?_
    refine eb_n 2 (264, [.ref a0, .int a1, .int x2], [.ref a0, .int x2, .ref (hR h a0 1)], h) (rfl) ?_
    refine eb_g (p := hT h a0 = 10) (267, [.ref a0, .int a1, .int x2], [.int (hI h a0 2), .int x2, .ref (hR h a0 1)], h) rfl g1 ?_
    refine eb_n 2 (269, [.ref a0, .int a1, .int x2], [.int ((hI h a0 2) + (nI 1)), .int x2, .ref (hR h a0 1)], h) (rfl) ?_
    obtain ⟨g4, e⟩ := gd_some e
    obtain ⟨h5, eh5, e⟩ := bv_some e
    refine eb_cg (p := hT h (hR h a0 1) = 2) rfl g4 (f_Orders_add_ev d (Nat.le_trans (by decide) hd) eh5) ?_
    show Eb _ 220 (272, [.ref a0, .int a1, .int x2], [], h5) _ _
    refine eb_n 2 (274, [.ref a0, .int a1, .int x2], [.int x2, .ref a0], h5) (rfl) ?_
    obtain ⟨g6, e⟩ := gd_some e
    obtain ⟨h7, r8, eh7, e⟩ := bn_some e
    refine eb_cg (p := hT h5 a0 = 10) rfl g6 (f_Grammar_reads_ev d (Nat.le_trans (by decide) hd) eh7) ?_
    show Eb _ 220 (277, [.ref a0, .int a1, .int x2], [.int r8], h7) _ _
    refine eb_b (c := r8 = 0) (293, [.ref a0, .int a1, .int x2], [], h7) (280, [.ref a0, .int a1, .int x2], [], h7) rfl (fun c9 => ?_) (fun c9 => ?_)
    · replace e := ite_t c9 e
      refine eb_n 1 (294, [.ref a0, .int a1, .int x2], [.int (nI 0)], h7) (rfl) ?_
      rw [(sp_inj e).1, (sp_inj e).2]
      exact eb_rg (p := nrm 3 (nI 0)) rfl nrm_30
    · replace e := ite_f c9 e
      refine eb_n 2 (283, [.ref a0, .int a1, .int x2], [.int (nI 55), .ref a0], h7) (rfl) ?_
      obtain ⟨g10, e⟩ := gd_some e
      obtain ⟨h11, r12, eh11, e⟩ := bn_some e
      refine eb_cg (p := hT h7 a0 = 10) rfl g10 (f_Grammar_reads_ev d (Nat.le_trans (by decide) hd) eh11) ?_
      show Eb _ 220 (286, [.ref a0, .int a1, .int x2], [.int r12], h11) _ _
      refine eb_b (c := r12 = 0) (293, [.ref a0, .int a1, .int x2], [], h11) (289, [.ref a0, .int a1, .int x2], [], h11) rfl (fun c13 => ?_) (fun c13 => ?_)
      · replace e := ite_t c13 e
        refine eb_n 1 (294, [.ref a0, .int a1, .int x2], [.int (nI 0)], h11) (rfl) ?_
        rw [(sp_inj e).1, (sp_inj e).2]
        exact eb_rg (p := nrm 3 (nI 0)) rfl nrm_30
      · replace e := ite_f c13 e
        refine eb_n 2 (294, [.ref a0, .int a1, .int x2], [.int (nI 1)], h11) (rfl) ?_
        rw [(sp_inj e).1, (sp_inj e).2]
        exact eb_rg (p := nrm 3 (nI 1)) rfl nrm_31
  replace e := ite_f c3 e
  by_cases c14 : x2 = nI 3
  · replace e := ite_t c14 e
    refine eb_n 1 (435, [.ref a0, .int a1, .int x2], [], h) (by rw [c14]; rfl) ?_
    refine eb_n 1 (436, [.ref a0, .int a1, .int x2], [.int (nI 0)], h) (rfl) ?_
    rw [(sp_inj e).1, (sp_inj e).2]
    exact eb_rg (p := nrm 3 (nI 0)) rfl nrm_30
  replace e := ite_f c14 e
  by_cases c15 : x2 = nI 4
  · replace e := ite_t c15 e
    refine eb_n 1 (435, [.ref a0, .int a1, .int x2], [], h) (by rw [c15]; rfl) ?_
    refine eb_n 1 (436, [.ref a0, .int a1, .int x2], [.int (nI 0)], h) (rfl) ?_
    rw [(sp_inj e).1, (sp_inj e).2]
    exact eb_rg (p := nrm 3 (nI 0)) rfl nrm_30
  replace e := ite_f c15 e
  by_cases c16 : x2 = nI 5
  · replace e := ite_t c16 e
    refine eb_n 1 (435, [.ref a0, .int a1, .int x2], [], h) (by rw [c16]; rfl) ?_
    refine eb_n 1 (436, [.ref a0, .int a1, .int x2], [.int (nI 0)], h) (rfl) ?_
    rw [(sp_inj e).1, (sp_inj e).2]
    exact eb_rg (p := nrm 3 (nI 0)) rfl nrm_30
  replace e := ite_f c16 e
  by_cases c17 : x2 = nI 6
  · replace e := ite_t c17 e
    refine eb_n 1 (435, [.ref a0, .int a1, .int x2], [], h) (by rw [c17]; rfl) ?_
    refine eb_n 1 (436, [.ref a0, .int a1, .int x2], [.int (nI 0)], h) (rfl) ?_
    rw [(sp_inj e).1, (sp_inj e).2]
    exact eb_rg (p := nrm 3 (nI 0)) rfl nrm_30
  replace e := ite_f c17 e
  by_cases c18 : x2 = nI 7
  · replace e := ite_t c18 e
    refine eb_n 1 (435, [.ref a0, .int a1, .int x2], [], h) (by rw [c18]; rfl) ?_
    refine eb_n 1 (436, [.ref a0, .int a1, .int x2], [.int (nI 0)], h) (rfl) ?_
    rw [(sp_inj e).1, (sp_inj e).2]
    exact eb_rg (p := nrm 3 (nI 0)) rfl nrm_30
  replace e := ite_f c18 e
  by_cases c19 : x2 = nI 8
  · replace e := ite_t c19 e
    refine eb_n 1 (435, [.ref a0, .int a1, .int x2], [], h) (by rw [c19]; rfl) ?_
    refine eb_n 1 (436, [.ref a0, .int a1, .int x2], [.int (nI 0)], h) (rfl) ?_
    rw [(sp_inj e).1, (sp_inj e).2]
    exact eb_rg (p := nrm 3 (nI 0)) rfl nrm_30
  replace e := ite_f c19 e
  by_cases c20 : x2 = nI 9
  · replace e := ite_t c20 e
    refine eb_n 1 (435, [.ref a0, .int a1, .int x2], [], h) (by rw [c20]; rfl) ?_
    refine eb_n 1 (436, [.ref a0, .int a1, .int x2], [.int (nI 0)], h) (rfl) ?_
    rw [(sp_inj e).1, (sp_inj e).2]
    exact eb_rg (p := nrm 3 (nI 0)) rfl nrm_30
  replace e := ite_f c20 e
  by_cases c21 : x2 = nI 10
  · replace e := ite_t c21 e
    refine eb_n 1 (435, [.ref a0, .int a1, .int x2], [], h) (by rw [c21]; rfl) ?_
    refine eb_n 1 (436, [.ref a0, .int a1, .int x2], [.int (nI 0)], h) (rfl) ?_
    rw [(sp_inj e).1, (sp_inj e).2]
    exact eb_rg (p := nrm 3 (nI 0)) rfl nrm_30
  replace e := ite_f c21 e
  by_cases c22 : x2 = nI 11
  · replace e := ite_t c22 e
    refine eb_n 1 (435, [.ref a0, .int a1, .int x2], [], h) (by rw [c22]; rfl) ?_
    refine eb_n 1 (436, [.ref a0, .int a1, .int x2], [.int (nI 0)], h) (rfl) ?_
    rw [(sp_inj e).1, (sp_inj e).2]
    exact eb_rg (p := nrm 3 (nI 0)) rfl nrm_30
  replace e := ite_f c22 e
  by_cases c23 : x2 = nI 12
  · replace e := ite_t c23 e
    refine eb_n 1 (435, [.ref a0, .int a1, .int x2], [], h) (by rw [c23]; rfl) ?_
    refine eb_n 1 (436, [.ref a0, .int a1, .int x2], [.int (nI 0)], h) (rfl) ?_
    rw [(sp_inj e).1, (sp_inj e).2]
    exact eb_rg (p := nrm 3 (nI 0)) rfl nrm_30
  replace e := ite_f c23 e
  by_cases c24 : x2 = nI 13
  · replace e := ite_t c24 e
    refine eb_n 1 (435, [.ref a0, .int a1, .int x2], [], h) (by rw [c24]; rfl) ?_
    refine eb_n 1 (436, [.ref a0, .int a1, .int x2], [.int (nI 0)], h) (rfl) ?_
    rw [(sp_inj e).1, (sp_inj e).2]
    exact eb_rg (p := nrm 3 (nI 0)) rfl nrm_30
  replace e := ite_f c24 e
  by_cases c25 : x2 = nI 14
  · replace e := ite_t c25 e
    refine eb_n 1 (435, [.ref a0, .int a1, .int x2], [], h) (by rw [c25]; rfl) ?_
    refine eb_n 1 (436, [.ref a0, .int a1, .int x2], [.int (nI 0)], h) (rfl) ?_
    rw [(sp_inj e).1, (sp_inj e).2]
    exact eb_rg (p := nrm 3 (nI 0)) rfl nrm_30
  replace e := ite_f c25 e
  by_cases c26 : x2 = nI 15
  · replace e := ite_t c26 e
    refine eb_n 1 (435, [.ref a0, .int a1, .int x2], [], h) (by rw [c26]; rfl) ?_
    refine eb_n 1 (436, [.ref a0, .int a1, .int x2], [.int (nI 0)], h) (rfl) ?_
    rw [(sp_inj e).1, (sp_inj e).2]
    exact eb_rg (p := nrm 3 (nI 0)) rfl nrm_30
  replace e := ite_f c26 e
  by_cases c27 : x2 = nI 16
  · replace e := ite_t c27 e
    refine eb_n 1 (435, [.ref a0, .int a1, .int x2], [], h) (by rw [c27]; rfl) ?_
    refine eb_n 1 (436, [.ref a0, .int a1, .int x2], [.int (nI 0)], h) (rfl) ?_
    rw [(sp_inj e).1, (sp_inj e).2]
    exact eb_rg (p := nrm 3 (nI 0)) rfl nrm_30
  replace e := ite_f c27 e
  by_cases c28 : x2 = nI 17
  · replace e := ite_t c28 e
    refine eb_n 1 (295, [.ref a0, .int a1, .int x2], [], h) (by rw [c28]; rfl) ?_
    refine eb_n 1 (296, [.ref a0, .int a1, .int x2], [.ref a0], h) (rfl) ?_
    refine eb_g (p := hT h a0 = 10) (299, [.ref a0, .int a1, .int x2], [.ref (hR h a0 1)], h) rfl g1 ?_
    refine eb_n 2 (301, [.ref a0, .int a1, .int x2], [.ref a0, .int x2, .ref (hR h a0 1)], h) (rfl) ?_
    refine eb_g (p := hT h a0 = 10) (304, [.ref a0, .int a1, .int x2], [.int (hI h a0 2), .int x2, .ref (hR h a0 1)], h) rfl g1 ?_
    refine eb_n 2 (306, [.ref a0, .int a1, .int x2], [.int ((hI h a0 2) + (nI 1)), .int x2, .ref (hR h a0 1)], h) (rfl) ?_
    obtain ⟨g29, e⟩ := gd_some e
    obtain ⟨h30, eh30, e⟩ := bv_some e
    refine eb_cg (p := hT h (hR h a0 1) = 2) rfl g29 (f_Orders_add_ev d (Nat.le_trans (by decide) hd) eh30) ?_
    show Eb _ 220 (309, [.ref a0, .int a1, .int x2], [], h30) _ _
    refine eb_n 2 (311, [.ref a0, .int a1, .int x2], [.int x2, .ref a0], h30) (rfl) ?_
    obtain ⟨g31, e⟩ := gd_some e
    obtain ⟨h32, r33, eh32, e⟩ := bn_some e
    refine eb_cg (p := hT h30 a0 = 10) rfl g31 (f_Grammar_reads_ev d (Nat.le_trans (by decide) hd) eh32) ?_
    show Eb _ 220 (314, [.ref a0, .int a1, .int x2], [.int r33], h32) _ _
    refine eb_b (c := r33 = 0) (342, [.ref a0, .int a1, .int x2], [], h32) (317, [.ref a0, .int a1, .int x2], [], h32) rfl (fun c34 => ?_) (fun c34 => ?_)
    · replace e := ite_t c34 e
      refine eb_n 1 (343, [.ref a0, .int a1, .int x2], [.int (nI 0)], h32) (rfl) ?_
      rw [(sp_inj e).1, (sp_inj e).2]
      exact eb_rg (p := nrm 3 (nI 0)) rfl nrm_30
    · replace e := ite_f c34 e
      refine eb_n 1 (318, [.ref a0, .int a1, .int x2], [.ref a0], h32) (rfl) ?_
      obtain ⟨g35, e⟩ := gd_some e
      refine eb_g (p := hT h32 a0 = 10) (321, [.ref a0, .int a1, .int x2], [.int (hI h32 a0 3)], h32) rfl g35 ?_
      obtain ⟨h36, r37, eh36, e⟩ := bn_some e
      refine eb_c rfl (f_Grammar_isGrade_ev d (Nat.le_trans (by decide) hd) eh36) ?_
      show Eb _ 220 (324, [.ref a0, .int a1, .int x2], [.int r37], h36) _ _
      refine eb_b (c := r37 = 0) (342, [.ref a0, .int a1, .int x2], [], h36) (327, [.ref a0, .int a1, .int x2], [], h36) rfl (fun c38 => ?_) (fun c38 => ?_)
      · replace e := ite_t c38 e
        refine eb_n 1 (343, [.ref a0, .int a1, .int x2], [.int (nI 0)], h36) (rfl) ?_
        rw [(sp_inj e).1, (sp_inj e).2]
        exact eb_rg (p := nrm 3 (nI 0)) rfl nrm_30
      · replace e := ite_f c38 e
        refine eb_n 2 (329, [.ref a0, .int a1, .int x2], [.ref a0, .ref a0], h36) (rfl) ?_
        obtain ⟨g39, e⟩ := gd_some e
        refine eb_g (p := hT h36 a0 = 10) (332, [.ref a0, .int a1, .int x2], [.int (hI h36 a0 3), .ref a0], h36) rfl g39 ?_
        obtain ⟨h40, r41, eh40, e⟩ := bn_some e
        refine eb_cg (p := hT h36 a0 = 10) rfl g39 (f_Grammar_reads_ev d (Nat.le_trans (by decide) hd) eh40) ?_
        show Eb _ 220 (335, [.ref a0, .int a1, .int x2], [.int r41], h40) _ _
        refine eb_b (c := r41 = 0) (342, [.ref a0, .int a1, .int x2], [], h40) (338, [.ref a0, .int a1, .int x2], [], h40) rfl (fun c42 => ?_) (fun c42 => ?_)
        · replace e := ite_t c42 e
          refine eb_n 1 (343, [.ref a0, .int a1, .int x2], [.int (nI 0)], h40) (rfl) ?_
          rw [(sp_inj e).1, (sp_inj e).2]
          exact eb_rg (p := nrm 3 (nI 0)) rfl nrm_30
        · replace e := ite_f c42 e
          refine eb_n 2 (343, [.ref a0, .int a1, .int x2], [.int (nI 1)], h40) (rfl) ?_
          rw [(sp_inj e).1, (sp_inj e).2]
          exact eb_rg (p := nrm 3 (nI 1)) rfl nrm_31
  replace e := ite_f c28 e
  by_cases c43 : x2 = nI 18
  · replace e := ite_t c43 e
    refine eb_n 1 (435, [.ref a0, .int a1, .int x2], [], h) (by rw [c43]; rfl) ?_
    refine eb_n 1 (436, [.ref a0, .int a1, .int x2], [.int (nI 0)], h) (rfl) ?_
    rw [(sp_inj e).1, (sp_inj e).2]
    exact eb_rg (p := nrm 3 (nI 0)) rfl nrm_30
  replace e := ite_f c43 e
  by_cases c44 : x2 = nI 19
  · replace e := ite_t c44 e
    refine eb_n 1 (435, [.ref a0, .int a1, .int x2], [], h) (by rw [c44]; rfl) ?_
    refine eb_n 1 (436, [.ref a0, .int a1, .int x2], [.int (nI 0)], h) (rfl) ?_
    rw [(sp_inj e).1, (sp_inj e).2]
    exact eb_rg (p := nrm 3 (nI 0)) rfl nrm_30
  replace e := ite_f c44 e
  by_cases c45 : x2 = nI 20
  · replace e := ite_t c45 e
    refine eb_n 1 (435, [.ref a0, .int a1, .int x2], [], h) (by rw [c45]; rfl) ?_
    refine eb_n 1 (436, [.ref a0, .int a1, .int x2], [.int (nI 0)], h) (rfl) ?_
    rw [(sp_inj e).1, (sp_inj e).2]
    exact eb_rg (p := nrm 3 (nI 0)) rfl nrm_30
  replace e := ite_f c45 e
  by_cases c46 : x2 = nI 21
  · replace e := ite_t c46 e
    refine eb_n 1 (435, [.ref a0, .int a1, .int x2], [], h) (by rw [c46]; rfl) ?_
    refine eb_n 1 (436, [.ref a0, .int a1, .int x2], [.int (nI 0)], h) (rfl) ?_
    rw [(sp_inj e).1, (sp_inj e).2]
    exact eb_rg (p := nrm 3 (nI 0)) rfl nrm_30
  replace e := ite_f c46 e
  by_cases c47 : x2 = nI 22
  · replace e := ite_t c47 e
    refine eb_n 1 (435, [.ref a0, .int a1, .int x2], [], h) (by rw [c47]; rfl) ?_
    refine eb_n 1 (436, [.ref a0, .int a1, .int x2], [.int (nI 0)], h) (rfl) ?_
    rw [(sp_inj e).1, (sp_inj e).2]
    exact eb_rg (p := nrm 3 (nI 0)) rfl nrm_30
  replace e := ite_f c47 e
  by_cases c48 : x2 = nI 23
  · replace e := ite_t c48 e
    refine eb_n 1 (435, [.ref a0, .int a1, .int x2], [], h) (by rw [c48]; rfl) ?_
    refine eb_n 1 (436, [.ref a0, .int a1, .int x2], [.int (nI 0)], h) (rfl) ?_
    rw [(sp_inj e).1, (sp_inj e).2]
    exact eb_rg (p := nrm 3 (nI 0)) rfl nrm_30
  replace e := ite_f c48 e
  by_cases c49 : x2 = nI 24
  · replace e := ite_t c49 e
    refine eb_n 1 (435, [.ref a0, .int a1, .int x2], [], h) (by rw [c49]; rfl) ?_
    refine eb_n 1 (436, [.ref a0, .int a1, .int x2], [.int (nI 0)], h) (rfl) ?_
    rw [(sp_inj e).1, (sp_inj e).2]
    exact eb_rg (p := nrm 3 (nI 0)) rfl nrm_30
  replace e := ite_f c49 e
  by_cases c50 : x2 = nI 25
  · replace e := ite_t c50 e
    refine eb_n 1 (435, [.ref a0, .int a1, .int x2], [], h) (by rw [c50]; rfl) ?_
    refine eb_n 1 (436, [.ref a0, .int a1, .int x2], [.int (nI 0)], h) (rfl) ?_
    rw [(sp_inj e).1, (sp_inj e).2]
    exact eb_rg (p := nrm 3 (nI 0)) rfl nrm_30
  replace e := ite_f c50 e
  by_cases c51 : x2 = nI 26
  · replace e := ite_t c51 e
    refine eb_n 1 (435, [.ref a0, .int a1, .int x2], [], h) (by rw [c51]; rfl) ?_
    refine eb_n 1 (436, [.ref a0, .int a1, .int x2], [.int (nI 0)], h) (rfl) ?_
    rw [(sp_inj e).1, (sp_inj e).2]
    exact eb_rg (p := nrm 3 (nI 0)) rfl nrm_30
  replace e := ite_f c51 e
  by_cases c52 : x2 = nI 27
  · replace e := ite_t c52 e
    refine eb_n 1 (240, [.ref a0, .int a1, .int x2], [], h) (by rw [c52]; rfl) ?_
    refine eb_n 1 (241, [.ref a0, .int a1, .int x2], [.ref a0], h) (rfl) ?_
    refine eb_g (p := hT h a0 = 10) (244, [.ref a0, .int a1, .int x2], [.ref (hR h a0 1)], h) rfl g1 ?_
    refine eb_n 2 (246, [.ref a0, .int a1, .int x2], [.ref a0, .int x2, .ref (hR h a0 1)], h) (rfl) ?_
    refine eb_g (p := hT h a0 = 10) (249, [.ref a0, .int a1, .int x2], [.int (hI h a0 2), .int x2, .ref (hR h a0 1)], h) rfl g1 ?_
    obtain ⟨g53, e⟩ := gd_some e
    obtain ⟨h54, eh54, e⟩ := bv_some e
    refine eb_cg (p := hT h (hR h a0 1) = 2) rfl g53 (f_Orders_add_ev d (Nat.le_trans (by decide) hd) eh54) ?_
    show Eb _ 220 (252, [.ref a0, .int a1, .int x2], [], h54) _ _
    refine eb_n 2 (254, [.ref a0, .int a1, .int x2], [.int x2, .ref a0], h54) (rfl) ?_
    obtain ⟨g55, e⟩ := gd_some e
    obtain ⟨h56, r57, eh56, e⟩ := bn_some e
    refine eb_cg (p := hT h54 a0 = 10) rfl g55 (f_Grammar_reads_ev d (Nat.le_trans (by decide) hd) eh56) ?_
    show Eb _ 220 (257, [.ref a0, .int a1, .int x2], [.int r57], h56) _ _
    obtain ⟨g58, e⟩ := gd_some e
    rw [(sp_inj e).1, (sp_inj e).2]
    exact eb_rg (p := nrm 3 r57) rfl g58
  replace e := ite_f c52 e
  by_cases c59 : x2 = nI 28
  · replace e := ite_t c59 e
    refine eb_n 1 (240, [.ref a0, .int a1, .int x2], [], h) (by rw [c59]; rfl) ?_
    refine eb_n 1 (241, [.ref a0, .int a1, .int x2], [.ref a0], h) (rfl) ?_
    refine eb_g (p := hT h a0 = 10) (244, [.ref a0, .int a1, .int x2], [.ref (hR h a0 1)], h) rfl g1 ?_
    refine eb_n 2 (246, [.ref a0, .int a1, .int x2], [.ref a0, .int x2, .ref (hR h a0 1)], h) (rfl) ?_
    refine eb_g (p := hT h a0 = 10) (249, [.ref a0, .int a1, .int x2], [.int (hI h a0 2), .int x2, .ref (hR h a0 1)], h) rfl g1 ?_
    obtain ⟨g60, e⟩ := gd_some e
    obtain ⟨h61, eh61, e⟩ := bv_some e
    refine eb_cg (p := hT h (hR h a0 1) = 2) rfl g60 (f_Orders_add_ev d (Nat.le_trans (by decide) hd) eh61) ?_
    show Eb _ 220 (252, [.ref a0, .int a1, .int x2], [], h61) _ _
    refine eb_n 2 (254, [.ref a0, .int a1, .int x2], [.int x2, .ref a0], h61) (rfl) ?_
    obtain ⟨g62, e⟩ := gd_some e
    obtain ⟨h63, r64, eh63, e⟩ := bn_some e
    refine eb_cg (p := hT h61 a0 = 10) rfl g62 (f_Grammar_reads_ev d (Nat.le_trans (by decide) hd) eh63) ?_
    show Eb _ 220 (257, [.ref a0, .int a1, .int x2], [.int r64], h63) _ _
    obtain ⟨g65, e⟩ := gd_some e
    rw [(sp_inj e).1, (sp_inj e).2]
    exact eb_rg (p := nrm 3 r64) rfl g65
  replace e := ite_f c59 e
  by_cases c66 : x2 = nI 29
  · replace e := ite_t c66 e
    refine eb_n 1 (258, [.ref a0, .int a1, .int x2], [], h) (by rw [c66]; rfl) ?_
    refine eb_n 1 (259, [.ref a0, .int a1, .int x2], [.ref a0], h) (rfl) ?_
    refine eb_g (p := hT h a0 = 10) (262, [.ref a0, .int a1, .int x2], [.ref (hR h a0 1)], h) rfl g1 ?_
    refine eb_n 2 (264, [.ref a0, .int a1, .int x2], [.ref a0, .int x2, .ref (hR h a0 1)], h) (rfl) ?_
    refine eb_g (p := hT h a0 = 10) (267, [.ref a0, .int a1, .int x2], [.int (hI h a0 2), .int x2, .ref (hR h a0 1)], h) rfl g1 ?_
    refine eb_n 2 (269, [.ref a0, .int a1, .int x2], [.int ((hI h a0 2) + (nI 1)), .int x2, .ref (hR h a0 1)], h) (rfl) ?_
    obtain ⟨g67, e⟩ := gd_some e
    obtain ⟨h68, eh68, e⟩ := bv_some e
    refine eb_cg (p := hT h (hR h a0 1) = 2) rfl g67 (f_Orders_add_ev d (Nat.le_trans (by decide) hd) eh68) ?_
    show Eb _ 220 (272, [.ref a0, .int a1, .int x2], [], h68) _ _
    refine eb_n 2 (274, [.ref a0, .int a1, .int x2], [.int x2, .ref a0], h68) (rfl) ?_
    obtain ⟨g69, e⟩ := gd_some e
    obtain ⟨h70, r71, eh70, e⟩ := bn_some e
    refine eb_cg (p := hT h68 a0 = 10) rfl g69 (f_Grammar_reads_ev d (Nat.le_trans (by decide) hd) eh70) ?_
    show Eb _ 220 (277, [.ref a0, .int a1, .int x2], [.int r71], h70) _ _
    refine eb_b (c := r71 = 0) (293, [.ref a0, .int a1, .int x2], [], h70) (280, [.ref a0, .int a1, .int x2], [], h70) rfl (fun c72 => ?_) (fun c72 => ?_)
    · replace e := ite_t c72 e
      refine eb_n 1 (294, [.ref a0, .int a1, .int x2], [.int (nI 0)], h70) (rfl) ?_
      rw [(sp_inj e).1, (sp_inj e).2]
      exact eb_rg (p := nrm 3 (nI 0)) rfl nrm_30
    · replace e := ite_f c72 e
      refine eb_n 2 (283, [.ref a0, .int a1, .int x2], [.int (nI 55), .ref a0], h70) (rfl) ?_
      obtain ⟨g73, e⟩ := gd_some e
      obtain ⟨h74, r75, eh74, e⟩ := bn_some e
      refine eb_cg (p := hT h70 a0 = 10) rfl g73 (f_Grammar_reads_ev d (Nat.le_trans (by decide) hd) eh74) ?_
      show Eb _ 220 (286, [.ref a0, .int a1, .int x2], [.int r75], h74) _ _
      refine eb_b (c := r75 = 0) (293, [.ref a0, .int a1, .int x2], [], h74) (289, [.ref a0, .int a1, .int x2], [], h74) rfl (fun c76 => ?_) (fun c76 => ?_)
      · replace e := ite_t c76 e
        refine eb_n 1 (294, [.ref a0, .int a1, .int x2], [.int (nI 0)], h74) (rfl) ?_
        rw [(sp_inj e).1, (sp_inj e).2]
        exact eb_rg (p := nrm 3 (nI 0)) rfl nrm_30
      · replace e := ite_f c76 e
        refine eb_n 2 (294, [.ref a0, .int a1, .int x2], [.int (nI 1)], h74) (rfl) ?_
        rw [(sp_inj e).1, (sp_inj e).2]
        exact eb_rg (p := nrm 3 (nI 1)) rfl nrm_31
  replace e := ite_f c66 e
  by_cases c77 : x2 = nI 30
  · replace e := ite_t c77 e
    refine eb_n 1 (258, [.ref a0, .int a1, .int x2], [], h) (by rw [c77]; rfl) ?_
    refine eb_n 1 (259, [.ref a0, .int a1, .int x2], [.ref a0], h) (rfl) ?_
    refine eb_g (p := hT h a0 = 10) (262, [.ref a0, .int a1, .int x2], [.ref (hR h a0 1)], h) rfl g1 ?_
    refine eb_n 2 (264, [.ref a0, .int a1, .int x2], [.ref a0, .int x2, .ref (hR h a0 1)], h) (rfl) ?_
    refine eb_g (p := hT h a0 = 10) (267, [.ref a0, .int a1, .int x2], [.int (hI h a0 2), .int x2, .ref (hR h a0 1)], h) rfl g1 ?_
    refine eb_n 2 (269, [.ref a0, .int a1, .int x2], [.int ((hI h a0 2) + (nI 1)), .int x2, .ref (hR h a0 1)], h) (rfl) ?_
    obtain ⟨g78, e⟩ := gd_some e
    obtain ⟨h79, eh79, e⟩ := bv_some e
    refine eb_cg (p := hT h (hR h a0 1) = 2) rfl g78 (f_Orders_add_ev d (Nat.le_trans (by decide) hd) eh79) ?_
    show Eb _ 220 (272, [.ref a0, .int a1, .int x2], [], h79) _ _
    refine eb_n 2 (274, [.ref a0, .int a1, .int x2], [.int x2, .ref a0], h79) (rfl) ?_
    obtain ⟨g80, e⟩ := gd_some e
    obtain ⟨h81, r82, eh81, e⟩ := bn_some e
    refine eb_cg (p := hT h79 a0 = 10) rfl g80 (f_Grammar_reads_ev d (Nat.le_trans (by decide) hd) eh81) ?_
    show Eb _ 220 (277, [.ref a0, .int a1, .int x2], [.int r82], h81) _ _
    refine eb_b (c := r82 = 0) (293, [.ref a0, .int a1, .int x2], [], h81) (280, [.ref a0, .int a1, .int x2], [], h81) rfl (fun c83 => ?_) (fun c83 => ?_)
    · replace e := ite_t c83 e
      refine eb_n 1 (294, [.ref a0, .int a1, .int x2], [.int (nI 0)], h81) (rfl) ?_
      rw [(sp_inj e).1, (sp_inj e).2]
      exact eb_rg (p := nrm 3 (nI 0)) rfl nrm_30
    · replace e := ite_f c83 e
      refine eb_n 2 (283, [.ref a0, .int a1, .int x2], [.int (nI 55), .ref a0], h81) (rfl) ?_
      obtain ⟨g84, e⟩ := gd_some e
      obtain ⟨h85, r86, eh85, e⟩ := bn_some e
      refine eb_cg (p := hT h81 a0 = 10) rfl g84 (f_Grammar_reads_ev d (Nat.le_trans (by decide) hd) eh85) ?_
      show Eb _ 220 (286, [.ref a0, .int a1, .int x2], [.int r86], h85) _ _
      refine eb_b (c := r86 = 0) (293, [.ref a0, .int a1, .int x2], [], h85) (289, [.ref a0, .int a1, .int x2], [], h85) rfl (fun c87 => ?_) (fun c87 => ?_)
      · replace e := ite_t c87 e
        refine eb_n 1 (294, [.ref a0, .int a1, .int x2], [.int (nI 0)], h85) (rfl) ?_
        rw [(sp_inj e).1, (sp_inj e).2]
        exact eb_rg (p := nrm 3 (nI 0)) rfl nrm_30
      · replace e := ite_f c87 e
        refine eb_n 2 (294, [.ref a0, .int a1, .int x2], [.int (nI 1)], h85) (rfl) ?_
        rw [(sp_inj e).1, (sp_inj e).2]
        exact eb_rg (p := nrm 3 (nI 1)) rfl nrm_31
  replace e := ite_f c77 e
  by_cases c88 : x2 = nI 31
  · replace e := ite_t c88 e
    refine eb_n 1 (295, [.ref a0, .int a1, .int x2], [], h) (by rw [c88]; rfl) ?_
    refine eb_n 1 (296, [.ref a0, .int a1, .int x2], [.ref a0], h) (rfl) ?_
    refine eb_g (p := hT h a0 = 10) (299, [.ref a0, .int a1, .int x2], [.ref (hR h a0 1)], h) rfl g1 ?_
    refine eb_n 2 (301, [.ref a0, .int a1, .int x2], [.ref a0, .int x2, .ref (hR h a0 1)], h) (rfl) ?_
    refine eb_g (p := hT h a0 = 10) (304, [.ref a0, .int a1, .int x2], [.int (hI h a0 2), .int x2, .ref (hR h a0 1)], h) rfl g1 ?_
    refine eb_n 2 (306, [.ref a0, .int a1, .int x2], [.int ((hI h a0 2) + (nI 1)), .int x2, .ref (hR h a0 1)], h) (rfl) ?_
    obtain ⟨g89, e⟩ := gd_some e
    obtain ⟨h90, eh90, e⟩ := bv_some e
    refine eb_cg (p := hT h (hR h a0 1) = 2) rfl g89 (f_Orders_add_ev d (Nat.le_trans (by decide) hd) eh90) ?_
    show Eb _ 220 (309, [.ref a0, .int a1, .int x2], [], h90) _ _
    refine eb_n 2 (311, [.ref a0, .int a1, .int x2], [.int x2, .ref a0], h90) (rfl) ?_
    obtain ⟨g91, e⟩ := gd_some e
    obtain ⟨h92, r93, eh92, e⟩ := bn_some e
    refine eb_cg (p := hT h90 a0 = 10) rfl g91 (f_Grammar_reads_ev d (Nat.le_trans (by decide) hd) eh92) ?_
    show Eb _ 220 (314, [.ref a0, .int a1, .int x2], [.int r93], h92) _ _
    refine eb_b (c := r93 = 0) (342, [.ref a0, .int a1, .int x2], [], h92) (317, [.ref a0, .int a1, .int x2], [], h92) rfl (fun c94 => ?_) (fun c94 => ?_)
    · replace e := ite_t c94 e
      refine eb_n 1 (343, [.ref a0, .int a1, .int x2], [.int (nI 0)], h92) (rfl) ?_
      rw [(sp_inj e).1, (sp_inj e).2]
      exact eb_rg (p := nrm 3 (nI 0)) rfl nrm_30
    · replace e := ite_f c94 e
      refine eb_n 1 (318, [.ref a0, .int a1, .int x2], [.ref a0], h92) (rfl) ?_
      obtain ⟨g95, e⟩ := gd_some e
      refine eb_g (p := hT h92 a0 = 10) (321, [.ref a0, .int a1, .int x2], [.int (hI h92 a0 3)], h92) rfl g95 ?_
      obtain ⟨h96, r97, eh96, e⟩ := bn_some e
      refine eb_c rfl (f_Grammar_isGrade_ev d (Nat.le_trans (by decide) hd) eh96) ?_
      show Eb _ 220 (324, [.ref a0, .int a1, .int x2], [.int r97], h96) _ _
      refine eb_b (c := r97 = 0) (342, [.ref a0, .int a1, .int x2], [], h96) (327, [.ref a0, .int a1, .int x2], [], h96) rfl (fun c98 => ?_) (fun c98 => ?_)
      · replace e := ite_t c98 e
        refine eb_n 1 (343, [.ref a0, .int a1, .int x2], [.int (nI 0)], h96) (rfl) ?_
        rw [(sp_inj e).1, (sp_inj e).2]
        exact eb_rg (p := nrm 3 (nI 0)) rfl nrm_30
      · replace e := ite_f c98 e
        refine eb_n 2 (329, [.ref a0, .int a1, .int x2], [.ref a0, .ref a0], h96) (rfl) ?_
        obtain ⟨g99, e⟩ := gd_some e
        refine eb_g (p := hT h96 a0 = 10) (332, [.ref a0, .int a1, .int x2], [.int (hI h96 a0 3), .ref a0], h96) rfl g99 ?_
        obtain ⟨h100, r101, eh100, e⟩ := bn_some e
        refine eb_cg (p := hT h96 a0 = 10) rfl g99 (f_Grammar_reads_ev d (Nat.le_trans (by decide) hd) eh100) ?_
        show Eb _ 220 (335, [.ref a0, .int a1, .int x2], [.int r101], h100) _ _
        refine eb_b (c := r101 = 0) (342, [.ref a0, .int a1, .int x2], [], h100) (338, [.ref a0, .int a1, .int x2], [], h100) rfl (fun c102 => ?_) (fun c102 => ?_)
        · replace e := ite_t c102 e
          refine eb_n 1 (343, [.ref a0, .int a1, .int x2], [.int (nI 0)], h100) (rfl) ?_
          rw [(sp_inj e).1, (sp_inj e).2]
          exact eb_rg (p := nrm 3 (nI 0)) rfl nrm_30
        · replace e := ite_f c102 e
          refine eb_n 2 (343, [.ref a0, .int a1, .int x2], [.int (nI 1)], h100) (rfl) ?_
          rw [(sp_inj e).1, (sp_inj e).2]
          exact eb_rg (p := nrm 3 (nI 1)) rfl nrm_31
  replace e := ite_f c88 e
  by_cases c103 : x2 = nI 32
  · replace e := ite_t c103 e
    refine eb_n 1 (258, [.ref a0, .int a1, .int x2], [], h) (by rw [c103]; rfl) ?_
    refine eb_n 1 (259, [.ref a0, .int a1, .int x2], [.ref a0], h) (rfl) ?_
    refine eb_g (p := hT h a0 = 10) (262, [.ref a0, .int a1, .int x2], [.ref (hR h a0 1)], h) rfl g1 ?_
    refine eb_n 2 (264, [.ref a0, .int a1, .int x2], [.ref a0, .int x2, .ref (hR h a0 1)], h) (rfl) ?_
    refine eb_g (p := hT h a0 = 10) (267, [.ref a0, .int a1, .int x2], [.int (hI h a0 2), .int x2, .ref (hR h a0 1)], h) rfl g1 ?_
    refine eb_n 2 (269, [.ref a0, .int a1, .int x2], [.int ((hI h a0 2) + (nI 1)), .int x2, .ref (hR h a0 1)], h) (rfl) ?_
    obtain ⟨g104, e⟩ := gd_some e
    obtain ⟨h105, eh105, e⟩ := bv_some e
    refine eb_cg (p := hT h (hR h a0 1) = 2) rfl g104 (f_Orders_add_ev d (Nat.le_trans (by decide) hd) eh105) ?_
    show Eb _ 220 (272, [.ref a0, .int a1, .int x2], [], h105) _ _
    refine eb_n 2 (274, [.ref a0, .int a1, .int x2], [.int x2, .ref a0], h105) (rfl) ?_
    obtain ⟨g106, e⟩ := gd_some e
    obtain ⟨h107, r108, eh107, e⟩ := bn_some e
    refine eb_cg (p := hT h105 a0 = 10) rfl g106 (f_Grammar_reads_ev d (Nat.le_trans (by decide) hd) eh107) ?_
    show Eb _ 220 (277, [.ref a0, .int a1, .int x2], [.int r108], h107) _ _
    refine eb_b (c := r108 = 0) (293, [.ref a0, .int a1, .int x2], [], h107) (280, [.ref a0, .int a1, .int x2], [], h107) rfl (fun c109 => ?_) (fun c109 => ?_)
    · replace e := ite_t c109 e
      refine eb_n 1 (294, [.ref a0, .int a1, .int x2], [.int (nI 0)], h107) (rfl) ?_
      rw [(sp_inj e).1, (sp_inj e).2]
      exact eb_rg (p := nrm 3 (nI 0)) rfl nrm_30
    · replace e := ite_f c109 e
      refine eb_n 2 (283, [.ref a0, .int a1, .int x2], [.int (nI 55), .ref a0], h107) (rfl) ?_
      obtain ⟨g110, e⟩ := gd_some e
      obtain ⟨h111, r112, eh111, e⟩ := bn_some e
      refine eb_cg (p := hT h107 a0 = 10) rfl g110 (f_Grammar_reads_ev d (Nat.le_trans (by decide) hd) eh111) ?_
      show Eb _ 220 (286, [.ref a0, .int a1, .int x2], [.int r112], h111) _ _
      refine eb_b (c := r112 = 0) (293, [.ref a0, .int a1, .int x2], [], h111) (289, [.ref a0, .int a1, .int x2], [], h111) rfl (fun c113 => ?_) (fun c113 => ?_)
      · replace e := ite_t c113 e
        refine eb_n 1 (294, [.ref a0, .int a1, .int x2], [.int (nI 0)], h111) (rfl) ?_
        rw [(sp_inj e).1, (sp_inj e).2]
        exact eb_rg (p := nrm 3 (nI 0)) rfl nrm_30
      · replace e := ite_f c113 e
        refine eb_n 2 (294, [.ref a0, .int a1, .int x2], [.int (nI 1)], h111) (rfl) ?_
        rw [(sp_inj e).1, (sp_inj e).2]
        exact eb_rg (p := nrm 3 (nI 1)) rfl nrm_31
  replace e := ite_f c103 e
  by_cases c114 : x2 = nI 33
  · replace e := ite_t c114 e
    refine eb_n 1 (435, [.ref a0, .int a1, .int x2], [], h) (by rw [c114]; rfl) ?_
    refine eb_n 1 (436, [.ref a0, .int a1, .int x2], [.int (nI 0)], h) (rfl) ?_
    rw [(sp_inj e).1, (sp_inj e).2]
    exact eb_rg (p := nrm 3 (nI 0)) rfl nrm_30
  replace e := ite_f c114 e
  by_cases c115 : x2 = nI 34
  · replace e := ite_t c115 e
    refine eb_n 1 (435, [.ref a0, .int a1, .int x2], [], h) (by rw [c115]; rfl) ?_
    refine eb_n 1 (436, [.ref a0, .int a1, .int x2], [.int (nI 0)], h) (rfl) ?_
    rw [(sp_inj e).1, (sp_inj e).2]
    exact eb_rg (p := nrm 3 (nI 0)) rfl nrm_30
  replace e := ite_f c115 e
  by_cases c116 : x2 = nI 35
  · replace e := ite_t c116 e
    refine eb_n 1 (435, [.ref a0, .int a1, .int x2], [], h) (by rw [c116]; rfl) ?_
    refine eb_n 1 (436, [.ref a0, .int a1, .int x2], [.int (nI 0)], h) (rfl) ?_
    rw [(sp_inj e).1, (sp_inj e).2]
    exact eb_rg (p := nrm 3 (nI 0)) rfl nrm_30
  replace e := ite_f c116 e
  by_cases c117 : x2 = nI 36
  · replace e := ite_t c117 e
    refine eb_n 1 (435, [.ref a0, .int a1, .int x2], [], h) (by rw [c117]; rfl) ?_
    refine eb_n 1 (436, [.ref a0, .int a1, .int x2], [.int (nI 0)], h) (rfl) ?_
    rw [(sp_inj e).1, (sp_inj e).2]
    exact eb_rg (p := nrm 3 (nI 0)) rfl nrm_30
  replace e := ite_f c117 e
  by_cases c118 : x2 = nI 37
  · replace e := ite_t c118 e
    refine eb_n 1 (435, [.ref a0, .int a1, .int x2], [], h) (by rw [c118]; rfl) ?_
    refine eb_n 1 (436, [.ref a0, .int a1, .int x2], [.int (nI 0)], h) (rfl) ?_
    rw [(sp_inj e).1, (sp_inj e).2]
    exact eb_rg (p := nrm 3 (nI 0)) rfl nrm_30
  replace e := ite_f c118 e
  by_cases c119 : x2 = nI 38
  · replace e := ite_t c119 e
    refine eb_n 1 (428, [.ref a0, .int a1, .int x2], [], h) (by rw [c119]; rfl) ?_
    refine eb_n 3 (431, [.ref a0, .int a1, .int x2], [.int a1, .int x2, .ref a0], h) (rfl) ?_
    obtain ⟨h120, r121, eh120, e⟩ := bn_some e
    refine eb_cg (p := hT h a0 = 10) rfl g1 (hG.2.2.2.2.2.2 _ _ _ _ _ _ eh120) ?_
    show Eb _ 220 (434, [.ref a0, .int a1, .int x2], [.int r121], h120) _ _
    obtain ⟨g122, e⟩ := gd_some e
    rw [(sp_inj e).1, (sp_inj e).2]
    exact eb_rg (p := nrm 3 r121) rfl g122
  replace e := ite_f c119 e
  by_cases c123 : x2 = nI 39
  · replace e := ite_t c123 e
    refine eb_n 1 (428, [.ref a0, .int a1, .int x2], [], h) (by rw [c123]; rfl) ?_
    refine eb_n 3 (431, [.ref a0, .int a1, .int x2], [.int a1, .int x2, .ref a0], h) (rfl) ?_
    obtain ⟨h124, r125, eh124, e⟩ := bn_some e
    refine eb_cg (p := hT h a0 = 10) rfl g1 (hG.2.2.2.2.2.2 _ _ _ _ _ _ eh124) ?_
    show Eb _ 220 (434, [.ref a0, .int a1, .int x2], [.int r125], h124) _ _
    obtain ⟨g126, e⟩ := gd_some e
    rw [(sp_inj e).1, (sp_inj e).2]
    exact eb_rg (p := nrm 3 r125) rfl g126
  replace e := ite_f c123 e
  by_cases c127 : x2 = nI 40
  · replace e := ite_t c127 e
    refine eb_n 1 (387, [.ref a0, .int a1, .int x2], [], h) (by rw [c127]; rfl) ?_
    refine eb_n 1 (388, [.ref a0, .int a1, .int x2], [.int a1], h) (rfl) ?_
    obtain ⟨h128, r129, eh128, e⟩ := bn_some e
    refine eb_c rfl (f_Grammar_mayGoDeeper_ev d (Nat.le_trans (by decide) hd) eh128) ?_
    show Eb _ 220 (391, [.ref a0, .int a1, .int x2], [.int r129], h128) _ _
    refine eb_b (c := r129 = 0) (426, [.ref a0, .int a1, .int x2], [], h128) (394, [.ref a0, .int a1, .int x2], [], h128) rfl (fun c130 => ?_) (fun c130 => ?_)
    · replace e := ite_t c130 e
      refine eb_n 1 (427, [.ref a0, .int a1, .int x2], [.int (nI 0)], h128) (rfl) ?_
      rw [(sp_inj e).1, (sp_inj e).2]
      exact eb_rg (p := nrm 3 (nI 0)) rfl nrm_30
    · replace e := ite_f c130 e
      refine eb_n 2 (397, [.ref a0, .int a1, .int x2], [.int (nI 40), .ref a0], h128) (rfl) ?_
      obtain ⟨g131, e⟩ := gd_some e
      obtain ⟨h132, r133, eh132, e⟩ := bn_some e
      refine eb_cg (p := hT h128 a0 = 10) rfl g131 (f_Grammar_reads_ev d (Nat.le_trans (by decide) hd) eh132) ?_
      show Eb _ 220 (400, [.ref a0, .int a1, .int x2], [.int r133], h132) _ _
      refine eb_b (c := r133 = 0) (426, [.ref a0, .int a1, .int x2], [], h132) (403, [.ref a0, .int a1, .int x2], [], h132) rfl (fun c134 => ?_) (fun c134 => ?_)
      · replace e := ite_t c134 e
        refine eb_n 1 (427, [.ref a0, .int a1, .int x2], [.int (nI 0)], h132) (rfl) ?_
        rw [(sp_inj e).1, (sp_inj e).2]
        exact eb_rg (p := nrm 3 (nI 0)) rfl nrm_30
      · replace e := ite_f c134 e
        refine eb_n 4 (407, [.ref a0, .int a1, .int x2], [.int (a1 + (nI 1)), .ref a0], h132) (rfl) ?_
        obtain ⟨g135, e⟩ := gd_some e
        obtain ⟨h136, r137, eh136, e⟩ := bn_some e
        refine eb_cg (p := hT h132 a0 = 10) rfl g135 (hG.2.2.2.1 _ _ _ _ _ eh136) ?_
        show Eb _ 220 (410, [.ref a0, .int a1, .int x2], [.int r137], h136) _ _
        refine eb_b (c := r137 = 0) (426, [.ref a0, .int a1, .int x2], [], h136) (413, [.ref a0, .int a1, .int x2], [], h136) rfl (fun c138 => ?_) (fun c138 => ?_)
        · replace e := ite_t c138 e
          refine eb_n 1 (427, [.ref a0, .int a1, .int x2], [.int (nI 0)], h136) (rfl) ?_
          rw [(sp_inj e).1, (sp_inj e).2]
          exact eb_rg (p := nrm 3 (nI 0)) rfl nrm_30
        · replace e := ite_f c138 e
          refine eb_n 2 (416, [.ref a0, .int a1, .int x2], [.int (nI 41), .ref a0], h136) (rfl) ?_
          obtain ⟨g139, e⟩ := gd_some e
          obtain ⟨h140, r141, eh140, e⟩ := bn_some e
          refine eb_cg (p := hT h136 a0 = 10) rfl g139 (f_Grammar_reads_ev d (Nat.le_trans (by decide) hd) eh140) ?_
          show Eb _ 220 (419, [.ref a0, .int a1, .int x2], [.int r141], h140) _ _
          refine eb_b (c := r141 = 0) (426, [.ref a0, .int a1, .int x2], [], h140) (422, [.ref a0, .int a1, .int x2], [], h140) rfl (fun c142 => ?_) (fun c142 => ?_)
          · replace e := ite_t c142 e
            refine eb_n 1 (427, [.ref a0, .int a1, .int x2], [.int (nI 0)], h140) (rfl) ?_
            rw [(sp_inj e).1, (sp_inj e).2]
            exact eb_rg (p := nrm 3 (nI 0)) rfl nrm_30
          · replace e := ite_f c142 e
            refine eb_n 2 (427, [.ref a0, .int a1, .int x2], [.int (nI 1)], h140) (rfl) ?_
            rw [(sp_inj e).1, (sp_inj e).2]
            exact eb_rg (p := nrm 3 (nI 1)) rfl nrm_31
  replace e := ite_f c127 e
  by_cases c143 : x2 = nI 41
  · replace e := ite_t c143 e
    refine eb_n 1 (435, [.ref a0, .int a1, .int x2], [], h) (by rw [c143]; rfl) ?_
    refine eb_n 1 (436, [.ref a0, .int a1, .int x2], [.int (nI 0)], h) (rfl) ?_
    rw [(sp_inj e).1, (sp_inj e).2]
    exact eb_rg (p := nrm 3 (nI 0)) rfl nrm_30
  replace e := ite_f c143 e
  by_cases c144 : x2 = nI 42
  · replace e := ite_t c144 e
    refine eb_n 1 (435, [.ref a0, .int a1, .int x2], [], h) (by rw [c144]; rfl) ?_
    refine eb_n 1 (436, [.ref a0, .int a1, .int x2], [.int (nI 0)], h) (rfl) ?_
    rw [(sp_inj e).1, (sp_inj e).2]
    exact eb_rg (p := nrm 3 (nI 0)) rfl nrm_30
  replace e := ite_f c144 e
  by_cases c145 : x2 = nI 43
  · replace e := ite_t c145 e
    refine eb_n 1 (435, [.ref a0, .int a1, .int x2], [], h) (by rw [c145]; rfl) ?_
    refine eb_n 1 (436, [.ref a0, .int a1, .int x2], [.int (nI 0)], h) (rfl) ?_
    rw [(sp_inj e).1, (sp_inj e).2]
    exact eb_rg (p := nrm 3 (nI 0)) rfl nrm_30
  replace e := ite_f c145 e
  by_cases c146 : x2 = nI 44
  · replace e := ite_t c146 e
    refine eb_n 1 (435, [.ref a0, .int a1, .int x2], [], h) (by rw [c146]; rfl) ?_
    refine eb_n 1 (436, [.ref a0, .int a1, .int x2], [.int (nI 0)], h) (rfl) ?_
    rw [(sp_inj e).1, (sp_inj e).2]
    exact eb_rg (p := nrm 3 (nI 0)) rfl nrm_30
  replace e := ite_f c146 e
  by_cases c147 : x2 = nI 45
  · replace e := ite_t c147 e
    refine eb_n 1 (435, [.ref a0, .int a1, .int x2], [], h) (by rw [c147]; rfl) ?_
    refine eb_n 1 (436, [.ref a0, .int a1, .int x2], [.int (nI 0)], h) (rfl) ?_
    rw [(sp_inj e).1, (sp_inj e).2]
    exact eb_rg (p := nrm 3 (nI 0)) rfl nrm_30
  replace e := ite_f c147 e
  by_cases c148 : x2 = nI 46
  · replace e := ite_t c148 e
    refine eb_n 1 (435, [.ref a0, .int a1, .int x2], [], h) (by rw [c148]; rfl) ?_
    refine eb_n 1 (436, [.ref a0, .int a1, .int x2], [.int (nI 0)], h) (rfl) ?_
    rw [(sp_inj e).1, (sp_inj e).2]
    exact eb_rg (p := nrm 3 (nI 0)) rfl nrm_30
  replace e := ite_f c148 e
  by_cases c149 : x2 = nI 47
  · replace e := ite_t c149 e
    refine eb_n 1 (344, [.ref a0, .int a1, .int x2], [], h) (by rw [c149]; rfl) ?_
    refine eb_n 1 (345, [.ref a0, .int a1, .int x2], [.int a1], h) (rfl) ?_
    obtain ⟨h150, r151, eh150, e⟩ := bn_some e
    refine eb_c rfl (f_Grammar_mayGoDeeper_ev d (Nat.le_trans (by decide) hd) eh150) ?_
    show Eb _ 220 (348, [.ref a0, .int a1, .int x2], [.int r151], h150) _ _
    refine eb_b (c := r151 = 0) (370, [.ref a0, .int a1, .int x2], [], h150) (351, [.ref a0, .int a1, .int x2], [], h150) rfl (fun c152 => ?_) (fun c152 => ?_)
    · replace e := ite_t c152 e
      refine eb_n 1 (371, [.ref a0, .int a1, .int x2], [.int (nI 0)], h150) (rfl) ?_
      rw [(sp_inj e).1, (sp_inj e).2]
      exact eb_rg (p := nrm 3 (nI 0)) rfl nrm_30
    · replace e := ite_f c152 e
      refine eb_n 2 (354, [.ref a0, .int a1, .int x2], [.int (nI 47), .ref a0], h150) (rfl) ?_
      obtain ⟨g153, e⟩ := gd_some e
      obtain ⟨h154, r155, eh154, e⟩ := bn_some e
      refine eb_cg (p := hT h150 a0 = 10) rfl g153 (f_Grammar_reads_ev d (Nat.le_trans (by decide) hd) eh154) ?_
      show Eb _ 220 (357, [.ref a0, .int a1, .int x2], [.int r155], h154) _ _
      refine eb_b (c := r155 = 0) (370, [.ref a0, .int a1, .int x2], [], h154) (360, [.ref a0, .int a1, .int x2], [], h154) rfl (fun c156 => ?_) (fun c156 => ?_)
      · replace e := ite_t c156 e
        refine eb_n 1 (371, [.ref a0, .int a1, .int x2], [.int (nI 0)], h154) (rfl) ?_
        rw [(sp_inj e).1, (sp_inj e).2]
        exact eb_rg (p := nrm 3 (nI 0)) rfl nrm_30
      · replace e := ite_f c156 e
        refine eb_n 4 (364, [.ref a0, .int a1, .int x2], [.int (a1 + (nI 1)), .ref a0], h154) (rfl) ?_
        obtain ⟨g157, e⟩ := gd_some e
        obtain ⟨h158, r159, eh158, e⟩ := bn_some e
        refine eb_cg (p := hT h154 a0 = 10) rfl g157 (hG.2.2.2.2.2.1 _ _ _ _ _ eh158) ?_
        show Eb _ 220 (367, [.ref a0, .int a1, .int x2], [.int r159], h158) _ _
        refine eb_b (c := ¬ r159 = 0) (372, [.ref a0, .int a1, .int x2], [], h158) (370, [.ref a0, .int a1, .int x2], [], h158) rfl (fun c160 => ?_) (fun c160 => ?_)
        · replace e := ite_t c160 e
          refine eb_n 1 (373, [.ref a0, .int a1, .int x2], [.ref a0], h158) (rfl) ?_
          obtain ⟨g161, e⟩ := gd_some e
          refine eb_g (p := hT h158 a0 = 10) (376, [.ref a0, .int a1, .int x2], [.ref (hR h158 a0 1)], h158) rfl g161 ?_
          refine eb_n 2 (379, [.ref a0, .int a1, .int x2], [.ref a0, .int (nI 59), .ref (hR h158 a0 1)], h158) (rfl) ?_
          refine eb_g (p := hT h158 a0 = 10) (382, [.ref a0, .int a1, .int x2], [.int (hI h158 a0 2), .int (nI 59), .ref (hR h158 a0 1)], h158) rfl g161 ?_
          obtain ⟨g162, e⟩ := gd_some e
          obtain ⟨h163, eh163, e⟩ := bv_some e
          refine eb_cg (p := hT h158 (hR h158 a0 1) = 2) rfl g162 (f_Orders_add_ev d (Nat.le_trans (by decide) hd) eh163) ?_
          show Eb _ 220 (385, [.ref a0, .int a1, .int x2], [], h163) _ _
          refine eb_n 1 (386, [.ref a0, .int a1, .int x2], [.int (nI 1)], h163) (rfl) ?_
          rw [(sp_inj e).1, (sp_inj e).2]
          exact eb_rg (p := nrm 3 (nI 1)) rfl nrm_31
        · replace e := ite_f c160 e
          refine eb_n 1 (371, [.ref a0, .int a1, .int x2], [.int (nI 0)], h158) (rfl) ?_
          rw [(sp_inj e).1, (sp_inj e).2]
          exact eb_rg (p := nrm 3 (nI 0)) rfl nrm_30
  replace e := ite_f c149 e
  by_cases c164 : x2 = nI 48
  · replace e := ite_t c164 e
    refine eb_n 1 (435, [.ref a0, .int a1, .int x2], [], h) (by rw [c164]; rfl) ?_
    refine eb_n 1 (436, [.ref a0, .int a1, .int x2], [.int (nI 0)], h) (rfl) ?_
    rw [(sp_inj e).1, (sp_inj e).2]
    exact eb_rg (p := nrm 3 (nI 0)) rfl nrm_30
  replace e := ite_f c164 e
  by_cases c165 : x2 = nI 49
  · replace e := ite_t c165 e
    refine eb_n 1 (435, [.ref a0, .int a1, .int x2], [], h) (by rw [c165]; rfl) ?_
    refine eb_n 1 (436, [.ref a0, .int a1, .int x2], [.int (nI 0)], h) (rfl) ?_
    rw [(sp_inj e).1, (sp_inj e).2]
    exact eb_rg (p := nrm 3 (nI 0)) rfl nrm_30
  replace e := ite_f c165 e
  by_cases c166 : x2 = nI 50
  · replace e := ite_t c166 e
    refine eb_n 1 (435, [.ref a0, .int a1, .int x2], [], h) (by rw [c166]; rfl) ?_
    refine eb_n 1 (436, [.ref a0, .int a1, .int x2], [.int (nI 0)], h) (rfl) ?_
    rw [(sp_inj e).1, (sp_inj e).2]
    exact eb_rg (p := nrm 3 (nI 0)) rfl nrm_30
  replace e := ite_f c166 e
  by_cases c167 : x2 = nI 51
  · replace e := ite_t c167 e
    refine eb_n 1 (435, [.ref a0, .int a1, .int x2], [], h) (by rw [c167]; rfl) ?_
    refine eb_n 1 (436, [.ref a0, .int a1, .int x2], [.int (nI 0)], h) (rfl) ?_
    rw [(sp_inj e).1, (sp_inj e).2]
    exact eb_rg (p := nrm 3 (nI 0)) rfl nrm_30
  replace e := ite_f c167 e
  by_cases c168 : x2 = nI 52
  · replace e := ite_t c168 e
    refine eb_n 1 (435, [.ref a0, .int a1, .int x2], [], h) (by rw [c168]; rfl) ?_
    refine eb_n 1 (436, [.ref a0, .int a1, .int x2], [.int (nI 0)], h) (rfl) ?_
    rw [(sp_inj e).1, (sp_inj e).2]
    exact eb_rg (p := nrm 3 (nI 0)) rfl nrm_30
  replace e := ite_f c168 e
  by_cases c169 : x2 = nI 53
  · replace e := ite_t c169 e
    refine eb_n 1 (435, [.ref a0, .int a1, .int x2], [], h) (by rw [c169]; rfl) ?_
    refine eb_n 1 (436, [.ref a0, .int a1, .int x2], [.int (nI 0)], h) (rfl) ?_
    rw [(sp_inj e).1, (sp_inj e).2]
    exact eb_rg (p := nrm 3 (nI 0)) rfl nrm_30
  replace e := ite_f c169 e
  by_cases c170 : x2 = nI 54
  · replace e := ite_t c170 e
    refine eb_n 1 (435, [.ref a0, .int a1, .int x2], [], h) (by rw [c170]; rfl) ?_
    refine eb_n 1 (436, [.ref a0, .int a1, .int x2], [.int (nI 0)], h) (rfl) ?_
    rw [(sp_inj e).1, (sp_inj e).2]
    exact eb_rg (p := nrm 3 (nI 0)) rfl nrm_30
  replace e := ite_f c170 e
  by_cases c171 : x2 = nI 55
  · replace e := ite_t c171 e
    refine eb_n 1 (435, [.ref a0, .int a1, .int x2], [], h) (by rw [c171]; rfl) ?_
    refine eb_n 1 (436, [.ref a0, .int a1, .int x2], [.int (nI 0)], h) (rfl) ?_
    rw [(sp_inj e).1, (sp_inj e).2]
    exact eb_rg (p := nrm 3 (nI 0)) rfl nrm_30
  replace e := ite_f c171 e
  by_cases c172 : x2 = nI 56
  · replace e := ite_t c172 e
    refine eb_n 1 (240, [.ref a0, .int a1, .int x2], [], h) (by rw [c172]; rfl) ?_
    refine eb_n 1 (241, [.ref a0, .int a1, .int x2], [.ref a0], h) (rfl) ?_
    refine eb_g (p := hT h a0 = 10) (244, [.ref a0, .int a1, .int x2], [.ref (hR h a0 1)], h) rfl g1 ?_
    refine eb_n 2 (246, [.ref a0, .int a1, .int x2], [.ref a0, .int x2, .ref (hR h a0 1)], h) (rfl) ?_
    refine eb_g (p := hT h a0 = 10) (249, [.ref a0, .int a1, .int x2], [.int (hI h a0 2), .int x2, .ref (hR h a0 1)], h) rfl g1 ?_
    obtain ⟨g173, e⟩ := gd_some e
    obtain ⟨h174, eh174, e⟩ := bv_some e
    refine eb_cg (p := hT h (hR h a0 1) = 2) rfl g173 (f_Orders_add_ev d (Nat.le_trans (by decide) hd) eh174) ?_
    show Eb _ 220 (252, [.ref a0, .int a1, .int x2], [], h174) _ _
    refine eb_n 2 (254, [.ref a0, .int a1, .int x2], [.int x2, .ref a0], h174) (rfl) ?_
    obtain ⟨g175, e⟩ := gd_some e
    obtain ⟨h176, r177, eh176, e⟩ := bn_some e
    refine eb_cg (p := hT h174 a0 = 10) rfl g175 (f_Grammar_reads_ev d (Nat.le_trans (by decide) hd) eh176) ?_
    show Eb _ 220 (257, [.ref a0, .int a1, .int x2], [.int r177], h176) _ _
    obtain ⟨g178, e⟩ := gd_some e
    rw [(sp_inj e).1, (sp_inj e).2]
    exact eb_rg (p := nrm 3 r177) rfl g178
  replace e := ite_f c172 e
  refine eb_1 (f' := (435, [.ref a0, .int a1, .int x2], [], h)) (tsw_d (tsw_out (x := x2) (lo := 2) (n := 55) (by decide) (by decide) (fun k hk => match k, hk with | 0, _ => c3 | 1, _ => c14 | 2, _ => c15 | 3, _ => c16 | 4, _ => c17 | 5, _ => c18 | 6, _ => c19 | 7, _ => c20 | 8, _ => c21 | 9, _ => c22 | 10, _ => c23 | 11, _ => c24 | 12, _ => c25 | 13, _ => c26 | 14, _ => c27 | 15, _ => c28 | 16, _ => c43 | 17, _ => c44 | 18, _ => c45 | 19, _ => c46 | 20, _ => c47 | 21, _ => c48 | 22, _ => c49 | 23, _ => c50 | 24, _ => c51 | 25, _ => c52 | 26, _ => c59 | 27, _ => c66 | 28, _ => c77 | 29, _ => c88 | 30, _ => c103 | 31, _ => c114 | 32, _ => c115 | 33, _ => c116 | 34, _ => c117 | 35, _ => c118 | 36, _ => c119 | 37, _ => c123 | 38, _ => c127 | 39, _ => c143 | 40, _ => c144 | 41, _ => c145 | 42, _ => c146 | 43, _ => c147 | 44, _ => c148 | 45, _ => c149 | 46, _ => c164 | 47, _ => c165 | 48, _ => c166 | 49, _ => c167 | 50, _ => c168 | 51, _ => c169 | 52, _ => c170 | 53, _ => c171 | 54, _ => c172 | k + 55, hk => absurd hk (by omega))) rfl rfl) ?_
  refine eb_n 1 (436, [.ref a0, .int a1, .int x2], [.int (nI 0)], h) (rfl) ?_
  rw [(sp_inj e).1, (sp_inj e).2]
  exact eb_rg (p := nrm 3 (nI 0)) rfl nrm_30
set_option maxRecDepth 100000 in
set_option maxHeartbeats 4000000 in
theorem f_Grammar_readsChoice_ev (d : Nat) (hd : 2 ≤ d) (G : Nat → AH → Nat → Int32 → Int32 → Option (AH × Int32)) (hG : (∀ h a x0 h1 r, G 0 h a x0 (nI 0) = some (h1, r) → Ev tb mL d 186 [.ref a, .int x0] h h1 (some (.int r))) ∧ (∀ h a x0 h1 r, G 1 h a x0 (nI 0) = some (h1, r) → Ev tb mL d 209 [.ref a, .int x0] h h1 (some (.int r))) ∧ (∀ h a x0 h1 r, G 2 h a x0 (nI 0) = some (h1, r) → Ev tb mL d 219 [.ref a, .int x0] h h1 (some (.int r))) ∧ (∀ h a x0 h1 r, G 3 h a x0 (nI 0) = some (h1, r) → Ev tb mL d 188 [.ref a, .int x0] h h1 (some (.int r))) ∧ (∀ h a x0 h1 r, G 4 h a x0 (nI 0) = some (h1, r) → Ev tb mL d 210 [.ref a, .int x0] h h1 (some (.int r))) ∧ (∀ h a x0 h1 r, G 5 h a x0 (nI 0) = some (h1, r) → Ev tb mL d 220 [.ref a, .int x0] h h1 (some (.int r))) ∧ (∀ h a x0 x1 h1 r, G 6 h a x0 x1 = some (h1, r) → Ev tb mL d 226 [.ref a, .int x0, .int x1] h h1 (some (.int r)))) {h' : AH} {r : Int32} {h : AH} {a0 : Nat} {a1 : Int32} {a2 : Int32} (e : f_Grammar_readsChoice G h a0 a1 a2 = some (h', r)) : Ev tb mL (d + 1) 226 [.ref a0, .int a1, .int a2] h h' (some (.int r)) := by
  refine ⟨Nat.le_of_ble_eq_true rfl, ?_⟩
  show Eb (Ev tb mL d) 226 (0, [.ref a0, .int a1, .int a2], [], h) h' (some (.int r))
  unfold f_Grammar_readsChoice at e
  refine eb_n 2 (2, [.ref a0, .int a1, .int a2], [.int a1, .ref a0], h) (rfl) ?_
  obtain ⟨g1, e⟩ := gd_some e
  obtain ⟨h2, r3, eh2, e⟩ := bn_some e
  refine eb_cg (p := hT h a0 = 10) rfl g1 (f_Grammar_reads_ev d (Nat.le_trans (by decide) hd) eh2) ?_
  show Eb _ 226 (5, [.ref a0, .int a1, .int a2], [.int r3], h2) _ _
  refine eb_b (c := r3 = 0) (34, [.ref a0, .int a1, .int a2], [], h2) (8, [.ref a0, .int a1, .int a2], [], h2) rfl (fun c4 => ?_) (fun c4 => ?_)
  · replace e := ite_t c4 e
    refine eb_n 1 (35, [.ref a0, .int a1, .int a2], [.int (nI 0)], h2) (rfl) ?_
    rw [(sp_inj e).1, (sp_inj e).2]
    exact eb_rg (p := nrm 3 (nI 0)) rfl nrm_30
  · replace e := ite_f c4 e
    refine eb_n 1 (9, [.ref a0, .int a1, .int a2], [.int a2], h2) (rfl) ?_
    obtain ⟨h5, r6, eh5, e⟩ := bn_some e
    refine eb_c rfl (f_Grammar_mayGoDeeper_ev d (Nat.le_trans (by decide) hd) eh5) ?_
    show Eb _ 226 (12, [.ref a0, .int a1, .int a2], [.int r6], h5) _ _
    refine eb_b (c := r6 = 0) (34, [.ref a0, .int a1, .int a2], [], h5) (15, [.ref a0, .int a1, .int a2], [], h5) rfl (fun c7 => ?_) (fun c7 => ?_)
    · replace e := ite_t c7 e
      refine eb_n 1 (35, [.ref a0, .int a1, .int a2], [.int (nI 0)], h5) (rfl) ?_
      rw [(sp_inj e).1, (sp_inj e).2]
      exact eb_rg (p := nrm 3 (nI 0)) rfl nrm_30
    · replace e := ite_f c7 e
      refine eb_n 2 (18, [.ref a0, .int a1, .int a2], [.int (nI 40), .ref a0], h5) (rfl) ?_
      obtain ⟨g8, e⟩ := gd_some e
      obtain ⟨h9, r10, eh9, e⟩ := bn_some e
      refine eb_cg (p := hT h5 a0 = 10) rfl g8 (f_Grammar_reads_ev d (Nat.le_trans (by decide) hd) eh9) ?_
      show Eb _ 226 (21, [.ref a0, .int a1, .int a2], [.int r10], h9) _ _
      refine eb_b (c := r10 = 0) (34, [.ref a0, .int a1, .int a2], [], h9) (24, [.ref a0, .int a1, .int a2], [], h9) rfl (fun c11 => ?_) (fun c11 => ?_)
      · replace e := ite_t c11 e
        refine eb_n 1 (35, [.ref a0, .int a1, .int a2], [.int (nI 0)], h9) (rfl) ?_
        rw [(sp_inj e).1, (sp_inj e).2]
        exact eb_rg (p := nrm 3 (nI 0)) rfl nrm_30
      · replace e := ite_f c11 e
        refine eb_n 4 (28, [.ref a0, .int a1, .int a2], [.int (a2 + (nI 1)), .ref a0], h9) (rfl) ?_
        obtain ⟨g12, e⟩ := gd_some e
        obtain ⟨h13, r14, eh13, e⟩ := bn_some e
        refine eb_cg (p := hT h9 a0 = 10) rfl g12 (hG.2.2.2.1 _ _ _ _ _ eh13) ?_
        show Eb _ 226 (31, [.ref a0, .int a1, .int a2], [.int r14], h13) _ _
        refine eb_b (c := ¬ r14 = 0) (36, [.ref a0, .int a1, .int a2], [], h13) (34, [.ref a0, .int a1, .int a2], [], h13) rfl (fun c15 => ?_) (fun c15 => ?_)
        · replace e := ite_t c15 e
          refine eb_n 2 (39, [.ref a0, .int a1, .int a2], [.int (nI 45), .ref a0], h13) (rfl) ?_
          obtain ⟨g16, e⟩ := gd_some e
          obtain ⟨h17, r18, eh17, e⟩ := bn_some e
          refine eb_cg (p := hT h13 a0 = 10) rfl g16 (f_Grammar_reads_ev d (Nat.le_trans (by decide) hd) eh17) ?_
          show Eb _ 226 (42, [.ref a0, .int a1, .int a2], [.int r18], h17) _ _
          refine eb_b (c := r18 = 0) (64, [.ref a0, .int a1, .int a2], [], h17) (45, [.ref a0, .int a1, .int a2], [], h17) rfl (fun c19 => ?_) (fun c19 => ?_)
          · replace e := ite_t c19 e
            refine eb_n 1 (65, [.ref a0, .int a1, .int a2], [.int (nI 0)], h17) (rfl) ?_
            rw [(sp_inj e).1, (sp_inj e).2]
            exact eb_rg (p := nrm 3 (nI 0)) rfl nrm_30
          · replace e := ite_f c19 e
            refine eb_n 4 (49, [.ref a0, .int a1, .int a2], [.int (a2 + (nI 1)), .ref a0], h17) (rfl) ?_
            obtain ⟨g20, e⟩ := gd_some e
            obtain ⟨h21, r22, eh21, e⟩ := bn_some e
            refine eb_cg (p := hT h17 a0 = 10) rfl g20 (hG.2.2.2.1 _ _ _ _ _ eh21) ?_
            show Eb _ 226 (52, [.ref a0, .int a1, .int a2], [.int r22], h21) _ _
            refine eb_b (c := r22 = 0) (64, [.ref a0, .int a1, .int a2], [], h21) (55, [.ref a0, .int a1, .int a2], [], h21) rfl (fun c23 => ?_) (fun c23 => ?_)
            · replace e := ite_t c23 e
              refine eb_n 1 (65, [.ref a0, .int a1, .int a2], [.int (nI 0)], h21) (rfl) ?_
              rw [(sp_inj e).1, (sp_inj e).2]
              exact eb_rg (p := nrm 3 (nI 0)) rfl nrm_30
            · replace e := ite_f c23 e
              refine eb_n 2 (58, [.ref a0, .int a1, .int a2], [.int (nI 41), .ref a0], h21) (rfl) ?_
              obtain ⟨g24, e⟩ := gd_some e
              obtain ⟨h25, r26, eh25, e⟩ := bn_some e
              refine eb_cg (p := hT h21 a0 = 10) rfl g24 (f_Grammar_reads_ev d (Nat.le_trans (by decide) hd) eh25) ?_
              show Eb _ 226 (61, [.ref a0, .int a1, .int a2], [.int r26], h25) _ _
              refine eb_b (c := ¬ r26 = 0) (66, [.ref a0, .int a1, .int a2], [], h25) (64, [.ref a0, .int a1, .int a2], [], h25) rfl (fun c27 => ?_) (fun c27 => ?_)
              · replace e := ite_t c27 e
                refine eb_n 1 (67, [.ref a0, .int a1, .int a2], [.ref a0], h25) (rfl) ?_
                obtain ⟨g28, e⟩ := gd_some e
                refine eb_g (p := hT h25 a0 = 10) (70, [.ref a0, .int a1, .int a2], [.ref (hR h25 a0 1)], h25) rfl g28 ?_
                refine eb_n 2 (72, [.ref a0, .int a1, .int a2], [.ref a0, .int a1, .ref (hR h25 a0 1)], h25) (rfl) ?_
                refine eb_g (p := hT h25 a0 = 10) (75, [.ref a0, .int a1, .int a2], [.int (hI h25 a0 2), .int a1, .ref (hR h25 a0 1)], h25) rfl g28 ?_
                obtain ⟨g29, e⟩ := gd_some e
                obtain ⟨h30, eh30, e⟩ := bv_some e
                refine eb_cg (p := hT h25 (hR h25 a0 1) = 2) rfl g29 (f_Orders_add_ev d (Nat.le_trans (by decide) hd) eh30) ?_
                show Eb _ 226 (78, [.ref a0, .int a1, .int a2], [], h30) _ _
                refine eb_n 1 (79, [.ref a0, .int a1, .int a2], [.int (nI 1)], h30) (rfl) ?_
                rw [(sp_inj e).1, (sp_inj e).2]
                exact eb_rg (p := nrm 3 (nI 1)) rfl nrm_31
              · replace e := ite_f c27 e
                refine eb_n 1 (65, [.ref a0, .int a1, .int a2], [.int (nI 0)], h25) (rfl) ?_
                rw [(sp_inj e).1, (sp_inj e).2]
                exact eb_rg (p := nrm 3 (nI 0)) rfl nrm_30
        · replace e := ite_f c15 e
          refine eb_n 1 (35, [.ref a0, .int a1, .int a2], [.int (nI 0)], h13) (rfl) ?_
          rw [(sp_inj e).1, (sp_inj e).2]
          exact eb_rg (p := nrm 3 (nI 0)) rfl nrm_30
set_option maxRecDepth 100000 in
set_option maxHeartbeats 4000000 in
theorem gG_ev (d : Nat) (hd : 2 ≤ d) : ∀ n : Nat, (∀ h a x0 h1 r, gG n 0 h a x0 (nI 0) = some (h1, r) → Ev tb mL (d + n) 186 [.ref a, .int x0] h h1 (some (.int r))) ∧ (∀ h a x0 h1 r, gG n 1 h a x0 (nI 0) = some (h1, r) → Ev tb mL (d + n) 209 [.ref a, .int x0] h h1 (some (.int r))) ∧ (∀ h a x0 h1 r, gG n 2 h a x0 (nI 0) = some (h1, r) → Ev tb mL (d + n) 219 [.ref a, .int x0] h h1 (some (.int r))) ∧ (∀ h a x0 h1 r, gG n 3 h a x0 (nI 0) = some (h1, r) → Ev tb mL (d + n) 188 [.ref a, .int x0] h h1 (some (.int r))) ∧ (∀ h a x0 h1 r, gG n 4 h a x0 (nI 0) = some (h1, r) → Ev tb mL (d + n) 210 [.ref a, .int x0] h h1 (some (.int r))) ∧ (∀ h a x0 h1 r, gG n 5 h a x0 (nI 0) = some (h1, r) → Ev tb mL (d + n) 220 [.ref a, .int x0] h h1 (some (.int r))) ∧ (∀ h a x0 x1 h1 r, gG n 6 h a x0 x1 = some (h1, r) → Ev tb mL (d + n) 226 [.ref a, .int x0, .int x1] h h1 (some (.int r))) := by
  intro n
  induction n with
  | zero => exact ⟨(fun _ _ _ _ _ e => nomatch (show (none : Option (AH × Int32)) = some _ from e)), (fun _ _ _ _ _ e => nomatch (show (none : Option (AH × Int32)) = some _ from e)), (fun _ _ _ _ _ e => nomatch (show (none : Option (AH × Int32)) = some _ from e)), (fun _ _ _ _ _ e => nomatch (show (none : Option (AH × Int32)) = some _ from e)), (fun _ _ _ _ _ e => nomatch (show (none : Option (AH × Int32)) = some _ from e)), (fun _ _ _ _ _ e => nomatch (show (none : Option (AH × Int32)) = some _ from e)), (fun _ _ _ _ _ _ e => nomatch (show (none : Option (AH × Int32)) = some _ from e))⟩
  | succ n ih =>
    have hd2 : 2 ≤ d + n := by omega
    exact ⟨fun _ _ _ _ _ e => f_Grammar_readsTest_ev (d + n) hd2 (gG n) ih e, fun _ _ _ _ _ e => f_Grammar_readsBoth_ev (d + n) hd2 (gG n) ih e, fun _ _ _ _ _ e => f_Grammar_readsSingle_ev (d + n) hd2 (gG n) ih e, fun _ _ _ _ _ e => f_Grammar_readsSum_ev (d + n) hd2 (gG n) ih e, fun _ _ _ _ _ e => f_Grammar_readsProduct_ev (d + n) hd2 (gG n) ih e, fun _ _ _ _ _ e => f_Grammar_readsValue_ev (d + n) hd2 (gG n) ih e, fun _ _ _ _ _ _ e => f_Grammar_readsChoice_ev (d + n) hd2 (gG n) ih e⟩
set_option maxRecDepth 100000 in
set_option maxHeartbeats 4000000 in
theorem gG_ev_0 (d : Nat) (hd : 62 ≤ d) {h h1 : AH} {a : Nat} {x0 : Int32} {r : Int32} (e : gG GN 0 h a x0 (nI 0) = some (h1, r)) : Ev tb mL d 186 [.ref a, .int x0] h h1 (some (.int r)) := by
  have h2 := (gG_ev (d - GN) (by unfold GN; omega) GN).1 h a x0 h1 r e
  rwa [show d - GN + GN = d by unfold GN; omega] at h2
set_option maxRecDepth 100000 in
set_option maxHeartbeats 4000000 in
theorem gG_ev_1 (d : Nat) (hd : 62 ≤ d) {h h1 : AH} {a : Nat} {x0 : Int32} {r : Int32} (e : gG GN 1 h a x0 (nI 0) = some (h1, r)) : Ev tb mL d 209 [.ref a, .int x0] h h1 (some (.int r)) := by
  have h2 := (gG_ev (d - GN) (by unfold GN; omega) GN).2.1 h a x0 h1 r e
  rwa [show d - GN + GN = d by unfold GN; omega] at h2
set_option maxRecDepth 100000 in
set_option maxHeartbeats 4000000 in
theorem gG_ev_2 (d : Nat) (hd : 62 ≤ d) {h h1 : AH} {a : Nat} {x0 : Int32} {r : Int32} (e : gG GN 2 h a x0 (nI 0) = some (h1, r)) : Ev tb mL d 219 [.ref a, .int x0] h h1 (some (.int r)) := by
  have h2 := (gG_ev (d - GN) (by unfold GN; omega) GN).2.2.1 h a x0 h1 r e
  rwa [show d - GN + GN = d by unfold GN; omega] at h2
set_option maxRecDepth 100000 in
set_option maxHeartbeats 4000000 in
theorem gG_ev_3 (d : Nat) (hd : 62 ≤ d) {h h1 : AH} {a : Nat} {x0 : Int32} {r : Int32} (e : gG GN 3 h a x0 (nI 0) = some (h1, r)) : Ev tb mL d 188 [.ref a, .int x0] h h1 (some (.int r)) := by
  have h2 := (gG_ev (d - GN) (by unfold GN; omega) GN).2.2.2.1 h a x0 h1 r e
  rwa [show d - GN + GN = d by unfold GN; omega] at h2
set_option maxRecDepth 100000 in
set_option maxHeartbeats 4000000 in
theorem gG_ev_4 (d : Nat) (hd : 62 ≤ d) {h h1 : AH} {a : Nat} {x0 : Int32} {r : Int32} (e : gG GN 4 h a x0 (nI 0) = some (h1, r)) : Ev tb mL d 210 [.ref a, .int x0] h h1 (some (.int r)) := by
  have h2 := (gG_ev (d - GN) (by unfold GN; omega) GN).2.2.2.2.1 h a x0 h1 r e
  rwa [show d - GN + GN = d by unfold GN; omega] at h2
set_option maxRecDepth 100000 in
set_option maxHeartbeats 4000000 in
theorem gG_ev_5 (d : Nat) (hd : 62 ≤ d) {h h1 : AH} {a : Nat} {x0 : Int32} {r : Int32} (e : gG GN 5 h a x0 (nI 0) = some (h1, r)) : Ev tb mL d 220 [.ref a, .int x0] h h1 (some (.int r)) := by
  have h2 := (gG_ev (d - GN) (by unfold GN; omega) GN).2.2.2.2.2.1 h a x0 h1 r e
  rwa [show d - GN + GN = d by unfold GN; omega] at h2
set_option maxRecDepth 100000 in
set_option maxHeartbeats 4000000 in
theorem gG_ev_6 (d : Nat) (hd : 62 ≤ d) {h h1 : AH} {a : Nat} {x0 : Int32} {x1 : Int32} {r : Int32} (e : gG GN 6 h a x0 x1 = some (h1, r)) : Ev tb mL d 226 [.ref a, .int x0, .int x1] h h1 (some (.int r)) := by
  have h2 := (gG_ev (d - GN) (by unfold GN; omega) GN).2.2.2.2.2.2 h a x0 x1 h1 r e
  rwa [show d - GN + GN = d by unfold GN; omega] at h2
set_option maxRecDepth 100000 in
set_option maxHeartbeats 4000000 in
theorem f_Grammar_readsOrderWithTest_ev (d0 : Nat) (hd0 : 64 ≤ d0) {h' : AH} {r : Int32} {h : AH} {a0 : Nat} {a1 : Int32} (e : f_Grammar_readsOrderWithTest h a0 a1 = some (h', r)) : Ev tb mL d0 170 [.ref a0, .int a1] h h' (some (.int r)) := by
  obtain ⟨d, rfl⟩ : ∃ d, d0 = d + 1 := ⟨d0 - 1, by omega⟩
  have hd : 63 ≤ d := by omega
  refine ⟨Nat.le_of_ble_eq_true rfl, ?_⟩
  show Eb (Ev tb mL d) 170 (0, [.ref a0, .int a1, .retAddr 0], [], h) h' (some (.int r))
  unfold f_Grammar_readsOrderWithTest at e
  refine eb_n 1 (1, [.ref a0, .int a1, .retAddr 0], [.ref a0], h) (rfl) ?_
  obtain ⟨g1, e⟩ := gd_some e
  refine eb_g (p := hT h a0 = 10) (4, [.ref a0, .int a1, .retAddr 0], [.int (hI h a0 2)], h) rfl g1 ?_
  obtain ⟨x2, hx2, e⟩ := lq_some e
  refine eb_n 3 (7, [.ref a0, .int a1, .int x2], [], h) (by subst hx2; rfl) ?_
  refine eb_n 2 (9, [.ref a0, .int a1, .int x2], [.int a1, .ref a0], h) (rfl) ?_
  obtain ⟨h3, r4, eh3, e⟩ := bn_some e
  refine eb_cg (p := hT h a0 = 10) rfl g1 (f_Grammar_readsNameOf_ev d (Nat.le_trans (by decide) hd) eh3) ?_
  show Eb _ 170 (12, [.ref a0, .int a1, .int x2], [.int r4], h3) _ _
  refine eb_b (c := r4 = 0) (32, [.ref a0, .int a1, .int x2], [], h3) (15, [.ref a0, .int a1, .int x2], [], h3) rfl (fun c5 => ?_) (fun c5 => ?_)
  · replace e := ite_t c5 e
    refine eb_n 1 (33, [.ref a0, .int a1, .int x2], [.int (nI 0)], h3) (rfl) ?_
    rw [(sp_inj e).1, (sp_inj e).2]
    exact eb_rg (p := nrm 3 (nI 0)) rfl nrm_30
  · replace e := ite_f c5 e
    refine eb_n 2 (18, [.ref a0, .int a1, .int x2], [.int (nI 26), .ref a0], h3) (rfl) ?_
    obtain ⟨g6, e⟩ := gd_some e
    obtain ⟨h7, r8, eh7, e⟩ := bn_some e
    refine eb_cg (p := hT h3 a0 = 10) rfl g6 (f_Grammar_reads_ev d (Nat.le_trans (by decide) hd) eh7) ?_
    show Eb _ 170 (21, [.ref a0, .int a1, .int x2], [.int r8], h7) _ _
    refine eb_b (c := r8 = 0) (32, [.ref a0, .int a1, .int x2], [], h7) (24, [.ref a0, .int a1, .int x2], [], h7) rfl (fun c9 => ?_) (fun c9 => ?_)
    · replace e := ite_t c9 e
      refine eb_n 1 (33, [.ref a0, .int a1, .int x2], [.int (nI 0)], h7) (rfl) ?_
      rw [(sp_inj e).1, (sp_inj e).2]
      exact eb_rg (p := nrm 3 (nI 0)) rfl nrm_30
    · replace e := ite_f c9 e
      refine eb_n 2 (26, [.ref a0, .int a1, .int x2], [.int (nI 0), .ref a0], h7) (rfl) ?_
      obtain ⟨g10, e⟩ := gd_some e
      obtain ⟨h11, r12, eh11, e⟩ := bn_some e
      refine eb_cg (p := hT h7 a0 = 10) rfl g10 (gG_ev_0 d (Nat.le_trans (by decide) hd) eh11) ?_
      show Eb _ 170 (29, [.ref a0, .int a1, .int x2], [.int r12], h11) _ _
      refine eb_b (c := ¬ r12 = 0) (34, [.ref a0, .int a1, .int x2], [], h11) (32, [.ref a0, .int a1, .int x2], [], h11) rfl (fun c13 => ?_) (fun c13 => ?_)
      · replace e := ite_t c13 e
        refine eb_n 1 (35, [.ref a0, .int a1, .int x2], [.ref a0], h11) (rfl) ?_
        obtain ⟨g14, e⟩ := gd_some e
        refine eb_g (p := hT h11 a0 = 10) (38, [.ref a0, .int a1, .int x2], [.ref (hR h11 a0 1)], h11) rfl g14 ?_
        refine eb_n 2 (40, [.ref a0, .int a1, .int x2], [.int x2, .int a1, .ref (hR h11 a0 1)], h11) (rfl) ?_
        obtain ⟨g15, e⟩ := gd_some e
        obtain ⟨h16, eh16, e⟩ := bv_some e
        refine eb_cg (p := hT h11 (hR h11 a0 1) = 2) rfl g15 (f_Orders_add_ev d (Nat.le_trans (by decide) hd) eh16) ?_
        show Eb _ 170 (43, [.ref a0, .int a1, .int x2], [], h16) _ _
        refine eb_n 1 (44, [.ref a0, .int a1, .int x2], [.int (nI 1)], h16) (rfl) ?_
        rw [(sp_inj e).1, (sp_inj e).2]
        exact eb_rg (p := nrm 3 (nI 1)) rfl nrm_31
      · replace e := ite_f c13 e
        refine eb_n 1 (33, [.ref a0, .int a1, .int x2], [.int (nI 0)], h11) (rfl) ?_
        rw [(sp_inj e).1, (sp_inj e).2]
        exact eb_rg (p := nrm 3 (nI 0)) rfl nrm_30

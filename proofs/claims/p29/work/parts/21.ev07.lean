/-! THEIR ANSWERS ARE RUNS (written by wip/p29/gen_sh.py) -/
set_option maxRecDepth 100000 in
set_option maxHeartbeats 4000000 in
theorem f_Law_law_b937_ev {h' : AH} {r : Int32} (d : Nat) (hd : 68 ≤ d) (k28 : AH → Nat → Nat → Nat → Int32 → Option (AH × Int32)) (k937 : AH → Nat → Nat → Nat → Int32 → Nat → Int32 → Option (AH × Int32)) (hk28 : ∀ (h : AH) (a0 : Nat) (a1 : Nat) (a2 : Nat) (a3 : Int32)  (d4 : Value) (d5 : Value) (d6 : Value) (d7 : Value) (d8 : Value) (d9 : Value) (d10 : Value) (d11 : Value) (d12 : Value) (d13 : Value) (d14 : Value), k28 h a0 a1 a2 a3 = some (h', r) → Eb (Ev tb mL d) 0 (28, [.ref a0, .ref a1, .ref a2, .int a3, d4, d5, d6, d7, d8, d9, d10, d11, d12, d13, d14], [], h) h' (some (.int r))) (hk937 : ∀ (h : AH) (a0 : Nat) (a1 : Nat) (a2 : Nat) (a3 : Int32) (a10 : Nat) (a13 : Int32)  (d4 : Value) (d5 : Value) (d6 : Value) (d7 : Value) (d8 : Value) (d9 : Value) (d11 : Value) (d12 : Value) (d14 : Value), k937 h a0 a1 a2 a3 a10 a13 = some (h', r) → Eb (Ev tb mL d) 0 (937, [.ref a0, .ref a1, .ref a2, .int a3, d4, d5, d6, d7, d8, d9, .ref a10, d11, d12, .int a13, d14], [], h) h' (some (.int r)))  (h : AH) (a0 : Nat) (a1 : Nat) (a2 : Nat) (a3 : Int32) (a10 : Nat) (a13 : Int32)  (d4 : Value) (d5 : Value) (d6 : Value) (d7 : Value) (d8 : Value) (d9 : Value) (d11 : Value) (d12 : Value) (d14 : Value) (e : f_Law_law_b937 k28 k937 h a0 a1 a2 a3 a10 a13 = some (h', r)) : Eb (Ev tb mL d) 0 (937, [.ref a0, .ref a1, .ref a2, .int a3, d4, d5, d6, d7, d8, d9, .ref a10, d11, d12, .int a13, d14], [], h) h' (some (.int r)) := by
  unfold f_Law_law_b937 at e
  refine eb_n 2 (941, [.ref a0, .ref a1, .ref a2, .int a3, d4, d5, d6, d7, d8, d9, .ref a10, d11, d12, .int a13, d14], [.int (nI 13), .int a13], h) (rfl) ?_
  refine eb_b (c := (nI 13) ≤ a13) (966, [.ref a0, .ref a1, .ref a2, .int a3, d4, d5, d6, d7, d8, d9, .ref a10, d11, d12, .int a13, d14], [], h) (944, [.ref a0, .ref a1, .ref a2, .int a3, d4, d5, d6, d7, d8, d9, .ref a10, d11, d12, .int a13, d14], [], h) rfl (fun c1 => ?_) (fun c1 => ?_)
  · replace e := ite_t c1 e
    obtain ⟨x2, hx2, e⟩ := lq_some e
    refine eb_n 1 (969, [.ref a0, .ref a1, .ref a2, .int x2, d4, d5, d6, d7, d8, d9, .ref a10, d11, d12, .int a13, d14], [], h) (by subst hx2; rfl) ?_
    refine eb_n 1 (28, [.ref a0, .ref a1, .ref a2, .int x2, d4, d5, d6, d7, d8, d9, .ref a10, d11, d12, .int a13, d14], [], h) (rfl) ?_
    exact hk28 _ _ _ _ _ _ _ _ _ _ _ _ _ _ _ _ e
  · replace e := ite_f c1 e
    refine eb_n 2 (947, [.ref a0, .ref a1, .ref a2, .int a3, d4, d5, d6, d7, d8, d9, .ref a10, d11, d12, .int a13, d14], [.int a13, .ref a1], h) (rfl) ?_
    obtain ⟨g3, e⟩ := gd_some e
    obtain ⟨h4, r5, eh4, e⟩ := bn_some e
    refine eb_cg (p := hT h a1 = 1) rfl g3 (f_QuillBoats_count_ev d (Nat.le_trans (by decide) hd) eh4) ?_
    show Eb _ 0 (950, [.ref a0, .ref a1, .ref a2, .int a3, d4, d5, d6, d7, d8, d9, .ref a10, d11, d12, .int a13, d14], [.int r5], h4) _ _
    refine eb_n 2 (954, [.ref a0, .ref a1, .ref a2, .int a3, d4, d5, d6, d7, d8, d9, .ref a10, d11, d12, .int a13, d14], [.int a13, .ref a10, .int r5], h4) (rfl) ?_
    obtain ⟨g6, e⟩ := gd_some e
    refine eb_g (p := hT h4 a10 = 101 ∧ inb a13 (hL h4 a10)) (955, [.ref a0, .ref a1, .ref a2, .int a3, d4, d5, d6, d7, d8, d9, .ref a10, d11, d12, .int a13, d14], [.int (hI h4 a10 (ix a13)), .int r5], h4) rfl g6 ?_
    refine eb_b (c := r5 = (hI h4 a10 (ix a13))) (960, [.ref a0, .ref a1, .ref a2, .int a3, d4, d5, d6, d7, d8, d9, .ref a10, d11, d12, .int a13, d14], [], h4) (958, [.ref a0, .ref a1, .ref a2, .int a3, d4, d5, d6, d7, d8, d9, .ref a10, d11, d12, .int a13, d14], [], h4) rfl (fun c7 => ?_) (fun c7 => ?_)
    · replace e := ite_t c7 e
      obtain ⟨x8, hx8, e⟩ := lq_some e
      refine eb_n 1 (963, [.ref a0, .ref a1, .ref a2, .int a3, d4, d5, d6, d7, d8, d9, .ref a10, d11, d12, .int x8, d14], [], h4) (by subst hx8; rfl) ?_
      refine eb_n 1 (937, [.ref a0, .ref a1, .ref a2, .int a3, d4, d5, d6, d7, d8, d9, .ref a10, d11, d12, .int x8, d14], [], h4) (rfl) ?_
      exact hk937 _ _ _ _ _ _ _ _ _ _ _ _ _ _ _ _ e
    · replace e := ite_f c7 e
      refine eb_n 1 (959, [.ref a0, .ref a1, .ref a2, .int a3, d4, d5, d6, d7, d8, d9, .ref a10, d11, d12, .int a13, d14], [.int (nI 0)], h4) (rfl) ?_
      rw [(sp_inj e).1, (sp_inj e).2]
      exact eb_rg (p := nrm 3 (nI 0)) rfl nrm_30
set_option maxRecDepth 100000 in
set_option maxHeartbeats 4000000 in
theorem f_Law_law_l937_ev {h' : AH} {r : Int32} (d : Nat) (hd : 68 ≤ d) (k28 : AH → Nat → Nat → Nat → Int32 → Option (AH × Int32)) (hk28 : ∀ (h : AH) (a0 : Nat) (a1 : Nat) (a2 : Nat) (a3 : Int32)  (d4 : Value) (d5 : Value) (d6 : Value) (d7 : Value) (d8 : Value) (d9 : Value) (d10 : Value) (d11 : Value) (d12 : Value) (d13 : Value) (d14 : Value), k28 h a0 a1 a2 a3 = some (h', r) → Eb (Ev tb mL d) 0 (28, [.ref a0, .ref a1, .ref a2, .int a3, d4, d5, d6, d7, d8, d9, d10, d11, d12, d13, d14], [], h) h' (some (.int r)))  : ∀ (n : Nat) (h : AH) (a0 : Nat) (a1 : Nat) (a2 : Nat) (a3 : Int32) (a10 : Nat) (a13 : Int32)  (d4 : Value) (d5 : Value) (d6 : Value) (d7 : Value) (d8 : Value) (d9 : Value) (d11 : Value) (d12 : Value) (d14 : Value) (_ : f_Law_law_l937 k28 n h a0 a1 a2 a3 a10 a13 = some (h', r)), Eb (Ev tb mL d) 0 (937, [.ref a0, .ref a1, .ref a2, .int a3, d4, d5, d6, d7, d8, d9, .ref a10, d11, d12, .int a13, d14], [], h) h' (some (.int r)) := by
  intro n
  induction n with
  | zero => intro h a0 a1 a2 a3 a10 a13 d4 d5 d6 d7 d8 d9 d11 d12 d14 e; exact nomatch e
  | succ n ih =>
    intro h a0 a1 a2 a3 a10 a13 d4 d5 d6 d7 d8 d9 d11 d12 d14 e
    exact f_Law_law_b937_ev d hd k28 _ hk28 (fun h a0 a1 a2 a3 a10 a13 d4 d5 d6 d7 d8 d9 d11 d12 d14 e => ih h a0 a1 a2 a3 a10 a13 d4 d5 d6 d7 d8 d9 d11 d12 d14 e) h a0 a1 a2 a3 a10 a13 d4 d5 d6 d7 d8 d9 d11 d12 d14 e
set_option maxRecDepth 100000 in
set_option maxHeartbeats 4000000 in
theorem f_Law_law_b843_ev {h' : AH} {r : Int32} (d : Nat) (hd : 68 ≤ d) (k28 : AH → Nat → Nat → Nat → Int32 → Option (AH × Int32)) (k843 : AH → Nat → Nat → Nat → Int32 → Nat → Int32 → Option (AH × Int32)) (hk28 : ∀ (h : AH) (a0 : Nat) (a1 : Nat) (a2 : Nat) (a3 : Int32)  (d4 : Value) (d5 : Value) (d6 : Value) (d7 : Value) (d8 : Value) (d9 : Value) (d10 : Value) (d11 : Value) (d12 : Value) (d13 : Value) (d14 : Value), k28 h a0 a1 a2 a3 = some (h', r) → Eb (Ev tb mL d) 0 (28, [.ref a0, .ref a1, .ref a2, .int a3, d4, d5, d6, d7, d8, d9, d10, d11, d12, d13, d14], [], h) h' (some (.int r))) (hk843 : ∀ (h : AH) (a0 : Nat) (a1 : Nat) (a2 : Nat) (a3 : Int32) (a10 : Nat) (a11 : Int32)  (d4 : Value) (d5 : Value) (d6 : Value) (d7 : Value) (d8 : Value) (d9 : Value) (d12 : Value) (d13 : Value) (d14 : Value), k843 h a0 a1 a2 a3 a10 a11 = some (h', r) → Eb (Ev tb mL d) 0 (843, [.ref a0, .ref a1, .ref a2, .int a3, d4, d5, d6, d7, d8, d9, .ref a10, .int a11, d12, d13, d14], [], h) h' (some (.int r)))  (h : AH) (a0 : Nat) (a1 : Nat) (a2 : Nat) (a3 : Int32) (a10 : Nat) (a11 : Int32)  (d4 : Value) (d5 : Value) (d6 : Value) (d7 : Value) (d8 : Value) (d9 : Value) (d12 : Value) (d13 : Value) (d14 : Value) (e : f_Law_law_b843 k28 k843 h a0 a1 a2 a3 a10 a11 = some (h', r)) : Eb (Ev tb mL d) 0 (843, [.ref a0, .ref a1, .ref a2, .int a3, d4, d5, d6, d7, d8, d9, .ref a10, .int a11, d12, d13, d14], [], h) h' (some (.int r)) := by
  unfold f_Law_law_b843 at e
  refine eb_n 2 (847, [.ref a0, .ref a1, .ref a2, .int a3, d4, d5, d6, d7, d8, d9, .ref a10, .int a11, d12, d13, d14], [.int (nI 13), .int a11], h) (rfl) ?_
  refine eb_b (c := (nI 13) ≤ a11) (868, [.ref a0, .ref a1, .ref a2, .int a3, d4, d5, d6, d7, d8, d9, .ref a10, .int a11, d12, d13, d14], [], h) (850, [.ref a0, .ref a1, .ref a2, .int a3, d4, d5, d6, d7, d8, d9, .ref a10, .int a11, d12, d13, d14], [], h) rfl (fun c1 => ?_) (fun c1 => ?_)
  · replace e := ite_t c1 e
    refine eb_n 2 (871, [.ref a0, .ref a1, .ref a2, .int a3, d4, d5, d6, d7, d8, d9, .ref a10, .int a11, d12, d13, d14], [.int (nI 10), .ref a1], h) (rfl) ?_
    obtain ⟨g2, e⟩ := gd_some e
    obtain ⟨h3, r4, eh3, e⟩ := bn_some e
    refine eb_cg (p := hT h a1 = 1) rfl g2 (f_QuillBoats_count_ev d (Nat.le_trans (by decide) hd) eh3) ?_
    show Eb _ 0 (874, [.ref a0, .ref a1, .ref a2, .int a3, d4, d5, d6, d7, d8, d9, .ref a10, .int a11, d12, d13, d14], [.int r4], h3) _ _
    refine eb_n 3 (878, [.ref a0, .ref a1, .ref a2, .int a3, d4, d5, d6, d7, d8, d9, .ref a10, .int r4, d12, d13, d14], [.int (nI 1), .ref a1], h3) (rfl) ?_
    obtain ⟨g5, e⟩ := gd_some e
    obtain ⟨h6, r7, eh6, e⟩ := bn_some e
    refine eb_cg (p := hT h3 a1 = 1) rfl g5 (f_QuillBoats_pass_ev d (Nat.le_trans (by decide) hd) eh6) ?_
    show Eb _ 0 (881, [.ref a0, .ref a1, .ref a2, .int a3, d4, d5, d6, d7, d8, d9, .ref a10, .int r4, d12, d13, d14], [.int r7], h6) _ _
    refine eb_n 2 (884, [.ref a0, .ref a1, .ref a2, .int a3, d4, d5, d6, d7, d8, d9, .ref a10, .int r4, .int r7, d13, d14], [.ref a2], h6) (rfl) ?_
    obtain ⟨g8, e⟩ := gd_some e
    obtain ⟨h9, eh9, e⟩ := bv_some e
    refine eb_cg (p := hT h6 a2 = 13) rfl g8 (f_Sim_pass_ev d (Nat.le_trans (by decide) hd) eh9) ?_
    show Eb _ 0 (887, [.ref a0, .ref a1, .ref a2, .int a3, d4, d5, d6, d7, d8, d9, .ref a10, .int r4, .int r7, d13, d14], [], h9) _ _
    refine eb_n 2 (889, [.ref a0, .ref a1, .ref a2, .int a3, d4, d5, d6, d7, d8, d9, .ref a10, .int r4, .int r7, d13, d14], [.int (nI 1), .ref a1], h9) (rfl) ?_
    obtain ⟨g10, e⟩ := gd_some e
    obtain ⟨h11, r12, eh11, e⟩ := bn_some e
    refine eb_cg (p := hT h9 a1 = 1) rfl g10 (f_QuillBoats_count_ev d (Nat.le_trans (by decide) hd) eh11) ?_
    show Eb _ 0 (892, [.ref a0, .ref a1, .ref a2, .int a3, d4, d5, d6, d7, d8, d9, .ref a10, .int r4, .int r7, d13, d14], [.int r12], h11) _ _
    refine eb_n 2 (895, [.ref a0, .ref a1, .ref a2, .int a3, d4, d5, d6, d7, d8, d9, .ref a10, .int r4, .int r7, d13, d14], [.int (nI 1), .ref a10, .int r12], h11) (rfl) ?_
    obtain ⟨g13, e⟩ := gd_some e
    refine eb_g (p := hT h11 a10 = 101 ∧ inb (nI 1) (hL h11 a10)) (896, [.ref a0, .ref a1, .ref a2, .int a3, d4, d5, d6, d7, d8, d9, .ref a10, .int r4, .int r7, d13, d14], [.int (hI h11 a10 (ix (nI 1))), .int r12], h11) rfl g13 ?_
    refine eb_b (c := ¬ r12 = (hI h11 a10 (ix (nI 1)))) (931, [.ref a0, .ref a1, .ref a2, .int a3, d4, d5, d6, d7, d8, d9, .ref a10, .int r4, .int r7, d13, d14], [], h11) (899, [.ref a0, .ref a1, .ref a2, .int a3, d4, d5, d6, d7, d8, d9, .ref a10, .int r4, .int r7, d13, d14], [], h11) rfl (fun c14 => ?_) (fun c14 => ?_)
    · replace e := ite_t c14 e
      refine eb_n 1 (932, [.ref a0, .ref a1, .ref a2, .int a3, d4, d5, d6, d7, d8, d9, .ref a10, .int r4, .int r7, d13, d14], [.int (nI 0)], h11) (rfl) ?_
      rw [(sp_inj e).1, (sp_inj e).2]
      exact eb_rg (p := nrm 3 (nI 0)) rfl nrm_30
    · replace e := ite_f c14 e
      refine eb_n 2 (902, [.ref a0, .ref a1, .ref a2, .int a3, d4, d5, d6, d7, d8, d9, .ref a10, .int r4, .int r7, d13, d14], [.int (nI 10), .ref a1], h11) (rfl) ?_
      obtain ⟨g15, e⟩ := gd_some e
      obtain ⟨h16, r17, eh16, e⟩ := bn_some e
      refine eb_cg (p := hT h11 a1 = 1) rfl g15 (f_QuillBoats_count_ev d (Nat.le_trans (by decide) hd) eh16) ?_
      show Eb _ 0 (905, [.ref a0, .ref a1, .ref a2, .int a3, d4, d5, d6, d7, d8, d9, .ref a10, .int r4, .int r7, d13, d14], [.int r17], h16) _ _
      refine eb_n 3 (910, [.ref a0, .ref a1, .ref a2, .int a3, d4, d5, d6, d7, d8, d9, .ref a10, .int r4, .int r7, d13, d14], [.int (r4 + r7), .int r17], h16) (rfl) ?_
      refine eb_b (c := ¬ r17 = (r4 + r7)) (931, [.ref a0, .ref a1, .ref a2, .int a3, d4, d5, d6, d7, d8, d9, .ref a10, .int r4, .int r7, d13, d14], [], h16) (913, [.ref a0, .ref a1, .ref a2, .int a3, d4, d5, d6, d7, d8, d9, .ref a10, .int r4, .int r7, d13, d14], [], h16) rfl (fun c18 => ?_) (fun c18 => ?_)
      · replace e := ite_t c18 e
        refine eb_n 1 (932, [.ref a0, .ref a1, .ref a2, .int a3, d4, d5, d6, d7, d8, d9, .ref a10, .int r4, .int r7, d13, d14], [.int (nI 0)], h16) (rfl) ?_
        rw [(sp_inj e).1, (sp_inj e).2]
        exact eb_rg (p := nrm 3 (nI 0)) rfl nrm_30
      · replace e := ite_f c18 e
        refine eb_n 2 (915, [.ref a0, .ref a1, .ref a2, .int a3, d4, d5, d6, d7, d8, d9, .ref a10, .int r4, .int r7, d13, d14], [.int (nI 1), .ref a1], h16) (rfl) ?_
        obtain ⟨g19, e⟩ := gd_some e
        obtain ⟨h20, r21, eh20, e⟩ := bn_some e
        refine eb_cg (p := hT h16 a1 = 1) rfl g19 (f_QuillBoats_count_ev d (Nat.le_trans (by decide) hd) eh20) ?_
        show Eb _ 0 (918, [.ref a0, .ref a1, .ref a2, .int a3, d4, d5, d6, d7, d8, d9, .ref a10, .int r4, .int r7, d13, d14], [.int r21], h20) _ _
        refine eb_b (c := r21 < 0) (931, [.ref a0, .ref a1, .ref a2, .int a3, d4, d5, d6, d7, d8, d9, .ref a10, .int r4, .int r7, d13, d14], [], h20) (921, [.ref a0, .ref a1, .ref a2, .int a3, d4, d5, d6, d7, d8, d9, .ref a10, .int r4, .int r7, d13, d14], [], h20) rfl (fun c22 => ?_) (fun c22 => ?_)
        · replace e := ite_t c22 e
          refine eb_n 1 (932, [.ref a0, .ref a1, .ref a2, .int a3, d4, d5, d6, d7, d8, d9, .ref a10, .int r4, .int r7, d13, d14], [.int (nI 0)], h20) (rfl) ?_
          rw [(sp_inj e).1, (sp_inj e).2]
          exact eb_rg (p := nrm 3 (nI 0)) rfl nrm_30
        · replace e := ite_f c22 e
          refine eb_n 2 (923, [.ref a0, .ref a1, .ref a2, .int a3, d4, d5, d6, d7, d8, d9, .ref a10, .int r4, .int r7, d13, d14], [.int (nI 1), .ref a1], h20) (rfl) ?_
          obtain ⟨g23, e⟩ := gd_some e
          obtain ⟨h24, r25, eh24, e⟩ := bn_some e
          refine eb_cg (p := hT h20 a1 = 1) rfl g23 (f_QuillBoats_count_ev d (Nat.le_trans (by decide) hd) eh24) ?_
          show Eb _ 0 (926, [.ref a0, .ref a1, .ref a2, .int a3, d4, d5, d6, d7, d8, d9, .ref a10, .int r4, .int r7, d13, d14], [.int r25], h24) _ _
          refine eb_n 1 (928, [.ref a0, .ref a1, .ref a2, .int a3, d4, d5, d6, d7, d8, d9, .ref a10, .int r4, .int r7, d13, d14], [.int (nI 99999), .int r25], h24) (rfl) ?_
          refine eb_b (c := r25 ≤ (nI 99999)) (933, [.ref a0, .ref a1, .ref a2, .int a3, d4, d5, d6, d7, d8, d9, .ref a10, .int r4, .int r7, d13, d14], [], h24) (931, [.ref a0, .ref a1, .ref a2, .int a3, d4, d5, d6, d7, d8, d9, .ref a10, .int r4, .int r7, d13, d14], [], h24) rfl (fun c26 => ?_) (fun c26 => ?_)
          · replace e := ite_t c26 e
            refine eb_n 2 (937, [.ref a0, .ref a1, .ref a2, .int a3, d4, d5, d6, d7, d8, d9, .ref a10, .int r4, .int r7, .int (nI 7), d14], [], h24) (rfl) ?_
            exact f_Law_law_l937_ev d hd k28 hk28 FU _ _ _ _ _ _ _ _ _ _ _ _ _ _ _ _ e
          · replace e := ite_f c26 e
            refine eb_n 1 (932, [.ref a0, .ref a1, .ref a2, .int a3, d4, d5, d6, d7, d8, d9, .ref a10, .int r4, .int r7, d13, d14], [.int (nI 0)], h24) (rfl) ?_
            rw [(sp_inj e).1, (sp_inj e).2]
            exact eb_rg (p := nrm 3 (nI 0)) rfl nrm_30
  · replace e := ite_f c1 e
    refine eb_n 5 (858, [.ref a0, .ref a1, .ref a2, .int a3, d4, d5, d6, d7, d8, d9, .ref a10, .int a11, d12, d13, d14], [.int a11, .int (nI 1), .ref a1, .int a11, .ref a10], h) (rfl) ?_
    obtain ⟨g27, e⟩ := gd_some e
    obtain ⟨h28, r29, eh28, e⟩ := bn_some e
    refine eb_cg (p := hT h a1 = 1) rfl g27 (f_QuillBoats_foresee_ev d (Nat.le_trans (by decide) hd) eh28) ?_
    show Eb _ 0 (861, [.ref a0, .ref a1, .ref a2, .int a3, d4, d5, d6, d7, d8, d9, .ref a10, .int a11, d12, d13, d14], [.int r29, .int a11, .ref a10], h28) _ _
    obtain ⟨g30, e⟩ := gd_some e
    obtain ⟨h31, eh31, e⟩ := lq_some e
    refine eb_g (p := hT h28 a10 = 101 ∧ inb a11 (hL h28 a10)) (862, [.ref a0, .ref a1, .ref a2, .int a3, d4, d5, d6, d7, d8, d9, .ref a10, .int a11, d12, d13, d14], [], h31) (by rw [eh31]; rfl) g30 ?_
    obtain ⟨x32, hx32, e⟩ := lq_some e
    refine eb_n 1 (865, [.ref a0, .ref a1, .ref a2, .int a3, d4, d5, d6, d7, d8, d9, .ref a10, .int x32, d12, d13, d14], [], h31) (by subst hx32; rfl) ?_
    refine eb_n 1 (843, [.ref a0, .ref a1, .ref a2, .int a3, d4, d5, d6, d7, d8, d9, .ref a10, .int x32, d12, d13, d14], [], h31) (rfl) ?_
    exact hk843 _ _ _ _ _ _ _ _ _ _ _ _ _ _ _ _ e
set_option maxRecDepth 100000 in
set_option maxHeartbeats 4000000 in
theorem f_Law_law_l843_ev {h' : AH} {r : Int32} (d : Nat) (hd : 68 ≤ d) (k28 : AH → Nat → Nat → Nat → Int32 → Option (AH × Int32)) (hk28 : ∀ (h : AH) (a0 : Nat) (a1 : Nat) (a2 : Nat) (a3 : Int32)  (d4 : Value) (d5 : Value) (d6 : Value) (d7 : Value) (d8 : Value) (d9 : Value) (d10 : Value) (d11 : Value) (d12 : Value) (d13 : Value) (d14 : Value), k28 h a0 a1 a2 a3 = some (h', r) → Eb (Ev tb mL d) 0 (28, [.ref a0, .ref a1, .ref a2, .int a3, d4, d5, d6, d7, d8, d9, d10, d11, d12, d13, d14], [], h) h' (some (.int r)))  : ∀ (n : Nat) (h : AH) (a0 : Nat) (a1 : Nat) (a2 : Nat) (a3 : Int32) (a10 : Nat) (a11 : Int32)  (d4 : Value) (d5 : Value) (d6 : Value) (d7 : Value) (d8 : Value) (d9 : Value) (d12 : Value) (d13 : Value) (d14 : Value) (_ : f_Law_law_l843 k28 n h a0 a1 a2 a3 a10 a11 = some (h', r)), Eb (Ev tb mL d) 0 (843, [.ref a0, .ref a1, .ref a2, .int a3, d4, d5, d6, d7, d8, d9, .ref a10, .int a11, d12, d13, d14], [], h) h' (some (.int r)) := by
  intro n
  induction n with
  | zero => intro h a0 a1 a2 a3 a10 a11 d4 d5 d6 d7 d8 d9 d12 d13 d14 e; exact nomatch e
  | succ n ih =>
    intro h a0 a1 a2 a3 a10 a11 d4 d5 d6 d7 d8 d9 d12 d13 d14 e
    exact f_Law_law_b843_ev d hd k28 _ hk28 (fun h a0 a1 a2 a3 a10 a11 d4 d5 d6 d7 d8 d9 d12 d13 d14 e => ih h a0 a1 a2 a3 a10 a11 d4 d5 d6 d7 d8 d9 d12 d13 d14 e) h a0 a1 a2 a3 a10 a11 d4 d5 d6 d7 d8 d9 d12 d13 d14 e
set_option maxRecDepth 100000 in
set_option maxHeartbeats 4000000 in
theorem f_Law_law_b651_ev {h' : AH} {r : Int32} (d : Nat) (hd : 68 ≤ d) (k28 : AH → Nat → Nat → Nat → Int32 → Option (AH × Int32)) (k651 : AH → Nat → Nat → Nat → Int32 → Int32 → Int32 → Int32 → Int32 → Int32 → Int32 → Option (AH × Int32)) (hk28 : ∀ (h : AH) (a0 : Nat) (a1 : Nat) (a2 : Nat) (a3 : Int32)  (d4 : Value) (d5 : Value) (d6 : Value) (d7 : Value) (d8 : Value) (d9 : Value) (d10 : Value) (d11 : Value) (d12 : Value) (d13 : Value) (d14 : Value), k28 h a0 a1 a2 a3 = some (h', r) → Eb (Ev tb mL d) 0 (28, [.ref a0, .ref a1, .ref a2, .int a3, d4, d5, d6, d7, d8, d9, d10, d11, d12, d13, d14], [], h) h' (some (.int r))) (hk651 : ∀ (h : AH) (a0 : Nat) (a1 : Nat) (a2 : Nat) (a3 : Int32) (a5 : Int32) (a6 : Int32) (a7 : Int32) (a8 : Int32) (a9 : Int32) (a10 : Int32)  (d4 : Value) (d11 : Value) (d12 : Value) (d13 : Value) (d14 : Value), k651 h a0 a1 a2 a3 a5 a6 a7 a8 a9 a10 = some (h', r) → Eb (Ev tb mL d) 0 (651, [.ref a0, .ref a1, .ref a2, .int a3, d4, .int a5, .int a6, .int a7, .int a8, .int a9, .int a10, d11, d12, d13, d14], [], h) h' (some (.int r)))  (h : AH) (a0 : Nat) (a1 : Nat) (a2 : Nat) (a3 : Int32) (a5 : Int32) (a6 : Int32) (a7 : Int32) (a8 : Int32) (a9 : Int32) (a10 : Int32)  (d4 : Value) (d11 : Value) (d12 : Value) (d13 : Value) (d14 : Value) (e : f_Law_law_b651 k28 k651 h a0 a1 a2 a3 a5 a6 a7 a8 a9 a10 = some (h', r)) : Eb (Ev tb mL d) 0 (651, [.ref a0, .ref a1, .ref a2, .int a3, d4, .int a5, .int a6, .int a7, .int a8, .int a9, .int a10, d11, d12, d13, d14], [], h) h' (some (.int r)) := by
  unfold f_Law_law_b651 at e
  refine eb_n 2 (654, [.ref a0, .ref a1, .ref a2, .int a3, d4, .int a5, .int a6, .int a7, .int a8, .int a9, .int a10, d11, d12, d13, d14], [.int (nI 4), .int a10], h) (rfl) ?_
  refine eb_b (c := (nI 4) ≤ a10) (766, [.ref a0, .ref a1, .ref a2, .int a3, d4, .int a5, .int a6, .int a7, .int a8, .int a9, .int a10, d11, d12, d13, d14], [], h) (657, [.ref a0, .ref a1, .ref a2, .int a3, d4, .int a5, .int a6, .int a7, .int a8, .int a9, .int a10, d11, d12, d13, d14], [], h) rfl (fun c1 => ?_) (fun c1 => ?_)
  · replace e := ite_t c1 e
    refine eb_n 3 (771, [.ref a0, .ref a1, .ref a2, .int a3, d4, .int a5, .int a6, .int a7, .int a8, .int a9, .int a10, d11, d12, d13, d14], [.int (nI 10), .ref a1, .int a5], h) (rfl) ?_
    obtain ⟨g2, e⟩ := gd_some e
    obtain ⟨h3, r4, eh3, e⟩ := bn_some e
    refine eb_cg (p := hT h a1 = 1) rfl g2 (f_QuillBoats_count_ev d (Nat.le_trans (by decide) hd) eh3) ?_
    show Eb _ 0 (774, [.ref a0, .ref a1, .ref a2, .int a3, d4, .int a5, .int a6, .int a7, .int a8, .int a9, .int a10, d11, d12, d13, d14], [.int r4, .int a5], h3) _ _
    refine eb_b (c := ¬ a5 = r4) (821, [.ref a0, .ref a1, .ref a2, .int a3, d4, .int a5, .int a6, .int a7, .int a8, .int a9, .int a10, d11, d12, d13, d14], [], h3) (777, [.ref a0, .ref a1, .ref a2, .int a3, d4, .int a5, .int a6, .int a7, .int a8, .int a9, .int a10, d11, d12, d13, d14], [], h3) rfl (fun c5 => ?_) (fun c5 => ?_)
    · replace e := ite_t c5 e
      refine eb_n 1 (822, [.ref a0, .ref a1, .ref a2, .int a3, d4, .int a5, .int a6, .int a7, .int a8, .int a9, .int a10, d11, d12, d13, d14], [.int (nI 0)], h3) (rfl) ?_
      rw [(sp_inj e).1, (sp_inj e).2]
      exact eb_rg (p := nrm 3 (nI 0)) rfl nrm_30
    · replace e := ite_f c5 e
      refine eb_n 3 (782, [.ref a0, .ref a1, .ref a2, .int a3, d4, .int a5, .int a6, .int a7, .int a8, .int a9, .int a10, d11, d12, d13, d14], [.int (nI 11), .ref a1, .int a6], h3) (rfl) ?_
      obtain ⟨g6, e⟩ := gd_some e
      obtain ⟨h7, r8, eh7, e⟩ := bn_some e
      refine eb_cg (p := hT h3 a1 = 1) rfl g6 (f_QuillBoats_count_ev d (Nat.le_trans (by decide) hd) eh7) ?_
      show Eb _ 0 (785, [.ref a0, .ref a1, .ref a2, .int a3, d4, .int a5, .int a6, .int a7, .int a8, .int a9, .int a10, d11, d12, d13, d14], [.int r8, .int a6], h7) _ _
      refine eb_b (c := ¬ a6 = r8) (821, [.ref a0, .ref a1, .ref a2, .int a3, d4, .int a5, .int a6, .int a7, .int a8, .int a9, .int a10, d11, d12, d13, d14], [], h7) (788, [.ref a0, .ref a1, .ref a2, .int a3, d4, .int a5, .int a6, .int a7, .int a8, .int a9, .int a10, d11, d12, d13, d14], [], h7) rfl (fun c9 => ?_) (fun c9 => ?_)
      · replace e := ite_t c9 e
        refine eb_n 1 (822, [.ref a0, .ref a1, .ref a2, .int a3, d4, .int a5, .int a6, .int a7, .int a8, .int a9, .int a10, d11, d12, d13, d14], [.int (nI 0)], h7) (rfl) ?_
        rw [(sp_inj e).1, (sp_inj e).2]
        exact eb_rg (p := nrm 3 (nI 0)) rfl nrm_30
      · replace e := ite_f c9 e
        refine eb_n 3 (793, [.ref a0, .ref a1, .ref a2, .int a3, d4, .int a5, .int a6, .int a7, .int a8, .int a9, .int a10, d11, d12, d13, d14], [.int (nI 7), .ref a1, .int a7], h7) (rfl) ?_
        obtain ⟨g10, e⟩ := gd_some e
        obtain ⟨h11, r12, eh11, e⟩ := bn_some e
        refine eb_cg (p := hT h7 a1 = 1) rfl g10 (f_QuillBoats_count_ev d (Nat.le_trans (by decide) hd) eh11) ?_
        show Eb _ 0 (796, [.ref a0, .ref a1, .ref a2, .int a3, d4, .int a5, .int a6, .int a7, .int a8, .int a9, .int a10, d11, d12, d13, d14], [.int r12, .int a7], h11) _ _
        refine eb_b (c := ¬ a7 = r12) (821, [.ref a0, .ref a1, .ref a2, .int a3, d4, .int a5, .int a6, .int a7, .int a8, .int a9, .int a10, d11, d12, d13, d14], [], h11) (799, [.ref a0, .ref a1, .ref a2, .int a3, d4, .int a5, .int a6, .int a7, .int a8, .int a9, .int a10, d11, d12, d13, d14], [], h11) rfl (fun c13 => ?_) (fun c13 => ?_)
        · replace e := ite_t c13 e
          refine eb_n 1 (822, [.ref a0, .ref a1, .ref a2, .int a3, d4, .int a5, .int a6, .int a7, .int a8, .int a9, .int a10, d11, d12, d13, d14], [.int (nI 0)], h11) (rfl) ?_
          rw [(sp_inj e).1, (sp_inj e).2]
          exact eb_rg (p := nrm 3 (nI 0)) rfl nrm_30
        · replace e := ite_f c13 e
          refine eb_n 3 (804, [.ref a0, .ref a1, .ref a2, .int a3, d4, .int a5, .int a6, .int a7, .int a8, .int a9, .int a10, d11, d12, d13, d14], [.int (nI 8), .ref a1, .int a8], h11) (rfl) ?_
          obtain ⟨g14, e⟩ := gd_some e
          obtain ⟨h15, r16, eh15, e⟩ := bn_some e
          refine eb_cg (p := hT h11 a1 = 1) rfl g14 (f_QuillBoats_count_ev d (Nat.le_trans (by decide) hd) eh15) ?_
          show Eb _ 0 (807, [.ref a0, .ref a1, .ref a2, .int a3, d4, .int a5, .int a6, .int a7, .int a8, .int a9, .int a10, d11, d12, d13, d14], [.int r16, .int a8], h15) _ _
          refine eb_b (c := ¬ a8 = r16) (821, [.ref a0, .ref a1, .ref a2, .int a3, d4, .int a5, .int a6, .int a7, .int a8, .int a9, .int a10, d11, d12, d13, d14], [], h15) (810, [.ref a0, .ref a1, .ref a2, .int a3, d4, .int a5, .int a6, .int a7, .int a8, .int a9, .int a10, d11, d12, d13, d14], [], h15) rfl (fun c17 => ?_) (fun c17 => ?_)
          · replace e := ite_t c17 e
            refine eb_n 1 (822, [.ref a0, .ref a1, .ref a2, .int a3, d4, .int a5, .int a6, .int a7, .int a8, .int a9, .int a10, d11, d12, d13, d14], [.int (nI 0)], h15) (rfl) ?_
            rw [(sp_inj e).1, (sp_inj e).2]
            exact eb_rg (p := nrm 3 (nI 0)) rfl nrm_30
          · replace e := ite_f c17 e
            refine eb_n 3 (815, [.ref a0, .ref a1, .ref a2, .int a3, d4, .int a5, .int a6, .int a7, .int a8, .int a9, .int a10, d11, d12, d13, d14], [.int (nI 9), .ref a1, .int a9], h15) (rfl) ?_
            obtain ⟨g18, e⟩ := gd_some e
            obtain ⟨h19, r20, eh19, e⟩ := bn_some e
            refine eb_cg (p := hT h15 a1 = 1) rfl g18 (f_QuillBoats_count_ev d (Nat.le_trans (by decide) hd) eh19) ?_
            show Eb _ 0 (818, [.ref a0, .ref a1, .ref a2, .int a3, d4, .int a5, .int a6, .int a7, .int a8, .int a9, .int a10, d11, d12, d13, d14], [.int r20, .int a9], h19) _ _
            refine eb_b (c := a9 = r20) (823, [.ref a0, .ref a1, .ref a2, .int a3, d4, .int a5, .int a6, .int a7, .int a8, .int a9, .int a10, d11, d12, d13, d14], [], h19) (821, [.ref a0, .ref a1, .ref a2, .int a3, d4, .int a5, .int a6, .int a7, .int a8, .int a9, .int a10, d11, d12, d13, d14], [], h19) rfl (fun c21 => ?_) (fun c21 => ?_)
            · replace e := ite_t c21 e
              refine eb_n 1 (825, [.ref a0, .ref a1, .ref a2, .int a3, d4, .int a5, .int a6, .int a7, .int a8, .int a9, .int a10, d11, d12, d13, d14], [.int (nI 13)], h19) (rfl) ?_
              obtain ⟨h22, eh22, e⟩ := lq_some e
              refine eb_g (p := ¬ (nI 13) < 0 ∧ ix (nI 13) ≤ 65536) (827, [.ref a0, .ref a1, .ref a2, .int a3, d4, .int a5, .int a6, .int a7, .int a8, .int a9, .int a10, d11, d12, d13, d14], [.ref (hN h19)], h22) (by rw [eh22]; rfl) (by decide) ?_
              obtain ⟨x23, hx23, e⟩ := lq_some e
              refine eb_n 1 (829, [.ref a0, .ref a1, .ref a2, .int a3, d4, .int a5, .int a6, .int a7, .int a8, .int a9, .ref x23, d11, d12, d13, d14], [], h22) (by subst hx23; rfl) ?_
              refine eb_n 5 (835, [.ref a0, .ref a1, .ref a2, .int a3, d4, .int a5, .int a6, .int a7, .int a8, .int a9, .ref x23, d11, d12, d13, d14], [.int (nI 1), .int (nI 1), .ref a1, .int (nI 1), .ref x23], h22) (rfl) ?_
              obtain ⟨g24, e⟩ := gd_some e
              obtain ⟨h25, r26, eh25, e⟩ := bn_some e
              refine eb_cg (p := hT h22 a1 = 1) rfl g24 (f_QuillBoats_foresee_ev d (Nat.le_trans (by decide) hd) eh25) ?_
              show Eb _ 0 (838, [.ref a0, .ref a1, .ref a2, .int a3, d4, .int a5, .int a6, .int a7, .int a8, .int a9, .ref x23, d11, d12, d13, d14], [.int r26, .int (nI 1), .ref x23], h25) _ _
              obtain ⟨g27, e⟩ := gd_some e
              obtain ⟨h28, eh28, e⟩ := lq_some e
              refine eb_g (p := hT h25 x23 = 101 ∧ inb (nI 1) (hL h25 x23)) (839, [.ref a0, .ref a1, .ref a2, .int a3, d4, .int a5, .int a6, .int a7, .int a8, .int a9, .ref x23, d11, d12, d13, d14], [], h28) (by rw [eh28]; rfl) g27 ?_
              refine eb_n 2 (843, [.ref a0, .ref a1, .ref a2, .int a3, d4, .int a5, .int a6, .int a7, .int a8, .int a9, .ref x23, .int (nI 7), d12, d13, d14], [], h28) (rfl) ?_
              exact f_Law_law_l843_ev d hd k28 hk28 FU _ _ _ _ _ _ _ _ _ _ _ _ _ _ _ _ e
            · replace e := ite_f c21 e
              refine eb_n 1 (822, [.ref a0, .ref a1, .ref a2, .int a3, d4, .int a5, .int a6, .int a7, .int a8, .int a9, .int a10, d11, d12, d13, d14], [.int (nI 0)], h19) (rfl) ?_
              rw [(sp_inj e).1, (sp_inj e).2]
              exact eb_rg (p := nrm 3 (nI 0)) rfl nrm_30
  · replace e := ite_f c1 e
    refine eb_n 4 (663, [.ref a0, .ref a1, .ref a2, .int a3, d4, .int a5, .int a6, .int a7, .int a8, .int a9, .int a10, d11, d12, d13, d14], [.int (nI 0), .int a10, .ref a1, .int a7], h) (rfl) ?_
    obtain ⟨g29, e⟩ := gd_some e
    obtain ⟨h30, r31, eh30, e⟩ := bn_some e
    refine eb_cg (p := hT h a1 = 1) rfl g29 (f_QuillBoats_grade_ev d (Nat.le_trans (by decide) hd) eh30) ?_
    show Eb _ 0 (666, [.ref a0, .ref a1, .ref a2, .int a3, d4, .int a5, .int a6, .int a7, .int a8, .int a9, .int a10, d11, d12, d13, d14], [.int r31, .int a7], h30) _ _
    obtain ⟨x32, hx32, e⟩ := lq_some e
    refine eb_n 2 (669, [.ref a0, .ref a1, .ref a2, .int a3, d4, .int a5, .int a6, .int x32, .int a8, .int a9, .int a10, d11, d12, d13, d14], [], h30) (by subst hx32; rfl) ?_
    refine eb_n 4 (675, [.ref a0, .ref a1, .ref a2, .int a3, d4, .int a5, .int a6, .int x32, .int a8, .int a9, .int a10, d11, d12, d13, d14], [.int (nI 4), .int a10, .ref a1, .int a6], h30) (rfl) ?_
    obtain ⟨g33, e⟩ := gd_some e
    obtain ⟨h34, r35, eh34, e⟩ := bn_some e
    refine eb_cg (p := hT h30 a1 = 1) rfl g33 (f_QuillBoats_grade_ev d (Nat.le_trans (by decide) hd) eh34) ?_
    show Eb _ 0 (678, [.ref a0, .ref a1, .ref a2, .int a3, d4, .int a5, .int a6, .int x32, .int a8, .int a9, .int a10, d11, d12, d13, d14], [.int r35, .int a6], h34) _ _
    obtain ⟨x36, hx36, e⟩ := lq_some e
    refine eb_n 2 (681, [.ref a0, .ref a1, .ref a2, .int a3, d4, .int a5, .int x36, .int x32, .int a8, .int a9, .int a10, d11, d12, d13, d14], [], h34) (by subst hx36; rfl) ?_
    refine eb_n 3 (685, [.ref a0, .ref a1, .ref a2, .int a3, d4, .int a5, .int x36, .int x32, .int a8, .int a9, .int a10, d11, d12, d13, d14], [.int (nI 2), .int a10, .ref a1], h34) (rfl) ?_
    obtain ⟨g37, e⟩ := gd_some e
    obtain ⟨h38, r39, eh38, e⟩ := bn_some e
    refine eb_cg (p := hT h34 a1 = 1) rfl g37 (f_QuillBoats_grade_ev d (Nat.le_trans (by decide) hd) eh38) ?_
    show Eb _ 0 (688, [.ref a0, .ref a1, .ref a2, .int a3, d4, .int a5, .int x36, .int x32, .int a8, .int a9, .int a10, d11, d12, d13, d14], [.int r39], h38) _ _
    refine eb_b (c := r39 < 0) (758, [.ref a0, .ref a1, .ref a2, .int a3, d4, .int a5, .int x36, .int x32, .int a8, .int a9, .int a10, d11, d12, d13, d14], [], h38) (691, [.ref a0, .ref a1, .ref a2, .int a3, d4, .int a5, .int x36, .int x32, .int a8, .int a9, .int a10, d11, d12, d13, d14], [], h38) rfl (fun c40 => ?_) (fun c40 => ?_)
    · replace e := ite_t c40 e
      refine eb_n 1 (759, [.ref a0, .ref a1, .ref a2, .int a3, d4, .int a5, .int x36, .int x32, .int a8, .int a9, .int a10, d11, d12, d13, d14], [.int (nI 0)], h38) (rfl) ?_
      rw [(sp_inj e).1, (sp_inj e).2]
      exact eb_rg (p := nrm 3 (nI 0)) rfl nrm_30
    · replace e := ite_f c40 e
      refine eb_n 3 (695, [.ref a0, .ref a1, .ref a2, .int a3, d4, .int a5, .int x36, .int x32, .int a8, .int a9, .int a10, d11, d12, d13, d14], [.int (nI 3), .int a10, .ref a1], h38) (rfl) ?_
      obtain ⟨g41, e⟩ := gd_some e
      obtain ⟨h42, r43, eh42, e⟩ := bn_some e
      refine eb_cg (p := hT h38 a1 = 1) rfl g41 (f_QuillBoats_grade_ev d (Nat.le_trans (by decide) hd) eh42) ?_
      show Eb _ 0 (698, [.ref a0, .ref a1, .ref a2, .int a3, d4, .int a5, .int x36, .int x32, .int a8, .int a9, .int a10, d11, d12, d13, d14], [.int r43], h42) _ _
      refine eb_n 4 (703, [.ref a0, .ref a1, .ref a2, .int a3, d4, .int a5, .int x36, .int x32, .int a8, .int a9, .int a10, d11, d12, d13, d14], [.int (nI 1), .int a10, .ref a1, .int (nI 0), .int r43], h42) (rfl) ?_
      obtain ⟨g44, e⟩ := gd_some e
      obtain ⟨h45, r46, eh45, e⟩ := bn_some e
      refine eb_cg (p := hT h42 a1 = 1) rfl g44 (f_QuillBoats_grade_ev d (Nat.le_trans (by decide) hd) eh45) ?_
      show Eb _ 0 (706, [.ref a0, .ref a1, .ref a2, .int a3, d4, .int a5, .int x36, .int x32, .int a8, .int a9, .int a10, d11, d12, d13, d14], [.int r46, .int (nI 0), .int r43], h45) _ _
      refine eb_n 3 (710, [.ref a0, .ref a1, .ref a2, .int a3, d4, .int a5, .int x36, .int x32, .int a8, .int a9, .int a10, d11, d12, d13, d14], [.int (nI 2), .int a10, .ref a1, .int r46, .int (nI 0), .int r43], h45) (rfl) ?_
      obtain ⟨g47, e⟩ := gd_some e
      obtain ⟨h48, r49, eh48, e⟩ := bn_some e
      refine eb_cg (p := hT h45 a1 = 1) rfl g47 (f_QuillBoats_grade_ev d (Nat.le_trans (by decide) hd) eh48) ?_
      show Eb _ 0 (713, [.ref a0, .ref a1, .ref a2, .int a3, d4, .int a5, .int x36, .int x32, .int a8, .int a9, .int a10, d11, d12, d13, d14], [.int r49, .int r46, .int (nI 0), .int r43], h48) _ _
      refine eb_n 1 (714, [.ref a0, .ref a1, .ref a2, .int a3, d4, .int a5, .int x36, .int x32, .int a8, .int a9, .int a10, d11, d12, d13, d14], [.int (nI 4), .int r49, .int r46, .int (nI 0), .int r43], h48) (rfl) ?_
      refine eb_g (p := ¬ (nI 4) = 0) (715, [.ref a0, .ref a1, .ref a2, .int a3, d4, .int a5, .int x36, .int x32, .int a8, .int a9, .int a10, d11, d12, d13, d14], [.int (r49 / (nI 4)), .int r46, .int (nI 0), .int r43], h48) rfl (by decide) ?_
      refine eb_n 1 (716, [.ref a0, .ref a1, .ref a2, .int a3, d4, .int a5, .int x36, .int x32, .int a8, .int a9, .int a10, d11, d12, d13, d14], [.int (r46 - (r49 / (nI 4))), .int (nI 0), .int r43], h48) (rfl) ?_
      obtain ⟨h50, r51, eh50, e⟩ := bn_some e
      refine eb_c rfl (f_Math_max_ev d (Nat.le_trans (by decide) hd) eh50) ?_
      show Eb _ 0 (719, [.ref a0, .ref a1, .ref a2, .int a3, d4, .int a5, .int x36, .int x32, .int a8, .int a9, .int a10, d11, d12, d13, d14], [.int r51, .int r43], h50) _ _
      refine eb_b (c := ¬ r43 = r51) (758, [.ref a0, .ref a1, .ref a2, .int a3, d4, .int a5, .int x36, .int x32, .int a8, .int a9, .int a10, d11, d12, d13, d14], [], h50) (722, [.ref a0, .ref a1, .ref a2, .int a3, d4, .int a5, .int x36, .int x32, .int a8, .int a9, .int a10, d11, d12, d13, d14], [], h50) rfl (fun c52 => ?_) (fun c52 => ?_)
      · replace e := ite_t c52 e
        refine eb_n 1 (759, [.ref a0, .ref a1, .ref a2, .int a3, d4, .int a5, .int x36, .int x32, .int a8, .int a9, .int a10, d11, d12, d13, d14], [.int (nI 0)], h50) (rfl) ?_
        rw [(sp_inj e).1, (sp_inj e).2]
        exact eb_rg (p := nrm 3 (nI 0)) rfl nrm_30
      · replace e := ite_f c52 e
        refine eb_n 3 (726, [.ref a0, .ref a1, .ref a2, .int a3, d4, .int a5, .int x36, .int x32, .int a8, .int a9, .int a10, d11, d12, d13, d14], [.int (nI 1), .int a10, .ref a1], h50) (rfl) ?_
        obtain ⟨g53, e⟩ := gd_some e
        obtain ⟨h54, r55, eh54, e⟩ := bn_some e
        refine eb_cg (p := hT h50 a1 = 1) rfl g53 (f_QuillBoats_worth_ev d (Nat.le_trans (by decide) hd) eh54) ?_
        show Eb _ 0 (729, [.ref a0, .ref a1, .ref a2, .int a3, d4, .int a5, .int x36, .int x32, .int a8, .int a9, .int a10, d11, d12, d13, d14], [.int r55], h54) _ _
        refine eb_n 3 (733, [.ref a0, .ref a1, .ref a2, .int a3, d4, .int a5, .int x36, .int x32, .int a8, .int a9, .int a10, d11, d12, d13, d14], [.int (nI 3), .int a10, .ref a1, .int r55], h54) (rfl) ?_
        obtain ⟨g56, e⟩ := gd_some e
        obtain ⟨h57, r58, eh57, e⟩ := bn_some e
        refine eb_cg (p := hT h54 a1 = 1) rfl g56 (f_QuillBoats_grade_ev d (Nat.le_trans (by decide) hd) eh57) ?_
        show Eb _ 0 (736, [.ref a0, .ref a1, .ref a2, .int a3, d4, .int a5, .int x36, .int x32, .int a8, .int a9, .int a10, d11, d12, d13, d14], [.int r58, .int r55], h57) _ _
        refine eb_b (c := ¬ r55 = r58) (758, [.ref a0, .ref a1, .ref a2, .int a3, d4, .int a5, .int x36, .int x32, .int a8, .int a9, .int a10, d11, d12, d13, d14], [], h57) (739, [.ref a0, .ref a1, .ref a2, .int a3, d4, .int a5, .int x36, .int x32, .int a8, .int a9, .int a10, d11, d12, d13, d14], [], h57) rfl (fun c59 => ?_) (fun c59 => ?_)
        · replace e := ite_t c59 e
          refine eb_n 1 (759, [.ref a0, .ref a1, .ref a2, .int a3, d4, .int a5, .int x36, .int x32, .int a8, .int a9, .int a10, d11, d12, d13, d14], [.int (nI 0)], h57) (rfl) ?_
          rw [(sp_inj e).1, (sp_inj e).2]
          exact eb_rg (p := nrm 3 (nI 0)) rfl nrm_30
        · replace e := ite_f c59 e
          refine eb_n 3 (743, [.ref a0, .ref a1, .ref a2, .int a3, d4, .int a5, .int x36, .int x32, .int a8, .int a9, .int a10, d11, d12, d13, d14], [.int (nI 5), .int a10, .ref a1], h57) (rfl) ?_
          obtain ⟨g60, e⟩ := gd_some e
          obtain ⟨h61, r62, eh61, e⟩ := bn_some e
          refine eb_cg (p := hT h57 a1 = 1) rfl g60 (f_QuillBoats_worth_ev d (Nat.le_trans (by decide) hd) eh61) ?_
          show Eb _ 0 (746, [.ref a0, .ref a1, .ref a2, .int a3, d4, .int a5, .int x36, .int x32, .int a8, .int a9, .int a10, d11, d12, d13, d14], [.int r62], h61) _ _
          refine eb_n 4 (751, [.ref a0, .ref a1, .ref a2, .int a3, d4, .int a5, .int x36, .int x32, .int a8, .int a9, .int a10, d11, d12, d13, d14], [.int (nI 3), .int a10, .ref a1, .int (nI 5), .int r62], h61) (rfl) ?_
          obtain ⟨g63, e⟩ := gd_some e
          obtain ⟨h64, r65, eh64, e⟩ := bn_some e
          refine eb_cg (p := hT h61 a1 = 1) rfl g63 (f_QuillBoats_grade_ev d (Nat.le_trans (by decide) hd) eh64) ?_
          show Eb _ 0 (754, [.ref a0, .ref a1, .ref a2, .int a3, d4, .int a5, .int x36, .int x32, .int a8, .int a9, .int a10, d11, d12, d13, d14], [.int r65, .int (nI 5), .int r62], h64) _ _
          refine eb_n 1 (755, [.ref a0, .ref a1, .ref a2, .int a3, d4, .int a5, .int x36, .int x32, .int a8, .int a9, .int a10, d11, d12, d13, d14], [.int ((nI 5) * r65), .int r62], h64) (rfl) ?_
          refine eb_b (c := r62 ≤ ((nI 5) * r65)) (760, [.ref a0, .ref a1, .ref a2, .int a3, d4, .int a5, .int x36, .int x32, .int a8, .int a9, .int a10, d11, d12, d13, d14], [], h64) (758, [.ref a0, .ref a1, .ref a2, .int a3, d4, .int a5, .int x36, .int x32, .int a8, .int a9, .int a10, d11, d12, d13, d14], [], h64) rfl (fun c66 => ?_) (fun c66 => ?_)
          · replace e := ite_t c66 e
            obtain ⟨x67, hx67, e⟩ := lq_some e
            refine eb_n 1 (763, [.ref a0, .ref a1, .ref a2, .int a3, d4, .int a5, .int x36, .int x32, .int a8, .int a9, .int x67, d11, d12, d13, d14], [], h64) (by subst hx67; rfl) ?_
            refine eb_n 1 (651, [.ref a0, .ref a1, .ref a2, .int a3, d4, .int a5, .int x36, .int x32, .int a8, .int a9, .int x67, d11, d12, d13, d14], [], h64) (rfl) ?_
            exact hk651 _ _ _ _ _ _ _ _ _ _ _ _ _ _ _ _ e
          · replace e := ite_f c66 e
            refine eb_n 1 (759, [.ref a0, .ref a1, .ref a2, .int a3, d4, .int a5, .int x36, .int x32, .int a8, .int a9, .int a10, d11, d12, d13, d14], [.int (nI 0)], h64) (rfl) ?_
            rw [(sp_inj e).1, (sp_inj e).2]
            exact eb_rg (p := nrm 3 (nI 0)) rfl nrm_30
set_option maxRecDepth 100000 in
set_option maxHeartbeats 4000000 in
theorem f_Law_law_l651_ev {h' : AH} {r : Int32} (d : Nat) (hd : 68 ≤ d) (k28 : AH → Nat → Nat → Nat → Int32 → Option (AH × Int32)) (hk28 : ∀ (h : AH) (a0 : Nat) (a1 : Nat) (a2 : Nat) (a3 : Int32)  (d4 : Value) (d5 : Value) (d6 : Value) (d7 : Value) (d8 : Value) (d9 : Value) (d10 : Value) (d11 : Value) (d12 : Value) (d13 : Value) (d14 : Value), k28 h a0 a1 a2 a3 = some (h', r) → Eb (Ev tb mL d) 0 (28, [.ref a0, .ref a1, .ref a2, .int a3, d4, d5, d6, d7, d8, d9, d10, d11, d12, d13, d14], [], h) h' (some (.int r)))  : ∀ (n : Nat) (h : AH) (a0 : Nat) (a1 : Nat) (a2 : Nat) (a3 : Int32) (a5 : Int32) (a6 : Int32) (a7 : Int32) (a8 : Int32) (a9 : Int32) (a10 : Int32)  (d4 : Value) (d11 : Value) (d12 : Value) (d13 : Value) (d14 : Value) (_ : f_Law_law_l651 k28 n h a0 a1 a2 a3 a5 a6 a7 a8 a9 a10 = some (h', r)), Eb (Ev tb mL d) 0 (651, [.ref a0, .ref a1, .ref a2, .int a3, d4, .int a5, .int a6, .int a7, .int a8, .int a9, .int a10, d11, d12, d13, d14], [], h) h' (some (.int r)) := by
  intro n
  induction n with
  | zero => intro h a0 a1 a2 a3 a5 a6 a7 a8 a9 a10 d4 d11 d12 d13 d14 e; exact nomatch e
  | succ n ih =>
    intro h a0 a1 a2 a3 a5 a6 a7 a8 a9 a10 d4 d11 d12 d13 d14 e
    exact f_Law_law_b651_ev d hd k28 _ hk28 (fun h a0 a1 a2 a3 a5 a6 a7 a8 a9 a10 d4 d11 d12 d13 d14 e => ih h a0 a1 a2 a3 a5 a6 a7 a8 a9 a10 d4 d11 d12 d13 d14 e) h a0 a1 a2 a3 a5 a6 a7 a8 a9 a10 d4 d11 d12 d13 d14 e
set_option maxRecDepth 100000 in
set_option maxHeartbeats 4000000 in
theorem f_Law_law_b637_ev {h' : AH} {r : Int32} (d : Nat) (hd : 68 ≤ d) (k28 : AH → Nat → Nat → Nat → Int32 → Option (AH × Int32)) (k468 : AH → Nat → Nat → Nat → Int32 → Int32 → Int32 → Int32 → Int32 → Int32 → Int32 → Option (AH × Int32)) (hk28 : ∀ (h : AH) (a0 : Nat) (a1 : Nat) (a2 : Nat) (a3 : Int32)  (d4 : Value) (d5 : Value) (d6 : Value) (d7 : Value) (d8 : Value) (d9 : Value) (d10 : Value) (d11 : Value) (d12 : Value) (d13 : Value) (d14 : Value), k28 h a0 a1 a2 a3 = some (h', r) → Eb (Ev tb mL d) 0 (28, [.ref a0, .ref a1, .ref a2, .int a3, d4, d5, d6, d7, d8, d9, d10, d11, d12, d13, d14], [], h) h' (some (.int r))) (hk468 : ∀ (h : AH) (a0 : Nat) (a1 : Nat) (a2 : Nat) (a3 : Int32) (a5 : Int32) (a6 : Int32) (a7 : Int32) (a8 : Int32) (a9 : Int32) (a10 : Int32)  (d4 : Value) (d11 : Value) (d12 : Value) (d13 : Value) (d14 : Value), k468 h a0 a1 a2 a3 a5 a6 a7 a8 a9 a10 = some (h', r) → Eb (Ev tb mL d) 0 (468, [.ref a0, .ref a1, .ref a2, .int a3, d4, .int a5, .int a6, .int a7, .int a8, .int a9, .int a10, d11, d12, d13, d14], [], h) h' (some (.int r)))  (h : AH) (a0 : Nat) (a1 : Nat) (a2 : Nat) (a3 : Int32) (a5 : Int32) (a6 : Int32) (a7 : Int32) (a8 : Int32) (a9 : Int32) (a10 : Int32) (s0 : Int32) (s1 : Int32) (d4 : Value) (d11 : Value) (d12 : Value) (d13 : Value) (d14 : Value) (e : f_Law_law_b637 k28 k468 h a0 a1 a2 a3 a5 a6 a7 a8 a9 a10 s0 s1 = some (h', r)) : Eb (Ev tb mL d) 0 (637, [.ref a0, .ref a1, .ref a2, .int a3, d4, .int a5, .int a6, .int a7, .int a8, .int a9, .int a10, d11, d12, d13, d14], [.int s1, .int s0], h) h' (some (.int r)) := by
  unfold f_Law_law_b637 at e
  refine eb_b (c := s0 = s1) (642, [.ref a0, .ref a1, .ref a2, .int a3, d4, .int a5, .int a6, .int a7, .int a8, .int a9, .int a10, d11, d12, d13, d14], [], h) (640, [.ref a0, .ref a1, .ref a2, .int a3, d4, .int a5, .int a6, .int a7, .int a8, .int a9, .int a10, d11, d12, d13, d14], [], h) rfl (fun c1 => ?_) (fun c1 => ?_)
  · replace e := ite_t c1 e
    obtain ⟨x2, hx2, e⟩ := lq_some e
    refine eb_n 1 (645, [.ref a0, .ref a1, .ref a2, .int a3, d4, .int a5, .int a6, .int a7, .int a8, .int a9, .int x2, d11, d12, d13, d14], [], h) (by subst hx2; rfl) ?_
    refine eb_n 1 (468, [.ref a0, .ref a1, .ref a2, .int a3, d4, .int a5, .int a6, .int a7, .int a8, .int a9, .int x2, d11, d12, d13, d14], [], h) (rfl) ?_
    exact hk468 _ _ _ _ _ _ _ _ _ _ _ _ _ _ _ _ e
  · replace e := ite_f c1 e
    refine eb_n 1 (641, [.ref a0, .ref a1, .ref a2, .int a3, d4, .int a5, .int a6, .int a7, .int a8, .int a9, .int a10, d11, d12, d13, d14], [.int (nI 0)], h) (rfl) ?_
    rw [(sp_inj e).1, (sp_inj e).2]
    exact eb_rg (p := nrm 3 (nI 0)) rfl nrm_30
set_option maxRecDepth 100000 in
set_option maxHeartbeats 4000000 in
theorem f_Law_law_b623_ev {h' : AH} {r : Int32} (d : Nat) (hd : 68 ≤ d) (k28 : AH → Nat → Nat → Nat → Int32 → Option (AH × Int32)) (k468 : AH → Nat → Nat → Nat → Int32 → Int32 → Int32 → Int32 → Int32 → Int32 → Int32 → Option (AH × Int32)) (hk28 : ∀ (h : AH) (a0 : Nat) (a1 : Nat) (a2 : Nat) (a3 : Int32)  (d4 : Value) (d5 : Value) (d6 : Value) (d7 : Value) (d8 : Value) (d9 : Value) (d10 : Value) (d11 : Value) (d12 : Value) (d13 : Value) (d14 : Value), k28 h a0 a1 a2 a3 = some (h', r) → Eb (Ev tb mL d) 0 (28, [.ref a0, .ref a1, .ref a2, .int a3, d4, d5, d6, d7, d8, d9, d10, d11, d12, d13, d14], [], h) h' (some (.int r))) (hk468 : ∀ (h : AH) (a0 : Nat) (a1 : Nat) (a2 : Nat) (a3 : Int32) (a5 : Int32) (a6 : Int32) (a7 : Int32) (a8 : Int32) (a9 : Int32) (a10 : Int32)  (d4 : Value) (d11 : Value) (d12 : Value) (d13 : Value) (d14 : Value), k468 h a0 a1 a2 a3 a5 a6 a7 a8 a9 a10 = some (h', r) → Eb (Ev tb mL d) 0 (468, [.ref a0, .ref a1, .ref a2, .int a3, d4, .int a5, .int a6, .int a7, .int a8, .int a9, .int a10, d11, d12, d13, d14], [], h) h' (some (.int r)))  (h : AH) (a0 : Nat) (a1 : Nat) (a2 : Nat) (a3 : Int32) (a5 : Int32) (a6 : Int32) (a7 : Int32) (a8 : Int32) (a9 : Int32) (a10 : Int32) (s0 : Int32) (d4 : Value) (d11 : Value) (d12 : Value) (d13 : Value) (d14 : Value) (e : f_Law_law_b623 k28 k468 h a0 a1 a2 a3 a5 a6 a7 a8 a9 a10 s0 = some (h', r)) : Eb (Ev tb mL d) 0 (623, [.ref a0, .ref a1, .ref a2, .int a3, d4, .int a5, .int a6, .int a7, .int a8, .int a9, .int a10, d11, d12, d13, d14], [.int s0], h) h' (some (.int r)) := by
  unfold f_Law_law_b623 at e
  refine eb_n 2 (626, [.ref a0, .ref a1, .ref a2, .int a3, d4, .int a5, .int a6, .int a7, .int a8, .int a9, .int a10, d11, d12, d13, d14], [.int a10, .ref a1, .int s0], h) (rfl) ?_
  obtain ⟨g1, e⟩ := gd_some e
  obtain ⟨h2, r3, eh2, e⟩ := bn_some e
  refine eb_cg (p := hT h a1 = 1) rfl g1 (f_QuillBoats_until_ev d (Nat.le_trans (by decide) hd) eh2) ?_
  show Eb _ 0 (629, [.ref a0, .ref a1, .ref a2, .int a3, d4, .int a5, .int a6, .int a7, .int a8, .int a9, .int a10, d11, d12, d13, d14], [.int r3, .int s0], h2) _ _
  refine eb_b (c := ¬ r3 = 0) (636, [.ref a0, .ref a1, .ref a2, .int a3, d4, .int a5, .int a6, .int a7, .int a8, .int a9, .int a10, d11, d12, d13, d14], [.int s0], h2) (632, [.ref a0, .ref a1, .ref a2, .int a3, d4, .int a5, .int a6, .int a7, .int a8, .int a9, .int a10, d11, d12, d13, d14], [.int s0], h2) rfl (fun c4 => ?_) (fun c4 => ?_)
  · replace e := ite_t c4 e
    refine eb_n 1 (637, [.ref a0, .ref a1, .ref a2, .int a3, d4, .int a5, .int a6, .int a7, .int a8, .int a9, .int a10, d11, d12, d13, d14], [.int (nI 0), .int s0], h2) (rfl) ?_
    exact f_Law_law_b637_ev d hd k28 k468 hk28 hk468 _ _ _ _ _ _ _ _ _ _ _ _ _ _ _ _ _ _ e
  · replace e := ite_f c4 e
    refine eb_n 2 (637, [.ref a0, .ref a1, .ref a2, .int a3, d4, .int a5, .int a6, .int a7, .int a8, .int a9, .int a10, d11, d12, d13, d14], [.int (nI 1), .int s0], h2) (rfl) ?_
    exact f_Law_law_b637_ev d hd k28 k468 hk28 hk468 _ _ _ _ _ _ _ _ _ _ _ _ _ _ _ _ _ _ e
set_option maxRecDepth 100000 in
set_option maxHeartbeats 4000000 in
theorem f_Law_law_b610_ev {h' : AH} {r : Int32} (d : Nat) (hd : 68 ≤ d) (k28 : AH → Nat → Nat → Nat → Int32 → Option (AH × Int32)) (k468 : AH → Nat → Nat → Nat → Int32 → Int32 → Int32 → Int32 → Int32 → Int32 → Int32 → Option (AH × Int32)) (hk28 : ∀ (h : AH) (a0 : Nat) (a1 : Nat) (a2 : Nat) (a3 : Int32)  (d4 : Value) (d5 : Value) (d6 : Value) (d7 : Value) (d8 : Value) (d9 : Value) (d10 : Value) (d11 : Value) (d12 : Value) (d13 : Value) (d14 : Value), k28 h a0 a1 a2 a3 = some (h', r) → Eb (Ev tb mL d) 0 (28, [.ref a0, .ref a1, .ref a2, .int a3, d4, d5, d6, d7, d8, d9, d10, d11, d12, d13, d14], [], h) h' (some (.int r))) (hk468 : ∀ (h : AH) (a0 : Nat) (a1 : Nat) (a2 : Nat) (a3 : Int32) (a5 : Int32) (a6 : Int32) (a7 : Int32) (a8 : Int32) (a9 : Int32) (a10 : Int32)  (d4 : Value) (d11 : Value) (d12 : Value) (d13 : Value) (d14 : Value), k468 h a0 a1 a2 a3 a5 a6 a7 a8 a9 a10 = some (h', r) → Eb (Ev tb mL d) 0 (468, [.ref a0, .ref a1, .ref a2, .int a3, d4, .int a5, .int a6, .int a7, .int a8, .int a9, .int a10, d11, d12, d13, d14], [], h) h' (some (.int r)))  (h : AH) (a0 : Nat) (a1 : Nat) (a2 : Nat) (a3 : Int32) (a5 : Int32) (a6 : Int32) (a7 : Int32) (a8 : Int32) (a9 : Int32) (a10 : Int32) (a12 : Int32) (s0 : Int32) (s1 : Int32) (d4 : Value) (d11 : Value) (d13 : Value) (d14 : Value) (e : f_Law_law_b610 k28 k468 h a0 a1 a2 a3 a5 a6 a7 a8 a9 a10 a12 s0 s1 = some (h', r)) : Eb (Ev tb mL d) 0 (610, [.ref a0, .ref a1, .ref a2, .int a3, d4, .int a5, .int a6, .int a7, .int a8, .int a9, .int a10, d11, .int a12, d13, d14], [.int s1, .int s0], h) h' (some (.int r)) := by
  unfold f_Law_law_b610 at e
  refine eb_b (c := ¬ s0 = s1) (640, [.ref a0, .ref a1, .ref a2, .int a3, d4, .int a5, .int a6, .int a7, .int a8, .int a9, .int a10, d11, .int a12, d13, d14], [], h) (613, [.ref a0, .ref a1, .ref a2, .int a3, d4, .int a5, .int a6, .int a7, .int a8, .int a9, .int a10, d11, .int a12, d13, d14], [], h) rfl (fun c1 => ?_) (fun c1 => ?_)
  · replace e := ite_t c1 e
    refine eb_n 1 (641, [.ref a0, .ref a1, .ref a2, .int a3, d4, .int a5, .int a6, .int a7, .int a8, .int a9, .int a10, d11, .int a12, d13, d14], [.int (nI 0)], h) (rfl) ?_
    rw [(sp_inj e).1, (sp_inj e).2]
    exact eb_rg (p := nrm 3 (nI 0)) rfl nrm_30
  · replace e := ite_f c1 e
    refine eb_n 1 (615, [.ref a0, .ref a1, .ref a2, .int a3, d4, .int a5, .int a6, .int a7, .int a8, .int a9, .int a10, d11, .int a12, d13, d14], [.int a12], h) (rfl) ?_
    refine eb_b (c := ¬ a12 = 0) (622, [.ref a0, .ref a1, .ref a2, .int a3, d4, .int a5, .int a6, .int a7, .int a8, .int a9, .int a10, d11, .int a12, d13, d14], [], h) (618, [.ref a0, .ref a1, .ref a2, .int a3, d4, .int a5, .int a6, .int a7, .int a8, .int a9, .int a10, d11, .int a12, d13, d14], [], h) rfl (fun c2 => ?_) (fun c2 => ?_)
    · replace e := ite_t c2 e
      refine eb_n 1 (623, [.ref a0, .ref a1, .ref a2, .int a3, d4, .int a5, .int a6, .int a7, .int a8, .int a9, .int a10, d11, .int a12, d13, d14], [.int (nI 0)], h) (rfl) ?_
      exact f_Law_law_b623_ev d hd k28 k468 hk28 hk468 _ _ _ _ _ _ _ _ _ _ _ _ _ _ _ _ _ e
    · replace e := ite_f c2 e
      refine eb_n 2 (623, [.ref a0, .ref a1, .ref a2, .int a3, d4, .int a5, .int a6, .int a7, .int a8, .int a9, .int a10, d11, .int a12, d13, d14], [.int (nI 1)], h) (rfl) ?_
      exact f_Law_law_b623_ev d hd k28 k468 hk28 hk468 _ _ _ _ _ _ _ _ _ _ _ _ _ _ _ _ _ e
set_option maxRecDepth 100000 in
set_option maxHeartbeats 4000000 in
theorem f_Law_law_b595_ev {h' : AH} {r : Int32} (d : Nat) (hd : 68 ≤ d) (k28 : AH → Nat → Nat → Nat → Int32 → Option (AH × Int32)) (k468 : AH → Nat → Nat → Nat → Int32 → Int32 → Int32 → Int32 → Int32 → Int32 → Int32 → Option (AH × Int32)) (hk28 : ∀ (h : AH) (a0 : Nat) (a1 : Nat) (a2 : Nat) (a3 : Int32)  (d4 : Value) (d5 : Value) (d6 : Value) (d7 : Value) (d8 : Value) (d9 : Value) (d10 : Value) (d11 : Value) (d12 : Value) (d13 : Value) (d14 : Value), k28 h a0 a1 a2 a3 = some (h', r) → Eb (Ev tb mL d) 0 (28, [.ref a0, .ref a1, .ref a2, .int a3, d4, d5, d6, d7, d8, d9, d10, d11, d12, d13, d14], [], h) h' (some (.int r))) (hk468 : ∀ (h : AH) (a0 : Nat) (a1 : Nat) (a2 : Nat) (a3 : Int32) (a5 : Int32) (a6 : Int32) (a7 : Int32) (a8 : Int32) (a9 : Int32) (a10 : Int32)  (d4 : Value) (d11 : Value) (d12 : Value) (d13 : Value) (d14 : Value), k468 h a0 a1 a2 a3 a5 a6 a7 a8 a9 a10 = some (h', r) → Eb (Ev tb mL d) 0 (468, [.ref a0, .ref a1, .ref a2, .int a3, d4, .int a5, .int a6, .int a7, .int a8, .int a9, .int a10, d11, d12, d13, d14], [], h) h' (some (.int r)))  (h : AH) (a0 : Nat) (a1 : Nat) (a2 : Nat) (a3 : Int32) (a5 : Int32) (a6 : Int32) (a7 : Int32) (a8 : Int32) (a9 : Int32) (a10 : Int32) (a12 : Int32) (s0 : Int32) (d4 : Value) (d11 : Value) (d13 : Value) (d14 : Value) (e : f_Law_law_b595 k28 k468 h a0 a1 a2 a3 a5 a6 a7 a8 a9 a10 a12 s0 = some (h', r)) : Eb (Ev tb mL d) 0 (595, [.ref a0, .ref a1, .ref a2, .int a3, d4, .int a5, .int a6, .int a7, .int a8, .int a9, .int a10, d11, .int a12, d13, d14], [.int s0], h) h' (some (.int r)) := by
  unfold f_Law_law_b595 at e
  refine eb_n 3 (599, [.ref a0, .ref a1, .ref a2, .int a3, d4, .int a5, .int a6, .int a7, .int a8, .int a9, .int a10, d11, .int a12, d13, d14], [.int (nI 4), .int a10, .ref a1, .int s0], h) (rfl) ?_
  obtain ⟨g1, e⟩ := gd_some e
  obtain ⟨h2, r3, eh2, e⟩ := bn_some e
  refine eb_cg (p := hT h a1 = 1) rfl g1 (f_QuillBoats_boat_ev d (Nat.le_trans (by decide) hd) eh2) ?_
  show Eb _ 0 (602, [.ref a0, .ref a1, .ref a2, .int a3, d4, .int a5, .int a6, .int a7, .int a8, .int a9, .int a10, d11, .int a12, d13, d14], [.int r3, .int s0], h2) _ _
  refine eb_b (c := ¬ r3 = 0) (609, [.ref a0, .ref a1, .ref a2, .int a3, d4, .int a5, .int a6, .int a7, .int a8, .int a9, .int a10, d11, .int a12, d13, d14], [.int s0], h2) (605, [.ref a0, .ref a1, .ref a2, .int a3, d4, .int a5, .int a6, .int a7, .int a8, .int a9, .int a10, d11, .int a12, d13, d14], [.int s0], h2) rfl (fun c4 => ?_) (fun c4 => ?_)
  · replace e := ite_t c4 e
    refine eb_n 1 (610, [.ref a0, .ref a1, .ref a2, .int a3, d4, .int a5, .int a6, .int a7, .int a8, .int a9, .int a10, d11, .int a12, d13, d14], [.int (nI 0), .int s0], h2) (rfl) ?_
    exact f_Law_law_b610_ev d hd k28 k468 hk28 hk468 _ _ _ _ _ _ _ _ _ _ _ _ _ _ _ _ _ _ e
  · replace e := ite_f c4 e
    refine eb_n 2 (610, [.ref a0, .ref a1, .ref a2, .int a3, d4, .int a5, .int a6, .int a7, .int a8, .int a9, .int a10, d11, .int a12, d13, d14], [.int (nI 1), .int s0], h2) (rfl) ?_
    exact f_Law_law_b610_ev d hd k28 k468 hk28 hk468 _ _ _ _ _ _ _ _ _ _ _ _ _ _ _ _ _ _ e
set_option maxRecDepth 100000 in
set_option maxHeartbeats 4000000 in
theorem f_Law_law_b560_ev {h' : AH} {r : Int32} (d : Nat) (hd : 68 ≤ d) (k28 : AH → Nat → Nat → Nat → Int32 → Option (AH × Int32)) (k468 : AH → Nat → Nat → Nat → Int32 → Int32 → Int32 → Int32 → Int32 → Int32 → Int32 → Option (AH × Int32)) (hk28 : ∀ (h : AH) (a0 : Nat) (a1 : Nat) (a2 : Nat) (a3 : Int32)  (d4 : Value) (d5 : Value) (d6 : Value) (d7 : Value) (d8 : Value) (d9 : Value) (d10 : Value) (d11 : Value) (d12 : Value) (d13 : Value) (d14 : Value), k28 h a0 a1 a2 a3 = some (h', r) → Eb (Ev tb mL d) 0 (28, [.ref a0, .ref a1, .ref a2, .int a3, d4, d5, d6, d7, d8, d9, d10, d11, d12, d13, d14], [], h) h' (some (.int r))) (hk468 : ∀ (h : AH) (a0 : Nat) (a1 : Nat) (a2 : Nat) (a3 : Int32) (a5 : Int32) (a6 : Int32) (a7 : Int32) (a8 : Int32) (a9 : Int32) (a10 : Int32)  (d4 : Value) (d11 : Value) (d12 : Value) (d13 : Value) (d14 : Value), k468 h a0 a1 a2 a3 a5 a6 a7 a8 a9 a10 = some (h', r) → Eb (Ev tb mL d) 0 (468, [.ref a0, .ref a1, .ref a2, .int a3, d4, .int a5, .int a6, .int a7, .int a8, .int a9, .int a10, d11, d12, d13, d14], [], h) h' (some (.int r)))  (h : AH) (a0 : Nat) (a1 : Nat) (a2 : Nat) (a3 : Int32) (a5 : Int32) (a6 : Int32) (a7 : Int32) (a8 : Int32) (a9 : Int32) (a10 : Int32) (a12 : Int32) (s0 : Int32) (s1 : Int32) (d4 : Value) (d11 : Value) (d13 : Value) (d14 : Value) (e : f_Law_law_b560 k28 k468 h a0 a1 a2 a3 a5 a6 a7 a8 a9 a10 a12 s0 s1 = some (h', r)) : Eb (Ev tb mL d) 0 (560, [.ref a0, .ref a1, .ref a2, .int a3, d4, .int a5, .int a6, .int a7, .int a8, .int a9, .int a10, d11, .int a12, d13, d14], [.int s1, .int s0], h) h' (some (.int r)) := by
  unfold f_Law_law_b560 at e
  refine eb_b (c := ¬ s0 = s1) (640, [.ref a0, .ref a1, .ref a2, .int a3, d4, .int a5, .int a6, .int a7, .int a8, .int a9, .int a10, d11, .int a12, d13, d14], [], h) (563, [.ref a0, .ref a1, .ref a2, .int a3, d4, .int a5, .int a6, .int a7, .int a8, .int a9, .int a10, d11, .int a12, d13, d14], [], h) rfl (fun c1 => ?_) (fun c1 => ?_)
  · replace e := ite_t c1 e
    refine eb_n 1 (641, [.ref a0, .ref a1, .ref a2, .int a3, d4, .int a5, .int a6, .int a7, .int a8, .int a9, .int a10, d11, .int a12, d13, d14], [.int (nI 0)], h) (rfl) ?_
    rw [(sp_inj e).1, (sp_inj e).2]
    exact eb_rg (p := nrm 3 (nI 0)) rfl nrm_30
  · replace e := ite_f c1 e
    refine eb_n 3 (567, [.ref a0, .ref a1, .ref a2, .int a3, d4, .int a5, .int a6, .int a7, .int a8, .int a9, .int a10, d11, .int a12, d13, d14], [.int (nI 4), .int a10, .ref a1], h) (rfl) ?_
    obtain ⟨g2, e⟩ := gd_some e
    obtain ⟨h3, r4, eh3, e⟩ := bn_some e
    refine eb_cg (p := hT h a1 = 1) rfl g2 (f_QuillBoats_boat_ev d (Nat.le_trans (by decide) hd) eh3) ?_
    show Eb _ 0 (570, [.ref a0, .ref a1, .ref a2, .int a3, d4, .int a5, .int a6, .int a7, .int a8, .int a9, .int a10, d11, .int a12, d13, d14], [.int r4], h3) _ _
    refine eb_n 3 (574, [.ref a0, .ref a1, .ref a2, .int a3, d4, .int a5, .int a6, .int a7, .int a8, .int a9, .int a10, d11, .int a12, d13, d14], [.int (nI 0), .int a10, .ref a1, .int r4], h3) (rfl) ?_
    obtain ⟨g5, e⟩ := gd_some e
    obtain ⟨h6, r7, eh6, e⟩ := bn_some e
    refine eb_cg (p := hT h3 a1 = 1) rfl g5 (f_QuillBoats_boat_ev d (Nat.le_trans (by decide) hd) eh6) ?_
    show Eb _ 0 (577, [.ref a0, .ref a1, .ref a2, .int a3, d4, .int a5, .int a6, .int a7, .int a8, .int a9, .int a10, d11, .int a12, d13, d14], [.int r7, .int r4], h6) _ _
    refine eb_b (c := r7 < r4) (640, [.ref a0, .ref a1, .ref a2, .int a3, d4, .int a5, .int a6, .int a7, .int a8, .int a9, .int a10, d11, .int a12, d13, d14], [], h6) (580, [.ref a0, .ref a1, .ref a2, .int a3, d4, .int a5, .int a6, .int a7, .int a8, .int a9, .int a10, d11, .int a12, d13, d14], [], h6) rfl (fun c8 => ?_) (fun c8 => ?_)
    · replace e := ite_t c8 e
      refine eb_n 1 (641, [.ref a0, .ref a1, .ref a2, .int a3, d4, .int a5, .int a6, .int a7, .int a8, .int a9, .int a10, d11, .int a12, d13, d14], [.int (nI 0)], h6) (rfl) ?_
      rw [(sp_inj e).1, (sp_inj e).2]
      exact eb_rg (p := nrm 3 (nI 0)) rfl nrm_30
    · replace e := ite_f c8 e
      refine eb_n 3 (584, [.ref a0, .ref a1, .ref a2, .int a3, d4, .int a5, .int a6, .int a7, .int a8, .int a9, .int a10, d11, .int a12, d13, d14], [.int (nI 5), .int a10, .ref a1], h6) (rfl) ?_
      obtain ⟨g9, e⟩ := gd_some e
      obtain ⟨h10, r11, eh10, e⟩ := bn_some e
      refine eb_cg (p := hT h6 a1 = 1) rfl g9 (f_QuillBoats_boat_ev d (Nat.le_trans (by decide) hd) eh10) ?_
      show Eb _ 0 (587, [.ref a0, .ref a1, .ref a2, .int a3, d4, .int a5, .int a6, .int a7, .int a8, .int a9, .int a10, d11, .int a12, d13, d14], [.int r11], h10) _ _
      refine eb_b (c := 0 ≤ r11) (594, [.ref a0, .ref a1, .ref a2, .int a3, d4, .int a5, .int a6, .int a7, .int a8, .int a9, .int a10, d11, .int a12, d13, d14], [], h10) (590, [.ref a0, .ref a1, .ref a2, .int a3, d4, .int a5, .int a6, .int a7, .int a8, .int a9, .int a10, d11, .int a12, d13, d14], [], h10) rfl (fun c12 => ?_) (fun c12 => ?_)
      · replace e := ite_t c12 e
        refine eb_n 1 (595, [.ref a0, .ref a1, .ref a2, .int a3, d4, .int a5, .int a6, .int a7, .int a8, .int a9, .int a10, d11, .int a12, d13, d14], [.int (nI 0)], h10) (rfl) ?_
        exact f_Law_law_b595_ev d hd k28 k468 hk28 hk468 _ _ _ _ _ _ _ _ _ _ _ _ _ _ _ _ _ e
      · replace e := ite_f c12 e
        refine eb_n 2 (595, [.ref a0, .ref a1, .ref a2, .int a3, d4, .int a5, .int a6, .int a7, .int a8, .int a9, .int a10, d11, .int a12, d13, d14], [.int (nI 1)], h10) (rfl) ?_
        exact f_Law_law_b595_ev d hd k28 k468 hk28 hk468 _ _ _ _ _ _ _ _ _ _ _ _ _ _ _ _ _ e
set_option maxRecDepth 100000 in
set_option maxHeartbeats 4000000 in
theorem f_Law_law_b545_ev {h' : AH} {r : Int32} (d : Nat) (hd : 68 ≤ d) (k28 : AH → Nat → Nat → Nat → Int32 → Option (AH × Int32)) (k468 : AH → Nat → Nat → Nat → Int32 → Int32 → Int32 → Int32 → Int32 → Int32 → Int32 → Option (AH × Int32)) (hk28 : ∀ (h : AH) (a0 : Nat) (a1 : Nat) (a2 : Nat) (a3 : Int32)  (d4 : Value) (d5 : Value) (d6 : Value) (d7 : Value) (d8 : Value) (d9 : Value) (d10 : Value) (d11 : Value) (d12 : Value) (d13 : Value) (d14 : Value), k28 h a0 a1 a2 a3 = some (h', r) → Eb (Ev tb mL d) 0 (28, [.ref a0, .ref a1, .ref a2, .int a3, d4, d5, d6, d7, d8, d9, d10, d11, d12, d13, d14], [], h) h' (some (.int r))) (hk468 : ∀ (h : AH) (a0 : Nat) (a1 : Nat) (a2 : Nat) (a3 : Int32) (a5 : Int32) (a6 : Int32) (a7 : Int32) (a8 : Int32) (a9 : Int32) (a10 : Int32)  (d4 : Value) (d11 : Value) (d12 : Value) (d13 : Value) (d14 : Value), k468 h a0 a1 a2 a3 a5 a6 a7 a8 a9 a10 = some (h', r) → Eb (Ev tb mL d) 0 (468, [.ref a0, .ref a1, .ref a2, .int a3, d4, .int a5, .int a6, .int a7, .int a8, .int a9, .int a10, d11, d12, d13, d14], [], h) h' (some (.int r)))  (h : AH) (a0 : Nat) (a1 : Nat) (a2 : Nat) (a3 : Int32) (a5 : Int32) (a6 : Int32) (a7 : Int32) (a8 : Int32) (a9 : Int32) (a10 : Int32) (a12 : Int32) (s0 : Int32) (d4 : Value) (d11 : Value) (d13 : Value) (d14 : Value) (e : f_Law_law_b545 k28 k468 h a0 a1 a2 a3 a5 a6 a7 a8 a9 a10 a12 s0 = some (h', r)) : Eb (Ev tb mL d) 0 (545, [.ref a0, .ref a1, .ref a2, .int a3, d4, .int a5, .int a6, .int a7, .int a8, .int a9, .int a10, d11, .int a12, d13, d14], [.int s0], h) h' (some (.int r)) := by
  unfold f_Law_law_b545 at e
  refine eb_n 3 (549, [.ref a0, .ref a1, .ref a2, .int a3, d4, .int a5, .int a6, .int a7, .int a8, .int a9, .int a10, d11, .int a12, d13, d14], [.int (nI 4), .int a10, .ref a1, .int s0], h) (rfl) ?_
  obtain ⟨g1, e⟩ := gd_some e
  obtain ⟨h2, r3, eh2, e⟩ := bn_some e
  refine eb_cg (p := hT h a1 = 1) rfl g1 (f_QuillBoats_boat_ev d (Nat.le_trans (by decide) hd) eh2) ?_
  show Eb _ 0 (552, [.ref a0, .ref a1, .ref a2, .int a3, d4, .int a5, .int a6, .int a7, .int a8, .int a9, .int a10, d11, .int a12, d13, d14], [.int r3, .int s0], h2) _ _
  refine eb_b (c := r3 ≤ 0) (559, [.ref a0, .ref a1, .ref a2, .int a3, d4, .int a5, .int a6, .int a7, .int a8, .int a9, .int a10, d11, .int a12, d13, d14], [.int s0], h2) (555, [.ref a0, .ref a1, .ref a2, .int a3, d4, .int a5, .int a6, .int a7, .int a8, .int a9, .int a10, d11, .int a12, d13, d14], [.int s0], h2) rfl (fun c4 => ?_) (fun c4 => ?_)
  · replace e := ite_t c4 e
    refine eb_n 1 (560, [.ref a0, .ref a1, .ref a2, .int a3, d4, .int a5, .int a6, .int a7, .int a8, .int a9, .int a10, d11, .int a12, d13, d14], [.int (nI 0), .int s0], h2) (rfl) ?_
    exact f_Law_law_b560_ev d hd k28 k468 hk28 hk468 _ _ _ _ _ _ _ _ _ _ _ _ _ _ _ _ _ _ e
  · replace e := ite_f c4 e
    refine eb_n 2 (560, [.ref a0, .ref a1, .ref a2, .int a3, d4, .int a5, .int a6, .int a7, .int a8, .int a9, .int a10, d11, .int a12, d13, d14], [.int (nI 1), .int s0], h2) (rfl) ?_
    exact f_Law_law_b560_ev d hd k28 k468 hk28 hk468 _ _ _ _ _ _ _ _ _ _ _ _ _ _ _ _ _ _ e
set_option maxRecDepth 100000 in
set_option maxHeartbeats 4000000 in
theorem f_Law_law_b534_ev {h' : AH} {r : Int32} (d : Nat) (hd : 68 ≤ d) (k28 : AH → Nat → Nat → Nat → Int32 → Option (AH × Int32)) (k468 : AH → Nat → Nat → Nat → Int32 → Int32 → Int32 → Int32 → Int32 → Int32 → Int32 → Option (AH × Int32)) (hk28 : ∀ (h : AH) (a0 : Nat) (a1 : Nat) (a2 : Nat) (a3 : Int32)  (d4 : Value) (d5 : Value) (d6 : Value) (d7 : Value) (d8 : Value) (d9 : Value) (d10 : Value) (d11 : Value) (d12 : Value) (d13 : Value) (d14 : Value), k28 h a0 a1 a2 a3 = some (h', r) → Eb (Ev tb mL d) 0 (28, [.ref a0, .ref a1, .ref a2, .int a3, d4, d5, d6, d7, d8, d9, d10, d11, d12, d13, d14], [], h) h' (some (.int r))) (hk468 : ∀ (h : AH) (a0 : Nat) (a1 : Nat) (a2 : Nat) (a3 : Int32) (a5 : Int32) (a6 : Int32) (a7 : Int32) (a8 : Int32) (a9 : Int32) (a10 : Int32)  (d4 : Value) (d11 : Value) (d12 : Value) (d13 : Value) (d14 : Value), k468 h a0 a1 a2 a3 a5 a6 a7 a8 a9 a10 = some (h', r) → Eb (Ev tb mL d) 0 (468, [.ref a0, .ref a1, .ref a2, .int a3, d4, .int a5, .int a6, .int a7, .int a8, .int a9, .int a10, d11, d12, d13, d14], [], h) h' (some (.int r)))  (h : AH) (a0 : Nat) (a1 : Nat) (a2 : Nat) (a3 : Int32) (a5 : Int32) (a6 : Int32) (a7 : Int32) (a8 : Int32) (a9 : Int32) (a10 : Int32) (a12 : Int32)  (d4 : Value) (d11 : Value) (d13 : Value) (d14 : Value) (e : f_Law_law_b534 k28 k468 h a0 a1 a2 a3 a5 a6 a7 a8 a9 a10 a12 = some (h', r)) : Eb (Ev tb mL d) 0 (534, [.ref a0, .ref a1, .ref a2, .int a3, d4, .int a5, .int a6, .int a7, .int a8, .int a9, .int a10, d11, .int a12, d13, d14], [], h) h' (some (.int r)) := by
  unfold f_Law_law_b534 at e
  refine eb_n 2 (537, [.ref a0, .ref a1, .ref a2, .int a3, d4, .int a5, .int a6, .int a7, .int a8, .int a9, .int a10, d11, .int a12, d13, d14], [.int (nI 1), .int a12], h) (rfl) ?_
  refine eb_b (c := ¬ a12 = (nI 1)) (544, [.ref a0, .ref a1, .ref a2, .int a3, d4, .int a5, .int a6, .int a7, .int a8, .int a9, .int a10, d11, .int a12, d13, d14], [], h) (540, [.ref a0, .ref a1, .ref a2, .int a3, d4, .int a5, .int a6, .int a7, .int a8, .int a9, .int a10, d11, .int a12, d13, d14], [], h) rfl (fun c1 => ?_) (fun c1 => ?_)
  · replace e := ite_t c1 e
    refine eb_n 1 (545, [.ref a0, .ref a1, .ref a2, .int a3, d4, .int a5, .int a6, .int a7, .int a8, .int a9, .int a10, d11, .int a12, d13, d14], [.int (nI 0)], h) (rfl) ?_
    exact f_Law_law_b545_ev d hd k28 k468 hk28 hk468 _ _ _ _ _ _ _ _ _ _ _ _ _ _ _ _ _ e
  · replace e := ite_f c1 e
    refine eb_n 2 (545, [.ref a0, .ref a1, .ref a2, .int a3, d4, .int a5, .int a6, .int a7, .int a8, .int a9, .int a10, d11, .int a12, d13, d14], [.int (nI 1)], h) (rfl) ?_
    exact f_Law_law_b545_ev d hd k28 k468 hk28 hk468 _ _ _ _ _ _ _ _ _ _ _ _ _ _ _ _ _ e
set_option maxRecDepth 100000 in
set_option maxHeartbeats 4000000 in
theorem f_Law_law_b468_ev {h' : AH} {r : Int32} (d : Nat) (hd : 68 ≤ d) (k28 : AH → Nat → Nat → Nat → Int32 → Option (AH × Int32)) (k468 : AH → Nat → Nat → Nat → Int32 → Int32 → Int32 → Int32 → Int32 → Int32 → Int32 → Option (AH × Int32)) (hk28 : ∀ (h : AH) (a0 : Nat) (a1 : Nat) (a2 : Nat) (a3 : Int32)  (d4 : Value) (d5 : Value) (d6 : Value) (d7 : Value) (d8 : Value) (d9 : Value) (d10 : Value) (d11 : Value) (d12 : Value) (d13 : Value) (d14 : Value), k28 h a0 a1 a2 a3 = some (h', r) → Eb (Ev tb mL d) 0 (28, [.ref a0, .ref a1, .ref a2, .int a3, d4, d5, d6, d7, d8, d9, d10, d11, d12, d13, d14], [], h) h' (some (.int r))) (hk468 : ∀ (h : AH) (a0 : Nat) (a1 : Nat) (a2 : Nat) (a3 : Int32) (a5 : Int32) (a6 : Int32) (a7 : Int32) (a8 : Int32) (a9 : Int32) (a10 : Int32)  (d4 : Value) (d11 : Value) (d12 : Value) (d13 : Value) (d14 : Value), k468 h a0 a1 a2 a3 a5 a6 a7 a8 a9 a10 = some (h', r) → Eb (Ev tb mL d) 0 (468, [.ref a0, .ref a1, .ref a2, .int a3, d4, .int a5, .int a6, .int a7, .int a8, .int a9, .int a10, d11, d12, d13, d14], [], h) h' (some (.int r)))  (h : AH) (a0 : Nat) (a1 : Nat) (a2 : Nat) (a3 : Int32) (a5 : Int32) (a6 : Int32) (a7 : Int32) (a8 : Int32) (a9 : Int32) (a10 : Int32)  (d4 : Value) (d11 : Value) (d12 : Value) (d13 : Value) (d14 : Value) (e : f_Law_law_b468 k28 k468 h a0 a1 a2 a3 a5 a6 a7 a8 a9 a10 = some (h', r)) : Eb (Ev tb mL d) 0 (468, [.ref a0, .ref a1, .ref a2, .int a3, d4, .int a5, .int a6, .int a7, .int a8, .int a9, .int a10, d11, d12, d13, d14], [], h) h' (some (.int r)) := by
  unfold f_Law_law_b468 at e
  refine eb_n 3 (472, [.ref a0, .ref a1, .ref a2, .int a3, d4, .int a5, .int a6, .int a7, .int a8, .int a9, .int a10, d11, d12, d13, d14], [.int (nI 5), .ref a1, .int a10], h) (rfl) ?_
  obtain ⟨g1, e⟩ := gd_some e
  obtain ⟨h2, r3, eh2, e⟩ := bn_some e
  refine eb_cg (p := hT h a1 = 1) rfl g1 (f_QuillBoats_count_ev d (Nat.le_trans (by decide) hd) eh2) ?_
  show Eb _ 0 (475, [.ref a0, .ref a1, .ref a2, .int a3, d4, .int a5, .int a6, .int a7, .int a8, .int a9, .int a10, d11, d12, d13, d14], [.int r3, .int a10], h2) _ _
  refine eb_b (c := r3 ≤ a10) (648, [.ref a0, .ref a1, .ref a2, .int a3, d4, .int a5, .int a6, .int a7, .int a8, .int a9, .int a10, d11, d12, d13, d14], [], h2) (478, [.ref a0, .ref a1, .ref a2, .int a3, d4, .int a5, .int a6, .int a7, .int a8, .int a9, .int a10, d11, d12, d13, d14], [], h2) rfl (fun c4 => ?_) (fun c4 => ?_)
  · replace e := ite_t c4 e
    refine eb_n 2 (651, [.ref a0, .ref a1, .ref a2, .int a3, d4, .int a5, .int a6, .int a7, .int a8, .int a9, .int (nI 0), d11, d12, d13, d14], [], h2) (rfl) ?_
    exact f_Law_law_l651_ev d hd k28 hk28 FU _ _ _ _ _ _ _ _ _ _ _ _ _ _ _ _ e
  · replace e := ite_f c4 e
    refine eb_n 3 (482, [.ref a0, .ref a1, .ref a2, .int a3, d4, .int a5, .int a6, .int a7, .int a8, .int a9, .int a10, d11, d12, d13, d14], [.int (nI 2), .int a10, .ref a1], h2) (rfl) ?_
    obtain ⟨g5, e⟩ := gd_some e
    obtain ⟨h6, r7, eh6, e⟩ := bn_some e
    refine eb_cg (p := hT h2 a1 = 1) rfl g5 (f_QuillBoats_boat_ev d (Nat.le_trans (by decide) hd) eh6) ?_
    show Eb _ 0 (485, [.ref a0, .ref a1, .ref a2, .int a3, d4, .int a5, .int a6, .int a7, .int a8, .int a9, .int a10, d11, d12, d13, d14], [.int r7], h6) _ _
    refine eb_n 4 (491, [.ref a0, .ref a1, .ref a2, .int a3, d4, .int a5, .int a6, .int a7, .int a8, .int a9, .int a10, .int r7, d12, d13, d14], [.int (nI 3), .int a10, .ref a1], h6) (rfl) ?_
    obtain ⟨g8, e⟩ := gd_some e
    obtain ⟨h9, r10, eh9, e⟩ := bn_some e
    refine eb_cg (p := hT h6 a1 = 1) rfl g8 (f_QuillBoats_boat_ev d (Nat.le_trans (by decide) hd) eh9) ?_
    show Eb _ 0 (494, [.ref a0, .ref a1, .ref a2, .int a3, d4, .int a5, .int a6, .int a7, .int a8, .int a9, .int a10, .int r7, d12, d13, d14], [.int r10], h9) _ _
    refine eb_n 5 (502, [.ref a0, .ref a1, .ref a2, .int a3, d4, .int a5, .int a6, .int a7, .int a8, .int a9, .int a10, .int r7, .int r10, d13, d14], [.int (nI 4), .int a10, .ref a1, .int a9], h9) (rfl) ?_
    obtain ⟨g11, e⟩ := gd_some e
    obtain ⟨h12, r13, eh12, e⟩ := bn_some e
    refine eb_cg (p := hT h9 a1 = 1) rfl g11 (f_QuillBoats_boat_ev d (Nat.le_trans (by decide) hd) eh12) ?_
    show Eb _ 0 (505, [.ref a0, .ref a1, .ref a2, .int a3, d4, .int a5, .int a6, .int a7, .int a8, .int a9, .int a10, .int r7, .int r10, d13, d14], [.int r13, .int a9], h12) _ _
    obtain ⟨x14, hx14, e⟩ := lq_some e
    refine eb_n 2 (508, [.ref a0, .ref a1, .ref a2, .int a3, d4, .int a5, .int a6, .int a7, .int a8, .int x14, .int a10, .int r7, .int r10, d13, d14], [], h12) (by subst hx14; rfl) ?_
    refine eb_n 1 (510, [.ref a0, .ref a1, .ref a2, .int a3, d4, .int a5, .int a6, .int a7, .int a8, .int x14, .int a10, .int r7, .int r10, d13, d14], [.int r7], h12) (rfl) ?_
    refine eb_b (c := r7 < 0) (640, [.ref a0, .ref a1, .ref a2, .int a3, d4, .int a5, .int a6, .int a7, .int a8, .int x14, .int a10, .int r7, .int r10, d13, d14], [], h12) (513, [.ref a0, .ref a1, .ref a2, .int a3, d4, .int a5, .int a6, .int a7, .int a8, .int x14, .int a10, .int r7, .int r10, d13, d14], [], h12) rfl (fun c15 => ?_) (fun c15 => ?_)
    · replace e := ite_t c15 e
      refine eb_n 1 (641, [.ref a0, .ref a1, .ref a2, .int a3, d4, .int a5, .int a6, .int a7, .int a8, .int x14, .int a10, .int r7, .int r10, d13, d14], [.int (nI 0)], h12) (rfl) ?_
      rw [(sp_inj e).1, (sp_inj e).2]
      exact eb_rg (p := nrm 3 (nI 0)) rfl nrm_30
    · replace e := ite_f c15 e
      refine eb_n 3 (518, [.ref a0, .ref a1, .ref a2, .int a3, d4, .int a5, .int a6, .int a7, .int a8, .int x14, .int a10, .int r7, .int r10, d13, d14], [.int (nI 13), .ref a1, .int r7], h12) (rfl) ?_
      obtain ⟨g16, e⟩ := gd_some e
      obtain ⟨h17, r18, eh17, e⟩ := bn_some e
      refine eb_cg (p := hT h12 a1 = 1) rfl g16 (f_QuillBoats_count_ev d (Nat.le_trans (by decide) hd) eh17) ?_
      show Eb _ 0 (521, [.ref a0, .ref a1, .ref a2, .int a3, d4, .int a5, .int a6, .int a7, .int a8, .int x14, .int a10, .int r7, .int r10, d13, d14], [.int r18, .int r7], h17) _ _
      refine eb_b (c := r18 < r7) (640, [.ref a0, .ref a1, .ref a2, .int a3, d4, .int a5, .int a6, .int a7, .int a8, .int x14, .int a10, .int r7, .int r10, d13, d14], [], h17) (524, [.ref a0, .ref a1, .ref a2, .int a3, d4, .int a5, .int a6, .int a7, .int a8, .int x14, .int a10, .int r7, .int r10, d13, d14], [], h17) rfl (fun c19 => ?_) (fun c19 => ?_)
      · replace e := ite_t c19 e
        refine eb_n 1 (641, [.ref a0, .ref a1, .ref a2, .int a3, d4, .int a5, .int a6, .int a7, .int a8, .int x14, .int a10, .int r7, .int r10, d13, d14], [.int (nI 0)], h17) (rfl) ?_
        rw [(sp_inj e).1, (sp_inj e).2]
        exact eb_rg (p := nrm 3 (nI 0)) rfl nrm_30
      · replace e := ite_f c19 e
        refine eb_n 1 (526, [.ref a0, .ref a1, .ref a2, .int a3, d4, .int a5, .int a6, .int a7, .int a8, .int x14, .int a10, .int r7, .int r10, d13, d14], [.int r10], h17) (rfl) ?_
        refine eb_b (c := ¬ r10 = 0) (534, [.ref a0, .ref a1, .ref a2, .int a3, d4, .int a5, .int a6, .int a7, .int a8, .int x14, .int a10, .int r7, .int r10, d13, d14], [], h17) (529, [.ref a0, .ref a1, .ref a2, .int a3, d4, .int a5, .int a6, .int a7, .int a8, .int x14, .int a10, .int r7, .int r10, d13, d14], [], h17) rfl (fun c20 => ?_) (fun c20 => ?_)
        · replace e := ite_t c20 e
          exact f_Law_law_b534_ev d hd k28 k468 hk28 hk468 _ _ _ _ _ _ _ _ _ _ _ _ _ _ _ _ e
        · replace e := ite_f c20 e
          refine eb_n 1 (531, [.ref a0, .ref a1, .ref a2, .int a3, d4, .int a5, .int a6, .int a7, .int a8, .int x14, .int a10, .int r7, .int r10, d13, d14], [.int r7], h17) (rfl) ?_
          refine eb_b (c := ¬ r7 = 0) (640, [.ref a0, .ref a1, .ref a2, .int a3, d4, .int a5, .int a6, .int a7, .int a8, .int x14, .int a10, .int r7, .int r10, d13, d14], [], h17) (534, [.ref a0, .ref a1, .ref a2, .int a3, d4, .int a5, .int a6, .int a7, .int a8, .int x14, .int a10, .int r7, .int r10, d13, d14], [], h17) rfl (fun c21 => ?_) (fun c21 => ?_)
          · replace e := ite_t c21 e
            refine eb_n 1 (641, [.ref a0, .ref a1, .ref a2, .int a3, d4, .int a5, .int a6, .int a7, .int a8, .int x14, .int a10, .int r7, .int r10, d13, d14], [.int (nI 0)], h17) (rfl) ?_
            rw [(sp_inj e).1, (sp_inj e).2]
            exact eb_rg (p := nrm 3 (nI 0)) rfl nrm_30
          · replace e := ite_f c21 e
            exact f_Law_law_b534_ev d hd k28 k468 hk28 hk468 _ _ _ _ _ _ _ _ _ _ _ _ _ _ _ _ e
set_option maxRecDepth 100000 in
set_option maxHeartbeats 4000000 in
theorem f_Law_law_l468_ev {h' : AH} {r : Int32} (d : Nat) (hd : 68 ≤ d) (k28 : AH → Nat → Nat → Nat → Int32 → Option (AH × Int32)) (hk28 : ∀ (h : AH) (a0 : Nat) (a1 : Nat) (a2 : Nat) (a3 : Int32)  (d4 : Value) (d5 : Value) (d6 : Value) (d7 : Value) (d8 : Value) (d9 : Value) (d10 : Value) (d11 : Value) (d12 : Value) (d13 : Value) (d14 : Value), k28 h a0 a1 a2 a3 = some (h', r) → Eb (Ev tb mL d) 0 (28, [.ref a0, .ref a1, .ref a2, .int a3, d4, d5, d6, d7, d8, d9, d10, d11, d12, d13, d14], [], h) h' (some (.int r)))  : ∀ (n : Nat) (h : AH) (a0 : Nat) (a1 : Nat) (a2 : Nat) (a3 : Int32) (a5 : Int32) (a6 : Int32) (a7 : Int32) (a8 : Int32) (a9 : Int32) (a10 : Int32)  (d4 : Value) (d11 : Value) (d12 : Value) (d13 : Value) (d14 : Value) (_ : f_Law_law_l468 k28 n h a0 a1 a2 a3 a5 a6 a7 a8 a9 a10 = some (h', r)), Eb (Ev tb mL d) 0 (468, [.ref a0, .ref a1, .ref a2, .int a3, d4, .int a5, .int a6, .int a7, .int a8, .int a9, .int a10, d11, d12, d13, d14], [], h) h' (some (.int r)) := by
  intro n
  induction n with
  | zero => intro h a0 a1 a2 a3 a5 a6 a7 a8 a9 a10 d4 d11 d12 d13 d14 e; exact nomatch e
  | succ n ih =>
    intro h a0 a1 a2 a3 a5 a6 a7 a8 a9 a10 d4 d11 d12 d13 d14 e
    exact f_Law_law_b468_ev d hd k28 _ hk28 (fun h a0 a1 a2 a3 a5 a6 a7 a8 a9 a10 d4 d11 d12 d13 d14 e => ih h a0 a1 a2 a3 a5 a6 a7 a8 a9 a10 d4 d11 d12 d13 d14 e) h a0 a1 a2 a3 a5 a6 a7 a8 a9 a10 d4 d11 d12 d13 d14 e
set_option maxRecDepth 100000 in
set_option maxHeartbeats 4000000 in
theorem f_Law_law_b413_ev {h' : AH} {r : Int32} (d : Nat) (hd : 68 ≤ d) (k28 : AH → Nat → Nat → Nat → Int32 → Option (AH × Int32)) (k413 : AH → Nat → Nat → Nat → Int32 → Int32 → Int32 → Int32 → Int32 → Int32 → Int32 → Option (AH × Int32)) (hk28 : ∀ (h : AH) (a0 : Nat) (a1 : Nat) (a2 : Nat) (a3 : Int32)  (d4 : Value) (d5 : Value) (d6 : Value) (d7 : Value) (d8 : Value) (d9 : Value) (d10 : Value) (d11 : Value) (d12 : Value) (d13 : Value) (d14 : Value), k28 h a0 a1 a2 a3 = some (h', r) → Eb (Ev tb mL d) 0 (28, [.ref a0, .ref a1, .ref a2, .int a3, d4, d5, d6, d7, d8, d9, d10, d11, d12, d13, d14], [], h) h' (some (.int r))) (hk413 : ∀ (h : AH) (a0 : Nat) (a1 : Nat) (a2 : Nat) (a3 : Int32) (a5 : Int32) (a6 : Int32) (a7 : Int32) (a8 : Int32) (a9 : Int32) (a10 : Int32)  (d4 : Value) (d11 : Value) (d12 : Value) (d13 : Value) (d14 : Value), k413 h a0 a1 a2 a3 a5 a6 a7 a8 a9 a10 = some (h', r) → Eb (Ev tb mL d) 0 (413, [.ref a0, .ref a1, .ref a2, .int a3, d4, .int a5, .int a6, .int a7, .int a8, .int a9, .int a10, d11, d12, d13, d14], [], h) h' (some (.int r)))  (h : AH) (a0 : Nat) (a1 : Nat) (a2 : Nat) (a3 : Int32) (a5 : Int32) (a6 : Int32) (a7 : Int32) (a8 : Int32) (a9 : Int32) (a10 : Int32)  (d4 : Value) (d11 : Value) (d12 : Value) (d13 : Value) (d14 : Value) (e : f_Law_law_b413 k28 k413 h a0 a1 a2 a3 a5 a6 a7 a8 a9 a10 = some (h', r)) : Eb (Ev tb mL d) 0 (413, [.ref a0, .ref a1, .ref a2, .int a3, d4, .int a5, .int a6, .int a7, .int a8, .int a9, .int a10, d11, d12, d13, d14], [], h) h' (some (.int r)) := by
  unfold f_Law_law_b413 at e
  refine eb_n 3 (417, [.ref a0, .ref a1, .ref a2, .int a3, d4, .int a5, .int a6, .int a7, .int a8, .int a9, .int a10, d11, d12, d13, d14], [.int (nI 4), .ref a1, .int a10], h) (rfl) ?_
  obtain ⟨g1, e⟩ := gd_some e
  obtain ⟨h2, r3, eh2, e⟩ := bn_some e
  refine eb_cg (p := hT h a1 = 1) rfl g1 (f_QuillBoats_count_ev d (Nat.le_trans (by decide) hd) eh2) ?_
  show Eb _ 0 (420, [.ref a0, .ref a1, .ref a2, .int a3, d4, .int a5, .int a6, .int a7, .int a8, .int a9, .int a10, d11, d12, d13, d14], [.int r3, .int a10], h2) _ _
  refine eb_b (c := r3 ≤ a10) (465, [.ref a0, .ref a1, .ref a2, .int a3, d4, .int a5, .int a6, .int a7, .int a8, .int a9, .int a10, d11, d12, d13, d14], [], h2) (423, [.ref a0, .ref a1, .ref a2, .int a3, d4, .int a5, .int a6, .int a7, .int a8, .int a9, .int a10, d11, d12, d13, d14], [], h2) rfl (fun c4 => ?_) (fun c4 => ?_)
  · replace e := ite_t c4 e
    refine eb_n 2 (468, [.ref a0, .ref a1, .ref a2, .int a3, d4, .int a5, .int a6, .int a7, .int a8, .int a9, .int (nI 0), d11, d12, d13, d14], [], h2) (rfl) ?_
    exact f_Law_law_l468_ev d hd k28 hk28 FU _ _ _ _ _ _ _ _ _ _ _ _ _ _ _ _ e
  · replace e := ite_f c4 e
    refine eb_n 4 (429, [.ref a0, .ref a1, .ref a2, .int a3, d4, .int a5, .int a6, .int a7, .int a8, .int a9, .int a10, d11, d12, d13, d14], [.int (nI 4), .int a10, .ref a1, .int a5], h2) (rfl) ?_
    obtain ⟨g5, e⟩ := gd_some e
    obtain ⟨h6, r7, eh6, e⟩ := bn_some e
    refine eb_cg (p := hT h2 a1 = 1) rfl g5 (f_QuillBoats_peeler_ev d (Nat.le_trans (by decide) hd) eh6) ?_
    show Eb _ 0 (432, [.ref a0, .ref a1, .ref a2, .int a3, d4, .int a5, .int a6, .int a7, .int a8, .int a9, .int a10, d11, d12, d13, d14], [.int r7, .int a5], h6) _ _
    obtain ⟨x8, hx8, e⟩ := lq_some e
    refine eb_n 2 (435, [.ref a0, .ref a1, .ref a2, .int a3, d4, .int x8, .int a6, .int a7, .int a8, .int a9, .int a10, d11, d12, d13, d14], [], h6) (by subst hx8; rfl) ?_
    refine eb_n 3 (439, [.ref a0, .ref a1, .ref a2, .int a3, d4, .int x8, .int a6, .int a7, .int a8, .int a9, .int a10, d11, d12, d13, d14], [.int (nI 3), .int a10, .ref a1], h6) (rfl) ?_
    obtain ⟨g9, e⟩ := gd_some e
    obtain ⟨h10, r11, eh10, e⟩ := bn_some e
    refine eb_cg (p := hT h6 a1 = 1) rfl g9 (f_QuillBoats_peeler_ev d (Nat.le_trans (by decide) hd) eh10) ?_
    show Eb _ 0 (442, [.ref a0, .ref a1, .ref a2, .int a3, d4, .int x8, .int a6, .int a7, .int a8, .int a9, .int a10, d11, d12, d13, d14], [.int r11], h10) _ _
    refine eb_b (c := r11 < 0) (457, [.ref a0, .ref a1, .ref a2, .int a3, d4, .int x8, .int a6, .int a7, .int a8, .int a9, .int a10, d11, d12, d13, d14], [], h10) (445, [.ref a0, .ref a1, .ref a2, .int a3, d4, .int x8, .int a6, .int a7, .int a8, .int a9, .int a10, d11, d12, d13, d14], [], h10) rfl (fun c12 => ?_) (fun c12 => ?_)
    · replace e := ite_t c12 e
      refine eb_n 1 (458, [.ref a0, .ref a1, .ref a2, .int a3, d4, .int x8, .int a6, .int a7, .int a8, .int a9, .int a10, d11, d12, d13, d14], [.int (nI 0)], h10) (rfl) ?_
      rw [(sp_inj e).1, (sp_inj e).2]
      exact eb_rg (p := nrm 3 (nI 0)) rfl nrm_30
    · replace e := ite_f c12 e
      refine eb_n 3 (449, [.ref a0, .ref a1, .ref a2, .int a3, d4, .int x8, .int a6, .int a7, .int a8, .int a9, .int a10, d11, d12, d13, d14], [.int (nI 3), .int a10, .ref a1], h10) (rfl) ?_
      obtain ⟨g13, e⟩ := gd_some e
      obtain ⟨h14, r15, eh14, e⟩ := bn_some e
      refine eb_cg (p := hT h10 a1 = 1) rfl g13 (f_QuillBoats_peeler_ev d (Nat.le_trans (by decide) hd) eh14) ?_
      show Eb _ 0 (452, [.ref a0, .ref a1, .ref a2, .int a3, d4, .int x8, .int a6, .int a7, .int a8, .int a9, .int a10, d11, d12, d13, d14], [.int r15], h14) _ _
      refine eb_n 1 (454, [.ref a0, .ref a1, .ref a2, .int a3, d4, .int x8, .int a6, .int a7, .int a8, .int a9, .int a10, d11, d12, d13, d14], [.int (nI 20), .int r15], h14) (rfl) ?_
      refine eb_b (c := r15 ≤ (nI 20)) (459, [.ref a0, .ref a1, .ref a2, .int a3, d4, .int x8, .int a6, .int a7, .int a8, .int a9, .int a10, d11, d12, d13, d14], [], h14) (457, [.ref a0, .ref a1, .ref a2, .int a3, d4, .int x8, .int a6, .int a7, .int a8, .int a9, .int a10, d11, d12, d13, d14], [], h14) rfl (fun c16 => ?_) (fun c16 => ?_)
      · replace e := ite_t c16 e
        obtain ⟨x17, hx17, e⟩ := lq_some e
        refine eb_n 1 (462, [.ref a0, .ref a1, .ref a2, .int a3, d4, .int x8, .int a6, .int a7, .int a8, .int a9, .int x17, d11, d12, d13, d14], [], h14) (by subst hx17; rfl) ?_
        refine eb_n 1 (413, [.ref a0, .ref a1, .ref a2, .int a3, d4, .int x8, .int a6, .int a7, .int a8, .int a9, .int x17, d11, d12, d13, d14], [], h14) (rfl) ?_
        exact hk413 _ _ _ _ _ _ _ _ _ _ _ _ _ _ _ _ e
      · replace e := ite_f c16 e
        refine eb_n 1 (458, [.ref a0, .ref a1, .ref a2, .int a3, d4, .int x8, .int a6, .int a7, .int a8, .int a9, .int a10, d11, d12, d13, d14], [.int (nI 0)], h14) (rfl) ?_
        rw [(sp_inj e).1, (sp_inj e).2]
        exact eb_rg (p := nrm 3 (nI 0)) rfl nrm_30
set_option maxRecDepth 100000 in
set_option maxHeartbeats 4000000 in
theorem f_Law_law_l413_ev {h' : AH} {r : Int32} (d : Nat) (hd : 68 ≤ d) (k28 : AH → Nat → Nat → Nat → Int32 → Option (AH × Int32)) (hk28 : ∀ (h : AH) (a0 : Nat) (a1 : Nat) (a2 : Nat) (a3 : Int32)  (d4 : Value) (d5 : Value) (d6 : Value) (d7 : Value) (d8 : Value) (d9 : Value) (d10 : Value) (d11 : Value) (d12 : Value) (d13 : Value) (d14 : Value), k28 h a0 a1 a2 a3 = some (h', r) → Eb (Ev tb mL d) 0 (28, [.ref a0, .ref a1, .ref a2, .int a3, d4, d5, d6, d7, d8, d9, d10, d11, d12, d13, d14], [], h) h' (some (.int r)))  : ∀ (n : Nat) (h : AH) (a0 : Nat) (a1 : Nat) (a2 : Nat) (a3 : Int32) (a5 : Int32) (a6 : Int32) (a7 : Int32) (a8 : Int32) (a9 : Int32) (a10 : Int32)  (d4 : Value) (d11 : Value) (d12 : Value) (d13 : Value) (d14 : Value) (_ : f_Law_law_l413 k28 n h a0 a1 a2 a3 a5 a6 a7 a8 a9 a10 = some (h', r)), Eb (Ev tb mL d) 0 (413, [.ref a0, .ref a1, .ref a2, .int a3, d4, .int a5, .int a6, .int a7, .int a8, .int a9, .int a10, d11, d12, d13, d14], [], h) h' (some (.int r)) := by
  intro n
  induction n with
  | zero => intro h a0 a1 a2 a3 a5 a6 a7 a8 a9 a10 d4 d11 d12 d13 d14 e; exact nomatch e
  | succ n ih =>
    intro h a0 a1 a2 a3 a5 a6 a7 a8 a9 a10 d4 d11 d12 d13 d14 e
    exact f_Law_law_b413_ev d hd k28 _ hk28 (fun h a0 a1 a2 a3 a5 a6 a7 a8 a9 a10 d4 d11 d12 d13 d14 e => ih h a0 a1 a2 a3 a5 a6 a7 a8 a9 a10 d4 d11 d12 d13 d14 e) h a0 a1 a2 a3 a5 a6 a7 a8 a9 a10 d4 d11 d12 d13 d14 e
set_option maxRecDepth 100000 in
set_option maxHeartbeats 4000000 in
theorem f_Law_law_b374_ev {h' : AH} {r : Int32} (d : Nat) (hd : 68 ≤ d) (k28 : AH → Nat → Nat → Nat → Int32 → Option (AH × Int32)) (k195 : AH → Nat → Nat → Nat → Int32 → Int32 → Int32 → Int32 → Int32 → Int32 → Int32 → Option (AH × Int32)) (k217 : AH → Nat → Nat → Nat → Int32 → Int32 → Int32 → Int32 → Int32 → Int32 → Int32 → Int32 → Int32 → Option (AH × Int32)) (hk28 : ∀ (h : AH) (a0 : Nat) (a1 : Nat) (a2 : Nat) (a3 : Int32)  (d4 : Value) (d5 : Value) (d6 : Value) (d7 : Value) (d8 : Value) (d9 : Value) (d10 : Value) (d11 : Value) (d12 : Value) (d13 : Value) (d14 : Value), k28 h a0 a1 a2 a3 = some (h', r) → Eb (Ev tb mL d) 0 (28, [.ref a0, .ref a1, .ref a2, .int a3, d4, d5, d6, d7, d8, d9, d10, d11, d12, d13, d14], [], h) h' (some (.int r))) (hk195 : ∀ (h : AH) (a0 : Nat) (a1 : Nat) (a2 : Nat) (a3 : Int32) (a5 : Int32) (a6 : Int32) (a7 : Int32) (a8 : Int32) (a9 : Int32) (a10 : Int32)  (d4 : Value) (d11 : Value) (d12 : Value) (d13 : Value) (d14 : Value), k195 h a0 a1 a2 a3 a5 a6 a7 a8 a9 a10 = some (h', r) → Eb (Ev tb mL d) 0 (195, [.ref a0, .ref a1, .ref a2, .int a3, d4, .int a5, .int a6, .int a7, .int a8, .int a9, .int a10, d11, d12, d13, d14], [], h) h' (some (.int r))) (hk217 : ∀ (h : AH) (a0 : Nat) (a1 : Nat) (a2 : Nat) (a3 : Int32) (a5 : Int32) (a6 : Int32) (a7 : Int32) (a8 : Int32) (a9 : Int32) (a10 : Int32) (a11 : Int32) (a12 : Int32)  (d4 : Value) (d13 : Value) (d14 : Value), k217 h a0 a1 a2 a3 a5 a6 a7 a8 a9 a10 a11 a12 = some (h', r) → Eb (Ev tb mL d) 0 (217, [.ref a0, .ref a1, .ref a2, .int a3, d4, .int a5, .int a6, .int a7, .int a8, .int a9, .int a10, .int a11, .int a12, d13, d14], [], h) h' (some (.int r)))  (h : AH) (a0 : Nat) (a1 : Nat) (a2 : Nat) (a3 : Int32) (a5 : Int32) (a6 : Int32) (a7 : Int32) (a8 : Int32) (a9 : Int32) (a10 : Int32) (a11 : Int32) (a12 : Int32) (s0 : Int32) (s1 : Int32) (d4 : Value) (d13 : Value) (d14 : Value) (e : f_Law_law_b374 k28 k195 k217 h a0 a1 a2 a3 a5 a6 a7 a8 a9 a10 a11 a12 s0 s1 = some (h', r)) : Eb (Ev tb mL d) 0 (374, [.ref a0, .ref a1, .ref a2, .int a3, d4, .int a5, .int a6, .int a7, .int a8, .int a9, .int a10, .int a11, .int a12, d13, d14], [.int s1, .int s0], h) h' (some (.int r)) := by
  unfold f_Law_law_b374 at e
  refine eb_b (c := s1 ≤ s0) (379, [.ref a0, .ref a1, .ref a2, .int a3, d4, .int a5, .int a6, .int a7, .int a8, .int a9, .int a10, .int a11, .int a12, d13, d14], [], h) (377, [.ref a0, .ref a1, .ref a2, .int a3, d4, .int a5, .int a6, .int a7, .int a8, .int a9, .int a10, .int a11, .int a12, d13, d14], [], h) rfl (fun c1 => ?_) (fun c1 => ?_)
  · replace e := ite_t c1 e
    obtain ⟨x2, hx2, e⟩ := lq_some e
    refine eb_n 1 (382, [.ref a0, .ref a1, .ref a2, .int a3, d4, .int a5, .int a6, .int a7, .int a8, .int a9, .int a10, .int a11, .int x2, d13, d14], [], h) (by subst hx2; rfl) ?_
    refine eb_n 1 (217, [.ref a0, .ref a1, .ref a2, .int a3, d4, .int a5, .int a6, .int a7, .int a8, .int a9, .int a10, .int a11, .int x2, d13, d14], [], h) (rfl) ?_
    exact hk217 _ _ _ _ _ _ _ _ _ _ _ _ _ _ _ _ e
  · replace e := ite_f c1 e
    refine eb_n 1 (378, [.ref a0, .ref a1, .ref a2, .int a3, d4, .int a5, .int a6, .int a7, .int a8, .int a9, .int a10, .int a11, .int a12, d13, d14], [.int (nI 0)], h) (rfl) ?_
    rw [(sp_inj e).1, (sp_inj e).2]
    exact eb_rg (p := nrm 3 (nI 0)) rfl nrm_30
set_option maxRecDepth 100000 in
set_option maxHeartbeats 4000000 in
theorem f_Law_law_b217_ev {h' : AH} {r : Int32} (d : Nat) (hd : 68 ≤ d) (k28 : AH → Nat → Nat → Nat → Int32 → Option (AH × Int32)) (k195 : AH → Nat → Nat → Nat → Int32 → Int32 → Int32 → Int32 → Int32 → Int32 → Int32 → Option (AH × Int32)) (k217 : AH → Nat → Nat → Nat → Int32 → Int32 → Int32 → Int32 → Int32 → Int32 → Int32 → Int32 → Int32 → Option (AH × Int32)) (hk28 : ∀ (h : AH) (a0 : Nat) (a1 : Nat) (a2 : Nat) (a3 : Int32)  (d4 : Value) (d5 : Value) (d6 : Value) (d7 : Value) (d8 : Value) (d9 : Value) (d10 : Value) (d11 : Value) (d12 : Value) (d13 : Value) (d14 : Value), k28 h a0 a1 a2 a3 = some (h', r) → Eb (Ev tb mL d) 0 (28, [.ref a0, .ref a1, .ref a2, .int a3, d4, d5, d6, d7, d8, d9, d10, d11, d12, d13, d14], [], h) h' (some (.int r))) (hk195 : ∀ (h : AH) (a0 : Nat) (a1 : Nat) (a2 : Nat) (a3 : Int32) (a5 : Int32) (a6 : Int32) (a7 : Int32) (a8 : Int32) (a9 : Int32) (a10 : Int32)  (d4 : Value) (d11 : Value) (d12 : Value) (d13 : Value) (d14 : Value), k195 h a0 a1 a2 a3 a5 a6 a7 a8 a9 a10 = some (h', r) → Eb (Ev tb mL d) 0 (195, [.ref a0, .ref a1, .ref a2, .int a3, d4, .int a5, .int a6, .int a7, .int a8, .int a9, .int a10, d11, d12, d13, d14], [], h) h' (some (.int r))) (hk217 : ∀ (h : AH) (a0 : Nat) (a1 : Nat) (a2 : Nat) (a3 : Int32) (a5 : Int32) (a6 : Int32) (a7 : Int32) (a8 : Int32) (a9 : Int32) (a10 : Int32) (a11 : Int32) (a12 : Int32)  (d4 : Value) (d13 : Value) (d14 : Value), k217 h a0 a1 a2 a3 a5 a6 a7 a8 a9 a10 a11 a12 = some (h', r) → Eb (Ev tb mL d) 0 (217, [.ref a0, .ref a1, .ref a2, .int a3, d4, .int a5, .int a6, .int a7, .int a8, .int a9, .int a10, .int a11, .int a12, d13, d14], [], h) h' (some (.int r)))  (h : AH) (a0 : Nat) (a1 : Nat) (a2 : Nat) (a3 : Int32) (a5 : Int32) (a6 : Int32) (a7 : Int32) (a8 : Int32) (a9 : Int32) (a10 : Int32) (a11 : Int32) (a12 : Int32)  (d4 : Value) (d13 : Value) (d14 : Value) (e : f_Law_law_b217 k28 k195 k217 h a0 a1 a2 a3 a5 a6 a7 a8 a9 a10 a11 a12 = some (h', r)) : Eb (Ev tb mL d) 0 (217, [.ref a0, .ref a1, .ref a2, .int a3, d4, .int a5, .int a6, .int a7, .int a8, .int a9, .int a10, .int a11, .int a12, d13, d14], [], h) h' (some (.int r)) := by
  unfold f_Law_law_b217 at e
  refine eb_n 4 (223, [.ref a0, .ref a1, .ref a2, .int a3, d4, .int a5, .int a6, .int a7, .int a8, .int a9, .int a10, .int a11, .int a12, d13, d14], [.int (nI 2), .int a10, .ref a1, .int a12], h) (rfl) ?_
  obtain ⟨g1, e⟩ := gd_some e
  obtain ⟨h2, r3, eh2, e⟩ := bn_some e
  refine eb_cg (p := hT h a1 = 1) rfl g1 (f_QuillBoats_rack_ev d (Nat.le_trans (by decide) hd) eh2) ?_
  show Eb _ 0 (226, [.ref a0, .ref a1, .ref a2, .int a3, d4, .int a5, .int a6, .int a7, .int a8, .int a9, .int a10, .int a11, .int a12, d13, d14], [.int r3, .int a12], h2) _ _
  refine eb_b (c := r3 ≤ a12) (385, [.ref a0, .ref a1, .ref a2, .int a3, d4, .int a5, .int a6, .int a7, .int a8, .int a9, .int a10, .int a11, .int a12, d13, d14], [], h2) (229, [.ref a0, .ref a1, .ref a2, .int a3, d4, .int a5, .int a6, .int a7, .int a8, .int a9, .int a10, .int a11, .int a12, d13, d14], [], h2) rfl (fun c4 => ?_) (fun c4 => ?_)
  · replace e := ite_t c4 e
    refine eb_n 4 (391, [.ref a0, .ref a1, .ref a2, .int a3, d4, .int a5, .int a6, .int a7, .int a8, .int a9, .int a10, .int a11, .int a12, d13, d14], [.int (nI 1), .int a10, .ref a1, .int a11], h2) (rfl) ?_
    obtain ⟨g5, e⟩ := gd_some e
    obtain ⟨h6, r7, eh6, e⟩ := bn_some e
    refine eb_cg (p := hT h2 a1 = 1) rfl g5 (f_QuillBoats_rack_ev d (Nat.le_trans (by decide) hd) eh6) ?_
    show Eb _ 0 (394, [.ref a0, .ref a1, .ref a2, .int a3, d4, .int a5, .int a6, .int a7, .int a8, .int a9, .int a10, .int a11, .int a12, d13, d14], [.int r7, .int a11], h6) _ _
    refine eb_b (c := ¬ a11 = r7) (402, [.ref a0, .ref a1, .ref a2, .int a3, d4, .int a5, .int a6, .int a7, .int a8, .int a9, .int a10, .int a11, .int a12, d13, d14], [], h6) (397, [.ref a0, .ref a1, .ref a2, .int a3, d4, .int a5, .int a6, .int a7, .int a8, .int a9, .int a10, .int a11, .int a12, d13, d14], [], h6) rfl (fun c8 => ?_) (fun c8 => ?_)
    · replace e := ite_t c8 e
      refine eb_n 1 (403, [.ref a0, .ref a1, .ref a2, .int a3, d4, .int a5, .int a6, .int a7, .int a8, .int a9, .int a10, .int a11, .int a12, d13, d14], [.int (nI 0)], h6) (rfl) ?_
      rw [(sp_inj e).1, (sp_inj e).2]
      exact eb_rg (p := nrm 3 (nI 0)) rfl nrm_30
    · replace e := ite_f c8 e
      refine eb_n 1 (399, [.ref a0, .ref a1, .ref a2, .int a3, d4, .int a5, .int a6, .int a7, .int a8, .int a9, .int a10, .int a11, .int a12, d13, d14], [.int a11], h6) (rfl) ?_
      refine eb_b (c := 0 ≤ a11) (404, [.ref a0, .ref a1, .ref a2, .int a3, d4, .int a5, .int a6, .int a7, .int a8, .int a9, .int a10, .int a11, .int a12, d13, d14], [], h6) (402, [.ref a0, .ref a1, .ref a2, .int a3, d4, .int a5, .int a6, .int a7, .int a8, .int a9, .int a10, .int a11, .int a12, d13, d14], [], h6) rfl (fun c9 => ?_) (fun c9 => ?_)
      · replace e := ite_t c9 e
        obtain ⟨x10, hx10, e⟩ := lq_some e
        refine eb_n 1 (407, [.ref a0, .ref a1, .ref a2, .int a3, d4, .int a5, .int a6, .int a7, .int a8, .int a9, .int x10, .int a11, .int a12, d13, d14], [], h6) (by subst hx10; rfl) ?_
        refine eb_n 1 (195, [.ref a0, .ref a1, .ref a2, .int a3, d4, .int a5, .int a6, .int a7, .int a8, .int a9, .int x10, .int a11, .int a12, d13, d14], [], h6) (rfl) ?_
        exact hk195 _ _ _ _ _ _ _ _ _ _ _ _ _ _ _ _ e
      · replace e := ite_f c9 e
        refine eb_n 1 (403, [.ref a0, .ref a1, .ref a2, .int a3, d4, .int a5, .int a6, .int a7, .int a8, .int a9, .int a10, .int a11, .int a12, d13, d14], [.int (nI 0)], h6) (rfl) ?_
        rw [(sp_inj e).1, (sp_inj e).2]
        exact eb_rg (p := nrm 3 (nI 0)) rfl nrm_30
  · replace e := ite_f c4 e
    refine eb_n 4 (235, [.ref a0, .ref a1, .ref a2, .int a3, d4, .int a5, .int a6, .int a7, .int a8, .int a9, .int a10, .int a11, .int a12, d13, d14], [.int (nI 0), .int a12, .int a10, .ref a1], h2) (rfl) ?_
    obtain ⟨g11, e⟩ := gd_some e
    obtain ⟨h12, r13, eh12, e⟩ := bn_some e
    refine eb_cg (p := hT h2 a1 = 1) rfl g11 (f_QuillBoats_bundle_ev d (Nat.le_trans (by decide) hd) eh12) ?_
    show Eb _ 0 (238, [.ref a0, .ref a1, .ref a2, .int a3, d4, .int a5, .int a6, .int a7, .int a8, .int a9, .int a10, .int a11, .int a12, d13, d14], [.int r13], h12) _ _
    obtain ⟨x14, hx14, e⟩ := lq_some e
    refine eb_n 5 (247, [.ref a0, .ref a1, .ref a2, .int a3, d4, .int a5, .int a6, .int a7, .int a8, .int a9, .int a10, .int x14, .int a12, .int r13, d14], [], h12) (by subst hx14; rfl) ?_
    obtain ⟨x15, hx15, e⟩ := lq_some e
    refine eb_n 4 (254, [.ref a0, .ref a1, .ref a2, .int a3, d4, .int a5, .int a6, .int a7, .int x15, .int a9, .int a10, .int x14, .int a12, .int r13, d14], [], h12) (by subst hx15; rfl) ?_
    refine eb_n 2 (257, [.ref a0, .ref a1, .ref a2, .int a3, d4, .int a5, .int a6, .int a7, .int x15, .int a9, .int a10, .int x14, .int a12, .int r13, d14], [.int (nI 1), .int r13], h12) (rfl) ?_
    refine eb_b (c := r13 < (nI 1)) (321, [.ref a0, .ref a1, .ref a2, .int a3, d4, .int a5, .int a6, .int a7, .int x15, .int a9, .int a10, .int x14, .int a12, .int r13, d14], [], h12) (260, [.ref a0, .ref a1, .ref a2, .int a3, d4, .int a5, .int a6, .int a7, .int x15, .int a9, .int a10, .int x14, .int a12, .int r13, d14], [], h12) rfl (fun c16 => ?_) (fun c16 => ?_)
    · replace e := ite_t c16 e
      refine eb_n 1 (322, [.ref a0, .ref a1, .ref a2, .int a3, d4, .int a5, .int a6, .int a7, .int x15, .int a9, .int a10, .int x14, .int a12, .int r13, d14], [.int (nI 0)], h12) (rfl) ?_
      rw [(sp_inj e).1, (sp_inj e).2]
      exact eb_rg (p := nrm 3 (nI 0)) rfl nrm_30
    · replace e := ite_f c16 e
      refine eb_n 4 (266, [.ref a0, .ref a1, .ref a2, .int a3, d4, .int a5, .int a6, .int a7, .int x15, .int a9, .int a10, .int x14, .int a12, .int r13, d14], [.int (nI 2), .int a12, .int a10, .ref a1], h12) (rfl) ?_
      obtain ⟨g17, e⟩ := gd_some e
      obtain ⟨h18, r19, eh18, e⟩ := bn_some e
      refine eb_cg (p := hT h12 a1 = 1) rfl g17 (f_QuillBoats_bundle_ev d (Nat.le_trans (by decide) hd) eh18) ?_
      show Eb _ 0 (269, [.ref a0, .ref a1, .ref a2, .int a3, d4, .int a5, .int a6, .int a7, .int x15, .int a9, .int a10, .int x14, .int a12, .int r13, d14], [.int r19], h18) _ _
      refine eb_n 5 (276, [.ref a0, .ref a1, .ref a2, .int a3, d4, .int a5, .int a6, .int a7, .int x15, .int a9, .int a10, .int x14, .int a12, .int r13, d14], [.int (nI 1), .int a12, .int a10, .ref a1, .int (nI 3), .int r19], h18) (rfl) ?_
      obtain ⟨g20, e⟩ := gd_some e
      obtain ⟨h21, r22, eh21, e⟩ := bn_some e
      refine eb_cg (p := hT h18 a1 = 1) rfl g20 (f_QuillBoats_bundle_ev d (Nat.le_trans (by decide) hd) eh21) ?_
      show Eb _ 0 (279, [.ref a0, .ref a1, .ref a2, .int a3, d4, .int a5, .int a6, .int a7, .int x15, .int a9, .int a10, .int x14, .int a12, .int r13, d14], [.int r22, .int (nI 3), .int r19], h21) _ _
      refine eb_n 1 (280, [.ref a0, .ref a1, .ref a2, .int a3, d4, .int a5, .int a6, .int a7, .int x15, .int a9, .int a10, .int x14, .int a12, .int r13, d14], [.int ((nI 3) * r22), .int r19], h21) (rfl) ?_
      refine eb_b (c := ((nI 3) * r22) ≤ r19) (321, [.ref a0, .ref a1, .ref a2, .int a3, d4, .int a5, .int a6, .int a7, .int x15, .int a9, .int a10, .int x14, .int a12, .int r13, d14], [], h21) (283, [.ref a0, .ref a1, .ref a2, .int a3, d4, .int a5, .int a6, .int a7, .int x15, .int a9, .int a10, .int x14, .int a12, .int r13, d14], [], h21) rfl (fun c23 => ?_) (fun c23 => ?_)
      · replace e := ite_t c23 e
        refine eb_n 1 (322, [.ref a0, .ref a1, .ref a2, .int a3, d4, .int a5, .int a6, .int a7, .int x15, .int a9, .int a10, .int x14, .int a12, .int r13, d14], [.int (nI 0)], h21) (rfl) ?_
        rw [(sp_inj e).1, (sp_inj e).2]
        exact eb_rg (p := nrm 3 (nI 0)) rfl nrm_30
      · replace e := ite_f c23 e
        refine eb_n 4 (289, [.ref a0, .ref a1, .ref a2, .int a3, d4, .int a5, .int a6, .int a7, .int x15, .int a9, .int a10, .int x14, .int a12, .int r13, d14], [.int (nI 4), .int a12, .int a10, .ref a1], h21) (rfl) ?_
        obtain ⟨g24, e⟩ := gd_some e
        obtain ⟨h25, r26, eh25, e⟩ := bn_some e
        refine eb_cg (p := hT h21 a1 = 1) rfl g24 (f_QuillBoats_bundle_ev d (Nat.le_trans (by decide) hd) eh25) ?_
        show Eb _ 0 (292, [.ref a0, .ref a1, .ref a2, .int a3, d4, .int a5, .int a6, .int a7, .int x15, .int a9, .int a10, .int x14, .int a12, .int r13, d14], [.int r26], h25) _ _
        refine eb_n 4 (298, [.ref a0, .ref a1, .ref a2, .int a3, d4, .int a5, .int a6, .int a7, .int x15, .int a9, .int a10, .int x14, .int a12, .int r13, d14], [.int (nI 1), .int a12, .int a10, .ref a1, .int r26], h25) (rfl) ?_
        obtain ⟨g27, e⟩ := gd_some e
        obtain ⟨h28, r29, eh28, e⟩ := bn_some e
        refine eb_cg (p := hT h25 a1 = 1) rfl g27 (f_QuillBoats_bundle_ev d (Nat.le_trans (by decide) hd) eh28) ?_
        show Eb _ 0 (301, [.ref a0, .ref a1, .ref a2, .int a3, d4, .int a5, .int a6, .int a7, .int x15, .int a9, .int a10, .int x14, .int a12, .int r13, d14], [.int r29, .int r26], h28) _ _
        refine eb_n 3 (304, [.ref a0, .ref a1, .ref a2, .int a3, d4, .int a5, .int a6, .int a7, .int x15, .int a9, .int a10, .int x14, .int a12, .int r13, d14], [.int (nI 3), .int (r29 - (nI 1)), .int r26], h28) (rfl) ?_
        refine eb_g (p := ¬ (nI 3) = 0) (305, [.ref a0, .ref a1, .ref a2, .int a3, d4, .int a5, .int a6, .int a7, .int x15, .int a9, .int a10, .int x14, .int a12, .int r13, d14], [.int ((r29 - (nI 1)) / (nI 3)), .int r26], h28) rfl (by decide) ?_
        refine eb_b (c := r26 < ((r29 - (nI 1)) / (nI 3))) (321, [.ref a0, .ref a1, .ref a2, .int a3, d4, .int a5, .int a6, .int a7, .int x15, .int a9, .int a10, .int x14, .int a12, .int r13, d14], [], h28) (308, [.ref a0, .ref a1, .ref a2, .int a3, d4, .int a5, .int a6, .int a7, .int x15, .int a9, .int a10, .int x14, .int a12, .int r13, d14], [], h28) rfl (fun c30 => ?_) (fun c30 => ?_)
        · replace e := ite_t c30 e
          refine eb_n 1 (322, [.ref a0, .ref a1, .ref a2, .int a3, d4, .int a5, .int a6, .int a7, .int x15, .int a9, .int a10, .int x14, .int a12, .int r13, d14], [.int (nI 0)], h28) (rfl) ?_
          rw [(sp_inj e).1, (sp_inj e).2]
          exact eb_rg (p := nrm 3 (nI 0)) rfl nrm_30
        · replace e := ite_f c30 e
          refine eb_n 4 (314, [.ref a0, .ref a1, .ref a2, .int a3, d4, .int a5, .int a6, .int a7, .int x15, .int a9, .int a10, .int x14, .int a12, .int r13, d14], [.int (nI 4), .int a12, .int a10, .ref a1], h28) (rfl) ?_
          obtain ⟨g31, e⟩ := gd_some e
          obtain ⟨h32, r33, eh32, e⟩ := bn_some e
          refine eb_cg (p := hT h28 a1 = 1) rfl g31 (f_QuillBoats_bundle_ev d (Nat.le_trans (by decide) hd) eh32) ?_
          show Eb _ 0 (317, [.ref a0, .ref a1, .ref a2, .int a3, d4, .int a5, .int a6, .int a7, .int x15, .int a9, .int a10, .int x14, .int a12, .int r13, d14], [.int r33], h32) _ _
          refine eb_n 1 (318, [.ref a0, .ref a1, .ref a2, .int a3, d4, .int a5, .int a6, .int a7, .int x15, .int a9, .int a10, .int x14, .int a12, .int r13, d14], [.int (nI 3), .int r33], h32) (rfl) ?_
          refine eb_b (c := r33 ≤ (nI 3)) (323, [.ref a0, .ref a1, .ref a2, .int a3, d4, .int a5, .int a6, .int a7, .int x15, .int a9, .int a10, .int x14, .int a12, .int r13, d14], [], h32) (321, [.ref a0, .ref a1, .ref a2, .int a3, d4, .int a5, .int a6, .int a7, .int x15, .int a9, .int a10, .int x14, .int a12, .int r13, d14], [], h32) rfl (fun c34 => ?_) (fun c34 => ?_)
          · replace e := ite_t c34 e
            refine eb_n 4 (329, [.ref a0, .ref a1, .ref a2, .int a3, d4, .int a5, .int a6, .int a7, .int x15, .int a9, .int a10, .int x14, .int a12, .int r13, d14], [.int (nI 0), .int a12, .int a10, .ref a1], h32) (rfl) ?_
            obtain ⟨g35, e⟩ := gd_some e
            obtain ⟨h36, r37, eh36, e⟩ := bn_some e
            refine eb_cg (p := hT h32 a1 = 1) rfl g35 (f_QuillBoats_dry_ev d (Nat.le_trans (by decide) hd) eh36) ?_
            show Eb _ 0 (332, [.ref a0, .ref a1, .ref a2, .int a3, d4, .int a5, .int a6, .int a7, .int x15, .int a9, .int a10, .int x14, .int a12, .int r13, d14], [.int r37], h36) _ _
            refine eb_n 2 (336, [.ref a0, .ref a1, .ref a2, .int a3, d4, .int a5, .int a6, .int a7, .int x15, .int a9, .int a10, .int x14, .int a12, .int r13, .int r37], [.int r37], h36) (rfl) ?_
            refine eb_b (c := r37 = 0) (377, [.ref a0, .ref a1, .ref a2, .int a3, d4, .int a5, .int a6, .int a7, .int x15, .int a9, .int a10, .int x14, .int a12, .int r13, .int r37], [], h36) (339, [.ref a0, .ref a1, .ref a2, .int a3, d4, .int a5, .int a6, .int a7, .int x15, .int a9, .int a10, .int x14, .int a12, .int r13, .int r37], [], h36) rfl (fun c38 => ?_) (fun c38 => ?_)
            · replace e := ite_t c38 e
              refine eb_n 1 (378, [.ref a0, .ref a1, .ref a2, .int a3, d4, .int a5, .int a6, .int a7, .int x15, .int a9, .int a10, .int x14, .int a12, .int r13, .int r37], [.int (nI 0)], h36) (rfl) ?_
              rw [(sp_inj e).1, (sp_inj e).2]
              exact eb_rg (p := nrm 3 (nI 0)) rfl nrm_30
            · replace e := ite_f c38 e
              refine eb_n 2 (344, [.ref a0, .ref a1, .ref a2, .int a3, d4, .int a5, .int a6, .int a7, .int x15, .int a9, .int a10, .int x14, .int a12, .int r13, .int r37], [.int (nI 300), .int r37], h36) (rfl) ?_
              refine eb_b (c := (nI 300) < r37) (377, [.ref a0, .ref a1, .ref a2, .int a3, d4, .int a5, .int a6, .int a7, .int x15, .int a9, .int a10, .int x14, .int a12, .int r13, .int r37], [], h36) (347, [.ref a0, .ref a1, .ref a2, .int a3, d4, .int a5, .int a6, .int a7, .int x15, .int a9, .int a10, .int x14, .int a12, .int r13, .int r37], [], h36) rfl (fun c39 => ?_) (fun c39 => ?_)
              · replace e := ite_t c39 e
                refine eb_n 1 (378, [.ref a0, .ref a1, .ref a2, .int a3, d4, .int a5, .int a6, .int a7, .int x15, .int a9, .int a10, .int x14, .int a12, .int r13, .int r37], [.int (nI 0)], h36) (rfl) ?_
                rw [(sp_inj e).1, (sp_inj e).2]
                exact eb_rg (p := nrm 3 (nI 0)) rfl nrm_30
              · replace e := ite_f c39 e
                refine eb_n 4 (353, [.ref a0, .ref a1, .ref a2, .int a3, d4, .int a5, .int a6, .int a7, .int x15, .int a9, .int a10, .int x14, .int a12, .int r13, .int r37], [.int (nI 1), .int a12, .int a10, .ref a1], h36) (rfl) ?_
                obtain ⟨g40, e⟩ := gd_some e
                obtain ⟨h41, r42, eh41, e⟩ := bn_some e
                refine eb_cg (p := hT h36 a1 = 1) rfl g40 (f_QuillBoats_dry_ev d (Nat.le_trans (by decide) hd) eh41) ?_
                show Eb _ 0 (356, [.ref a0, .ref a1, .ref a2, .int a3, d4, .int a5, .int a6, .int a7, .int x15, .int a9, .int a10, .int x14, .int a12, .int r13, .int r37], [.int r42], h41) _ _
                refine eb_n 1 (358, [.ref a0, .ref a1, .ref a2, .int a3, d4, .int a5, .int a6, .int a7, .int x15, .int a9, .int a10, .int x14, .int a12, .int r13, .int r37], [.int r37, .int r42], h41) (rfl) ?_
                refine eb_b (c := 0 ≤ r37) (365, [.ref a0, .ref a1, .ref a2, .int a3, d4, .int a5, .int a6, .int a7, .int x15, .int a9, .int a10, .int x14, .int a12, .int r13, .int r37], [.int r42], h41) (361, [.ref a0, .ref a1, .ref a2, .int a3, d4, .int a5, .int a6, .int a7, .int x15, .int a9, .int a10, .int x14, .int a12, .int r13, .int r37], [.int r42], h41) rfl (fun c43 => ?_) (fun c43 => ?_)
                · replace e := ite_t c43 e
                  refine eb_n 4 (371, [.ref a0, .ref a1, .ref a2, .int a3, d4, .int a5, .int a6, .int a7, .int x15, .int a9, .int a10, .int x14, .int a12, .int r13, .int r37], [.int (nI 4), .int a12, .int a10, .ref a1, .int r42], h41) (rfl) ?_
                  obtain ⟨g44, e⟩ := gd_some e
                  obtain ⟨h45, r46, eh45, e⟩ := bn_some e
                  refine eb_cg (p := hT h41 a1 = 1) rfl g44 (f_QuillBoats_bundle_ev d (Nat.le_trans (by decide) hd) eh45) ?_
                  show Eb _ 0 (374, [.ref a0, .ref a1, .ref a2, .int a3, d4, .int a5, .int a6, .int a7, .int x15, .int a9, .int a10, .int x14, .int a12, .int r13, .int r37], [.int r46, .int r42], h45) _ _
                  exact f_Law_law_b374_ev d hd k28 k195 k217 hk28 hk195 hk217 _ _ _ _ _ _ _ _ _ _ _ _ _ _ _ _ _ _ e
                · replace e := ite_f c43 e
                  refine eb_n 2 (374, [.ref a0, .ref a1, .ref a2, .int a3, d4, .int a5, .int a6, .int a7, .int x15, .int a9, .int a10, .int x14, .int a12, .int r13, .int r37], [.int (-nI 1), .int r42], h41) (rfl) ?_
                  exact f_Law_law_b374_ev d hd k28 k195 k217 hk28 hk195 hk217 _ _ _ _ _ _ _ _ _ _ _ _ _ _ _ _ _ _ e
          · replace e := ite_f c34 e
            refine eb_n 1 (322, [.ref a0, .ref a1, .ref a2, .int a3, d4, .int a5, .int a6, .int a7, .int x15, .int a9, .int a10, .int x14, .int a12, .int r13, d14], [.int (nI 0)], h32) (rfl) ?_
            rw [(sp_inj e).1, (sp_inj e).2]
            exact eb_rg (p := nrm 3 (nI 0)) rfl nrm_30
set_option maxRecDepth 100000 in
set_option maxHeartbeats 4000000 in
theorem f_Law_law_l217_ev {h' : AH} {r : Int32} (d : Nat) (hd : 68 ≤ d) (k28 : AH → Nat → Nat → Nat → Int32 → Option (AH × Int32)) (k195 : AH → Nat → Nat → Nat → Int32 → Int32 → Int32 → Int32 → Int32 → Int32 → Int32 → Option (AH × Int32)) (hk28 : ∀ (h : AH) (a0 : Nat) (a1 : Nat) (a2 : Nat) (a3 : Int32)  (d4 : Value) (d5 : Value) (d6 : Value) (d7 : Value) (d8 : Value) (d9 : Value) (d10 : Value) (d11 : Value) (d12 : Value) (d13 : Value) (d14 : Value), k28 h a0 a1 a2 a3 = some (h', r) → Eb (Ev tb mL d) 0 (28, [.ref a0, .ref a1, .ref a2, .int a3, d4, d5, d6, d7, d8, d9, d10, d11, d12, d13, d14], [], h) h' (some (.int r))) (hk195 : ∀ (h : AH) (a0 : Nat) (a1 : Nat) (a2 : Nat) (a3 : Int32) (a5 : Int32) (a6 : Int32) (a7 : Int32) (a8 : Int32) (a9 : Int32) (a10 : Int32)  (d4 : Value) (d11 : Value) (d12 : Value) (d13 : Value) (d14 : Value), k195 h a0 a1 a2 a3 a5 a6 a7 a8 a9 a10 = some (h', r) → Eb (Ev tb mL d) 0 (195, [.ref a0, .ref a1, .ref a2, .int a3, d4, .int a5, .int a6, .int a7, .int a8, .int a9, .int a10, d11, d12, d13, d14], [], h) h' (some (.int r)))  : ∀ (n : Nat) (h : AH) (a0 : Nat) (a1 : Nat) (a2 : Nat) (a3 : Int32) (a5 : Int32) (a6 : Int32) (a7 : Int32) (a8 : Int32) (a9 : Int32) (a10 : Int32) (a11 : Int32) (a12 : Int32)  (d4 : Value) (d13 : Value) (d14 : Value) (_ : f_Law_law_l217 k28 k195 n h a0 a1 a2 a3 a5 a6 a7 a8 a9 a10 a11 a12 = some (h', r)), Eb (Ev tb mL d) 0 (217, [.ref a0, .ref a1, .ref a2, .int a3, d4, .int a5, .int a6, .int a7, .int a8, .int a9, .int a10, .int a11, .int a12, d13, d14], [], h) h' (some (.int r)) := by
  intro n
  induction n with
  | zero => intro h a0 a1 a2 a3 a5 a6 a7 a8 a9 a10 a11 a12 d4 d13 d14 e; exact nomatch e
  | succ n ih =>
    intro h a0 a1 a2 a3 a5 a6 a7 a8 a9 a10 a11 a12 d4 d13 d14 e
    exact f_Law_law_b217_ev d hd k28 k195 _ hk28 hk195 (fun h a0 a1 a2 a3 a5 a6 a7 a8 a9 a10 a11 a12 d4 d13 d14 e => ih h a0 a1 a2 a3 a5 a6 a7 a8 a9 a10 a11 a12 d4 d13 d14 e) h a0 a1 a2 a3 a5 a6 a7 a8 a9 a10 a11 a12 d4 d13 d14 e
set_option maxRecDepth 100000 in
set_option maxHeartbeats 4000000 in
theorem f_Law_law_b195_ev {h' : AH} {r : Int32} (d : Nat) (hd : 68 ≤ d) (k28 : AH → Nat → Nat → Nat → Int32 → Option (AH × Int32)) (k195 : AH → Nat → Nat → Nat → Int32 → Int32 → Int32 → Int32 → Int32 → Int32 → Int32 → Option (AH × Int32)) (hk28 : ∀ (h : AH) (a0 : Nat) (a1 : Nat) (a2 : Nat) (a3 : Int32)  (d4 : Value) (d5 : Value) (d6 : Value) (d7 : Value) (d8 : Value) (d9 : Value) (d10 : Value) (d11 : Value) (d12 : Value) (d13 : Value) (d14 : Value), k28 h a0 a1 a2 a3 = some (h', r) → Eb (Ev tb mL d) 0 (28, [.ref a0, .ref a1, .ref a2, .int a3, d4, d5, d6, d7, d8, d9, d10, d11, d12, d13, d14], [], h) h' (some (.int r))) (hk195 : ∀ (h : AH) (a0 : Nat) (a1 : Nat) (a2 : Nat) (a3 : Int32) (a5 : Int32) (a6 : Int32) (a7 : Int32) (a8 : Int32) (a9 : Int32) (a10 : Int32)  (d4 : Value) (d11 : Value) (d12 : Value) (d13 : Value) (d14 : Value), k195 h a0 a1 a2 a3 a5 a6 a7 a8 a9 a10 = some (h', r) → Eb (Ev tb mL d) 0 (195, [.ref a0, .ref a1, .ref a2, .int a3, d4, .int a5, .int a6, .int a7, .int a8, .int a9, .int a10, d11, d12, d13, d14], [], h) h' (some (.int r)))  (h : AH) (a0 : Nat) (a1 : Nat) (a2 : Nat) (a3 : Int32) (a5 : Int32) (a6 : Int32) (a7 : Int32) (a8 : Int32) (a9 : Int32) (a10 : Int32)  (d4 : Value) (d11 : Value) (d12 : Value) (d13 : Value) (d14 : Value) (e : f_Law_law_b195 k28 k195 h a0 a1 a2 a3 a5 a6 a7 a8 a9 a10 = some (h', r)) : Eb (Ev tb mL d) 0 (195, [.ref a0, .ref a1, .ref a2, .int a3, d4, .int a5, .int a6, .int a7, .int a8, .int a9, .int a10, d11, d12, d13, d14], [], h) h' (some (.int r)) := by
  unfold f_Law_law_b195 at e
  refine eb_n 3 (199, [.ref a0, .ref a1, .ref a2, .int a3, d4, .int a5, .int a6, .int a7, .int a8, .int a9, .int a10, d11, d12, d13, d14], [.int (nI 3), .ref a1, .int a10], h) (rfl) ?_
  obtain ⟨g1, e⟩ := gd_some e
  obtain ⟨h2, r3, eh2, e⟩ := bn_some e
  refine eb_cg (p := hT h a1 = 1) rfl g1 (f_QuillBoats_count_ev d (Nat.le_trans (by decide) hd) eh2) ?_
  show Eb _ 0 (202, [.ref a0, .ref a1, .ref a2, .int a3, d4, .int a5, .int a6, .int a7, .int a8, .int a9, .int a10, d11, d12, d13, d14], [.int r3, .int a10], h2) _ _
  refine eb_b (c := r3 ≤ a10) (410, [.ref a0, .ref a1, .ref a2, .int a3, d4, .int a5, .int a6, .int a7, .int a8, .int a9, .int a10, d11, d12, d13, d14], [], h2) (205, [.ref a0, .ref a1, .ref a2, .int a3, d4, .int a5, .int a6, .int a7, .int a8, .int a9, .int a10, d11, d12, d13, d14], [], h2) rfl (fun c4 => ?_) (fun c4 => ?_)
  · replace e := ite_t c4 e
    refine eb_n 2 (413, [.ref a0, .ref a1, .ref a2, .int a3, d4, .int a5, .int a6, .int a7, .int a8, .int a9, .int (nI 0), d11, d12, d13, d14], [], h2) (rfl) ?_
    exact f_Law_law_l413_ev d hd k28 hk28 FU _ _ _ _ _ _ _ _ _ _ _ _ _ _ _ _ e
  · replace e := ite_f c4 e
    refine eb_n 3 (209, [.ref a0, .ref a1, .ref a2, .int a3, d4, .int a5, .int a6, .int a7, .int a8, .int a9, .int a10, d11, d12, d13, d14], [.int (nI 0), .int a10, .ref a1], h2) (rfl) ?_
    obtain ⟨g5, e⟩ := gd_some e
    obtain ⟨h6, r7, eh6, e⟩ := bn_some e
    refine eb_cg (p := hT h2 a1 = 1) rfl g5 (f_QuillBoats_rack_ev d (Nat.le_trans (by decide) hd) eh6) ?_
    show Eb _ 0 (212, [.ref a0, .ref a1, .ref a2, .int a3, d4, .int a5, .int a6, .int a7, .int a8, .int a9, .int a10, d11, d12, d13, d14], [.int r7], h6) _ _
    refine eb_n 3 (217, [.ref a0, .ref a1, .ref a2, .int a3, d4, .int a5, .int a6, .int a7, .int a8, .int a9, .int a10, .int r7, .int (nI 0), d13, d14], [], h6) (rfl) ?_
    exact f_Law_law_l217_ev d hd k28 k195 hk28 hk195 FU _ _ _ _ _ _ _ _ _ _ _ _ _ _ _ _ e
set_option maxRecDepth 100000 in
set_option maxHeartbeats 4000000 in
theorem f_Law_law_l195_ev {h' : AH} {r : Int32} (d : Nat) (hd : 68 ≤ d) (k28 : AH → Nat → Nat → Nat → Int32 → Option (AH × Int32)) (hk28 : ∀ (h : AH) (a0 : Nat) (a1 : Nat) (a2 : Nat) (a3 : Int32)  (d4 : Value) (d5 : Value) (d6 : Value) (d7 : Value) (d8 : Value) (d9 : Value) (d10 : Value) (d11 : Value) (d12 : Value) (d13 : Value) (d14 : Value), k28 h a0 a1 a2 a3 = some (h', r) → Eb (Ev tb mL d) 0 (28, [.ref a0, .ref a1, .ref a2, .int a3, d4, d5, d6, d7, d8, d9, d10, d11, d12, d13, d14], [], h) h' (some (.int r)))  : ∀ (n : Nat) (h : AH) (a0 : Nat) (a1 : Nat) (a2 : Nat) (a3 : Int32) (a5 : Int32) (a6 : Int32) (a7 : Int32) (a8 : Int32) (a9 : Int32) (a10 : Int32)  (d4 : Value) (d11 : Value) (d12 : Value) (d13 : Value) (d14 : Value) (_ : f_Law_law_l195 k28 n h a0 a1 a2 a3 a5 a6 a7 a8 a9 a10 = some (h', r)), Eb (Ev tb mL d) 0 (195, [.ref a0, .ref a1, .ref a2, .int a3, d4, .int a5, .int a6, .int a7, .int a8, .int a9, .int a10, d11, d12, d13, d14], [], h) h' (some (.int r)) := by
  intro n
  induction n with
  | zero => intro h a0 a1 a2 a3 a5 a6 a7 a8 a9 a10 d4 d11 d12 d13 d14 e; exact nomatch e
  | succ n ih =>
    intro h a0 a1 a2 a3 a5 a6 a7 a8 a9 a10 d4 d11 d12 d13 d14 e
    exact f_Law_law_b195_ev d hd k28 _ hk28 (fun h a0 a1 a2 a3 a5 a6 a7 a8 a9 a10 d4 d11 d12 d13 d14 e => ih h a0 a1 a2 a3 a5 a6 a7 a8 a9 a10 d4 d11 d12 d13 d14 e) h a0 a1 a2 a3 a5 a6 a7 a8 a9 a10 d4 d11 d12 d13 d14 e
set_option maxRecDepth 100000 in
set_option maxHeartbeats 4000000 in
theorem f_Law_law_b152_ev {h' : AH} {r : Int32} (d : Nat) (hd : 68 ≤ d) (k28 : AH → Nat → Nat → Nat → Int32 → Option (AH × Int32)) (k152 : AH → Nat → Nat → Nat → Int32 → Int32 → Int32 → Int32 → Int32 → Int32 → Int32 → Option (AH × Int32)) (hk28 : ∀ (h : AH) (a0 : Nat) (a1 : Nat) (a2 : Nat) (a3 : Int32)  (d4 : Value) (d5 : Value) (d6 : Value) (d7 : Value) (d8 : Value) (d9 : Value) (d10 : Value) (d11 : Value) (d12 : Value) (d13 : Value) (d14 : Value), k28 h a0 a1 a2 a3 = some (h', r) → Eb (Ev tb mL d) 0 (28, [.ref a0, .ref a1, .ref a2, .int a3, d4, d5, d6, d7, d8, d9, d10, d11, d12, d13, d14], [], h) h' (some (.int r))) (hk152 : ∀ (h : AH) (a0 : Nat) (a1 : Nat) (a2 : Nat) (a3 : Int32) (a5 : Int32) (a6 : Int32) (a7 : Int32) (a8 : Int32) (a9 : Int32) (a10 : Int32)  (d4 : Value) (d11 : Value) (d12 : Value) (d13 : Value) (d14 : Value), k152 h a0 a1 a2 a3 a5 a6 a7 a8 a9 a10 = some (h', r) → Eb (Ev tb mL d) 0 (152, [.ref a0, .ref a1, .ref a2, .int a3, d4, .int a5, .int a6, .int a7, .int a8, .int a9, .int a10, d11, d12, d13, d14], [], h) h' (some (.int r)))  (h : AH) (a0 : Nat) (a1 : Nat) (a2 : Nat) (a3 : Int32) (a5 : Int32) (a6 : Int32) (a7 : Int32) (a8 : Int32) (a9 : Int32) (a10 : Int32)  (d4 : Value) (d11 : Value) (d12 : Value) (d13 : Value) (d14 : Value) (e : f_Law_law_b152 k28 k152 h a0 a1 a2 a3 a5 a6 a7 a8 a9 a10 = some (h', r)) : Eb (Ev tb mL d) 0 (152, [.ref a0, .ref a1, .ref a2, .int a3, d4, .int a5, .int a6, .int a7, .int a8, .int a9, .int a10, d11, d12, d13, d14], [], h) h' (some (.int r)) := by
  unfold f_Law_law_b152 at e
  refine eb_n 3 (156, [.ref a0, .ref a1, .ref a2, .int a3, d4, .int a5, .int a6, .int a7, .int a8, .int a9, .int a10, d11, d12, d13, d14], [.int (nI 2), .ref a1, .int a10], h) (rfl) ?_
  obtain ⟨g1, e⟩ := gd_some e
  obtain ⟨h2, r3, eh2, e⟩ := bn_some e
  refine eb_cg (p := hT h a1 = 1) rfl g1 (f_QuillBoats_count_ev d (Nat.le_trans (by decide) hd) eh2) ?_
  show Eb _ 0 (159, [.ref a0, .ref a1, .ref a2, .int a3, d4, .int a5, .int a6, .int a7, .int a8, .int a9, .int a10, d11, d12, d13, d14], [.int r3, .int a10], h2) _ _
  refine eb_b (c := r3 ≤ a10) (192, [.ref a0, .ref a1, .ref a2, .int a3, d4, .int a5, .int a6, .int a7, .int a8, .int a9, .int a10, d11, d12, d13, d14], [], h2) (162, [.ref a0, .ref a1, .ref a2, .int a3, d4, .int a5, .int a6, .int a7, .int a8, .int a9, .int a10, d11, d12, d13, d14], [], h2) rfl (fun c4 => ?_) (fun c4 => ?_)
  · replace e := ite_t c4 e
    refine eb_n 2 (195, [.ref a0, .ref a1, .ref a2, .int a3, d4, .int a5, .int a6, .int a7, .int a8, .int a9, .int (nI 0), d11, d12, d13, d14], [], h2) (rfl) ?_
    exact f_Law_law_l195_ev d hd k28 hk28 FU _ _ _ _ _ _ _ _ _ _ _ _ _ _ _ _ e
  · replace e := ite_f c4 e
    refine eb_n 3 (166, [.ref a0, .ref a1, .ref a2, .int a3, d4, .int a5, .int a6, .int a7, .int a8, .int a9, .int a10, d11, d12, d13, d14], [.int (nI 0), .int a10, .ref a1], h2) (rfl) ?_
    obtain ⟨g5, e⟩ := gd_some e
    obtain ⟨h6, r7, eh6, e⟩ := bn_some e
    refine eb_cg (p := hT h2 a1 = 1) rfl g5 (f_QuillBoats_garden_ev d (Nat.le_trans (by decide) hd) eh6) ?_
    show Eb _ 0 (169, [.ref a0, .ref a1, .ref a2, .int a3, d4, .int a5, .int a6, .int a7, .int a8, .int a9, .int a10, d11, d12, d13, d14], [.int r7], h6) _ _
    refine eb_b (c := r7 < 0) (184, [.ref a0, .ref a1, .ref a2, .int a3, d4, .int a5, .int a6, .int a7, .int a8, .int a9, .int a10, d11, d12, d13, d14], [], h6) (172, [.ref a0, .ref a1, .ref a2, .int a3, d4, .int a5, .int a6, .int a7, .int a8, .int a9, .int a10, d11, d12, d13, d14], [], h6) rfl (fun c8 => ?_) (fun c8 => ?_)
    · replace e := ite_t c8 e
      refine eb_n 1 (185, [.ref a0, .ref a1, .ref a2, .int a3, d4, .int a5, .int a6, .int a7, .int a8, .int a9, .int a10, d11, d12, d13, d14], [.int (nI 0)], h6) (rfl) ?_
      rw [(sp_inj e).1, (sp_inj e).2]
      exact eb_rg (p := nrm 3 (nI 0)) rfl nrm_30
    · replace e := ite_f c8 e
      refine eb_n 3 (176, [.ref a0, .ref a1, .ref a2, .int a3, d4, .int a5, .int a6, .int a7, .int a8, .int a9, .int a10, d11, d12, d13, d14], [.int (nI 0), .int a10, .ref a1], h6) (rfl) ?_
      obtain ⟨g9, e⟩ := gd_some e
      obtain ⟨h10, r11, eh10, e⟩ := bn_some e
      refine eb_cg (p := hT h6 a1 = 1) rfl g9 (f_QuillBoats_garden_ev d (Nat.le_trans (by decide) hd) eh10) ?_
      show Eb _ 0 (179, [.ref a0, .ref a1, .ref a2, .int a3, d4, .int a5, .int a6, .int a7, .int a8, .int a9, .int a10, d11, d12, d13, d14], [.int r11], h10) _ _
      refine eb_n 1 (181, [.ref a0, .ref a1, .ref a2, .int a3, d4, .int a5, .int a6, .int a7, .int a8, .int a9, .int a10, d11, d12, d13, d14], [.int (nI 99), .int r11], h10) (rfl) ?_
      refine eb_b (c := r11 ≤ (nI 99)) (186, [.ref a0, .ref a1, .ref a2, .int a3, d4, .int a5, .int a6, .int a7, .int a8, .int a9, .int a10, d11, d12, d13, d14], [], h10) (184, [.ref a0, .ref a1, .ref a2, .int a3, d4, .int a5, .int a6, .int a7, .int a8, .int a9, .int a10, d11, d12, d13, d14], [], h10) rfl (fun c12 => ?_) (fun c12 => ?_)
      · replace e := ite_t c12 e
        obtain ⟨x13, hx13, e⟩ := lq_some e
        refine eb_n 1 (189, [.ref a0, .ref a1, .ref a2, .int a3, d4, .int a5, .int a6, .int a7, .int a8, .int a9, .int x13, d11, d12, d13, d14], [], h10) (by subst hx13; rfl) ?_
        refine eb_n 1 (152, [.ref a0, .ref a1, .ref a2, .int a3, d4, .int a5, .int a6, .int a7, .int a8, .int a9, .int x13, d11, d12, d13, d14], [], h10) (rfl) ?_
        exact hk152 _ _ _ _ _ _ _ _ _ _ _ _ _ _ _ _ e
      · replace e := ite_f c12 e
        refine eb_n 1 (185, [.ref a0, .ref a1, .ref a2, .int a3, d4, .int a5, .int a6, .int a7, .int a8, .int a9, .int a10, d11, d12, d13, d14], [.int (nI 0)], h10) (rfl) ?_
        rw [(sp_inj e).1, (sp_inj e).2]
        exact eb_rg (p := nrm 3 (nI 0)) rfl nrm_30
set_option maxRecDepth 100000 in
set_option maxHeartbeats 4000000 in
theorem f_Law_law_l152_ev {h' : AH} {r : Int32} (d : Nat) (hd : 68 ≤ d) (k28 : AH → Nat → Nat → Nat → Int32 → Option (AH × Int32)) (hk28 : ∀ (h : AH) (a0 : Nat) (a1 : Nat) (a2 : Nat) (a3 : Int32)  (d4 : Value) (d5 : Value) (d6 : Value) (d7 : Value) (d8 : Value) (d9 : Value) (d10 : Value) (d11 : Value) (d12 : Value) (d13 : Value) (d14 : Value), k28 h a0 a1 a2 a3 = some (h', r) → Eb (Ev tb mL d) 0 (28, [.ref a0, .ref a1, .ref a2, .int a3, d4, d5, d6, d7, d8, d9, d10, d11, d12, d13, d14], [], h) h' (some (.int r)))  : ∀ (n : Nat) (h : AH) (a0 : Nat) (a1 : Nat) (a2 : Nat) (a3 : Int32) (a5 : Int32) (a6 : Int32) (a7 : Int32) (a8 : Int32) (a9 : Int32) (a10 : Int32)  (d4 : Value) (d11 : Value) (d12 : Value) (d13 : Value) (d14 : Value) (_ : f_Law_law_l152 k28 n h a0 a1 a2 a3 a5 a6 a7 a8 a9 a10 = some (h', r)), Eb (Ev tb mL d) 0 (152, [.ref a0, .ref a1, .ref a2, .int a3, d4, .int a5, .int a6, .int a7, .int a8, .int a9, .int a10, d11, d12, d13, d14], [], h) h' (some (.int r)) := by
  intro n
  induction n with
  | zero => intro h a0 a1 a2 a3 a5 a6 a7 a8 a9 a10 d4 d11 d12 d13 d14 e; exact nomatch e
  | succ n ih =>
    intro h a0 a1 a2 a3 a5 a6 a7 a8 a9 a10 d4 d11 d12 d13 d14 e
    exact f_Law_law_b152_ev d hd k28 _ hk28 (fun h a0 a1 a2 a3 a5 a6 a7 a8 a9 a10 d4 d11 d12 d13 d14 e => ih h a0 a1 a2 a3 a5 a6 a7 a8 a9 a10 d4 d11 d12 d13 d14 e) h a0 a1 a2 a3 a5 a6 a7 a8 a9 a10 d4 d11 d12 d13 d14 e
set_option maxRecDepth 100000 in
set_option maxHeartbeats 4000000 in
theorem f_Law_law_b60_ev {h' : AH} {r : Int32} (d : Nat) (hd : 68 ≤ d) (k28 : AH → Nat → Nat → Nat → Int32 → Option (AH × Int32)) (k60 : AH → Nat → Nat → Nat → Int32 → Int32 → Int32 → Option (AH × Int32)) (hk28 : ∀ (h : AH) (a0 : Nat) (a1 : Nat) (a2 : Nat) (a3 : Int32)  (d4 : Value) (d5 : Value) (d6 : Value) (d7 : Value) (d8 : Value) (d9 : Value) (d10 : Value) (d11 : Value) (d12 : Value) (d13 : Value) (d14 : Value), k28 h a0 a1 a2 a3 = some (h', r) → Eb (Ev tb mL d) 0 (28, [.ref a0, .ref a1, .ref a2, .int a3, d4, d5, d6, d7, d8, d9, d10, d11, d12, d13, d14], [], h) h' (some (.int r))) (hk60 : ∀ (h : AH) (a0 : Nat) (a1 : Nat) (a2 : Nat) (a3 : Int32) (a4 : Int32) (a5 : Int32)  (d6 : Value) (d7 : Value) (d8 : Value) (d9 : Value) (d10 : Value) (d11 : Value) (d12 : Value) (d13 : Value) (d14 : Value), k60 h a0 a1 a2 a3 a4 a5 = some (h', r) → Eb (Ev tb mL d) 0 (60, [.ref a0, .ref a1, .ref a2, .int a3, .int a4, .int a5, d6, d7, d8, d9, d10, d11, d12, d13, d14], [], h) h' (some (.int r)))  (h : AH) (a0 : Nat) (a1 : Nat) (a2 : Nat) (a3 : Int32) (a4 : Int32) (a5 : Int32)  (d6 : Value) (d7 : Value) (d8 : Value) (d9 : Value) (d10 : Value) (d11 : Value) (d12 : Value) (d13 : Value) (d14 : Value) (e : f_Law_law_b60 k28 k60 h a0 a1 a2 a3 a4 a5 = some (h', r)) : Eb (Ev tb mL d) 0 (60, [.ref a0, .ref a1, .ref a2, .int a3, .int a4, .int a5, d6, d7, d8, d9, d10, d11, d12, d13, d14], [], h) h' (some (.int r)) := by
  unfold f_Law_law_b60 at e
  refine eb_n 2 (63, [.ref a0, .ref a1, .ref a2, .int a3, .int a4, .int a5, d6, d7, d8, d9, d10, d11, d12, d13, d14], [.int (nI 2), .int a5], h) (rfl) ?_
  refine eb_b (c := (nI 2) ≤ a5) (96, [.ref a0, .ref a1, .ref a2, .int a3, .int a4, .int a5, d6, d7, d8, d9, d10, d11, d12, d13, d14], [], h) (66, [.ref a0, .ref a1, .ref a2, .int a3, .int a4, .int a5, d6, d7, d8, d9, d10, d11, d12, d13, d14], [], h) rfl (fun c1 => ?_) (fun c1 => ?_)
  · replace e := ite_t c1 e
    refine eb_n 2 (99, [.ref a0, .ref a1, .ref a2, .int a3, .int a4, .int a5, d6, d7, d8, d9, d10, d11, d12, d13, d14], [.int (nI 10), .ref a1], h) (rfl) ?_
    obtain ⟨g2, e⟩ := gd_some e
    obtain ⟨h3, r4, eh3, e⟩ := bn_some e
    refine eb_cg (p := hT h a1 = 1) rfl g2 (f_QuillBoats_count_ev d (Nat.le_trans (by decide) hd) eh3) ?_
    show Eb _ 0 (102, [.ref a0, .ref a1, .ref a2, .int a3, .int a4, .int a5, d6, d7, d8, d9, d10, d11, d12, d13, d14], [.int r4], h3) _ _
    refine eb_n 2 (105, [.ref a0, .ref a1, .ref a2, .int a3, .int a4, .int a5, d6, d7, d8, d9, d10, d11, d12, d13, d14], [.int (nI 8), .ref a1, .int r4], h3) (rfl) ?_
    obtain ⟨g5, e⟩ := gd_some e
    obtain ⟨h6, r7, eh6, e⟩ := bn_some e
    refine eb_cg (p := hT h3 a1 = 1) rfl g5 (f_QuillBoats_count_ev d (Nat.le_trans (by decide) hd) eh6) ?_
    show Eb _ 0 (108, [.ref a0, .ref a1, .ref a2, .int a3, .int a4, .int a5, d6, d7, d8, d9, d10, d11, d12, d13, d14], [.int r7, .int r4], h6) _ _
    refine eb_n 2 (111, [.ref a0, .ref a1, .ref a2, .int a3, .int a4, .int a5, d6, d7, d8, d9, d10, d11, d12, d13, d14], [.int (nI 7), .ref a1, .int r7, .int r4], h6) (rfl) ?_
    obtain ⟨g8, e⟩ := gd_some e
    obtain ⟨h9, r10, eh9, e⟩ := bn_some e
    refine eb_cg (p := hT h6 a1 = 1) rfl g8 (f_QuillBoats_count_ev d (Nat.le_trans (by decide) hd) eh9) ?_
    show Eb _ 0 (114, [.ref a0, .ref a1, .ref a2, .int a3, .int a4, .int a5, d6, d7, d8, d9, d10, d11, d12, d13, d14], [.int r10, .int r7, .int r4], h9) _ _
    refine eb_n 3 (118, [.ref a0, .ref a1, .ref a2, .int a3, .int a4, .int a5, d6, d7, d8, d9, d10, d11, d12, d13, d14], [.int (nI 9), .ref a1, .int (r7 + r10), .int r4], h9) (rfl) ?_
    obtain ⟨g11, e⟩ := gd_some e
    obtain ⟨h12, r13, eh12, e⟩ := bn_some e
    refine eb_cg (p := hT h9 a1 = 1) rfl g11 (f_QuillBoats_count_ev d (Nat.le_trans (by decide) hd) eh12) ?_
    show Eb _ 0 (121, [.ref a0, .ref a1, .ref a2, .int a3, .int a4, .int a5, d6, d7, d8, d9, d10, d11, d12, d13, d14], [.int r13, .int (r7 + r10), .int r4], h12) _ _
    refine eb_n 3 (125, [.ref a0, .ref a1, .ref a2, .int a3, .int a4, .int a5, d6, d7, d8, d9, d10, d11, d12, d13, d14], [.int (nI 11), .ref a1, .int ((r7 + r10) + r13), .int r4], h12) (rfl) ?_
    obtain ⟨g14, e⟩ := gd_some e
    obtain ⟨h15, r16, eh15, e⟩ := bn_some e
    refine eb_cg (p := hT h12 a1 = 1) rfl g14 (f_QuillBoats_count_ev d (Nat.le_trans (by decide) hd) eh15) ?_
    show Eb _ 0 (128, [.ref a0, .ref a1, .ref a2, .int a3, .int a4, .int a5, d6, d7, d8, d9, d10, d11, d12, d13, d14], [.int r16, .int ((r7 + r10) + r13), .int r4], h15) _ _
    refine eb_n 1 (129, [.ref a0, .ref a1, .ref a2, .int a3, .int a4, .int a5, d6, d7, d8, d9, d10, d11, d12, d13, d14], [.int (((r7 + r10) + r13) + r16), .int r4], h15) (rfl) ?_
    refine eb_b (c := r4 = (((r7 + r10) + r13) + r16)) (134, [.ref a0, .ref a1, .ref a2, .int a3, .int a4, .int a5, d6, d7, d8, d9, d10, d11, d12, d13, d14], [], h15) (132, [.ref a0, .ref a1, .ref a2, .int a3, .int a4, .int a5, d6, d7, d8, d9, d10, d11, d12, d13, d14], [], h15) rfl (fun c17 => ?_) (fun c17 => ?_)
    · replace e := ite_t c17 e
      refine eb_n 12 (152, [.ref a0, .ref a1, .ref a2, .int a3, .int a4, .int (nI 0), .int (nI 0), .int (nI 0), .int (nI 0), .int (nI 0), .int (nI 0), d11, d12, d13, d14], [], h15) (rfl) ?_
      exact f_Law_law_l152_ev d hd k28 hk28 FU _ _ _ _ _ _ _ _ _ _ _ _ _ _ _ _ e
    · replace e := ite_f c17 e
      refine eb_n 1 (133, [.ref a0, .ref a1, .ref a2, .int a3, .int a4, .int a5, d6, d7, d8, d9, d10, d11, d12, d13, d14], [.int (nI 0)], h15) (rfl) ?_
      rw [(sp_inj e).1, (sp_inj e).2]
      exact eb_rg (p := nrm 3 (nI 0)) rfl nrm_30
  · replace e := ite_f c1 e
    refine eb_n 11 (82, [.ref a0, .ref a1, .ref a2, .int a3, .int a4, .int a5, d6, d7, d8, d9, d10, d11, d12, d13, d14], [.int ((a4 >>> (((nI 2) * a5) &&& 31)) + ((nI 307) * a5)), .ref a2, .ref a1], h) (rfl) ?_
    obtain ⟨h18, r19, eh18, e⟩ := bn_some e
    refine eb_c rfl (f_Law_act_ev d (Nat.le_trans (by decide) hd) eh18) ?_
    show Eb _ 0 (85, [.ref a0, .ref a1, .ref a2, .int a3, .int a4, .int a5, d6, d7, d8, d9, d10, d11, d12, d13, d14], [.int r19], h18) _ _
    refine eb_b (c := ¬ r19 = 0) (90, [.ref a0, .ref a1, .ref a2, .int a3, .int a4, .int a5, d6, d7, d8, d9, d10, d11, d12, d13, d14], [], h18) (88, [.ref a0, .ref a1, .ref a2, .int a3, .int a4, .int a5, d6, d7, d8, d9, d10, d11, d12, d13, d14], [], h18) rfl (fun c20 => ?_) (fun c20 => ?_)
    · replace e := ite_t c20 e
      obtain ⟨x21, hx21, e⟩ := lq_some e
      refine eb_n 1 (93, [.ref a0, .ref a1, .ref a2, .int a3, .int a4, .int x21, d6, d7, d8, d9, d10, d11, d12, d13, d14], [], h18) (by subst hx21; rfl) ?_
      refine eb_n 1 (60, [.ref a0, .ref a1, .ref a2, .int a3, .int a4, .int x21, d6, d7, d8, d9, d10, d11, d12, d13, d14], [], h18) (rfl) ?_
      exact hk60 _ _ _ _ _ _ _ _ _ _ _ _ _ _ _ _ e
    · replace e := ite_f c20 e
      refine eb_n 1 (89, [.ref a0, .ref a1, .ref a2, .int a3, .int a4, .int a5, d6, d7, d8, d9, d10, d11, d12, d13, d14], [.int (nI 0)], h18) (rfl) ?_
      rw [(sp_inj e).1, (sp_inj e).2]
      exact eb_rg (p := nrm 3 (nI 0)) rfl nrm_30
set_option maxRecDepth 100000 in
set_option maxHeartbeats 4000000 in
theorem f_Law_law_l60_ev {h' : AH} {r : Int32} (d : Nat) (hd : 68 ≤ d) (k28 : AH → Nat → Nat → Nat → Int32 → Option (AH × Int32)) (hk28 : ∀ (h : AH) (a0 : Nat) (a1 : Nat) (a2 : Nat) (a3 : Int32)  (d4 : Value) (d5 : Value) (d6 : Value) (d7 : Value) (d8 : Value) (d9 : Value) (d10 : Value) (d11 : Value) (d12 : Value) (d13 : Value) (d14 : Value), k28 h a0 a1 a2 a3 = some (h', r) → Eb (Ev tb mL d) 0 (28, [.ref a0, .ref a1, .ref a2, .int a3, d4, d5, d6, d7, d8, d9, d10, d11, d12, d13, d14], [], h) h' (some (.int r)))  : ∀ (n : Nat) (h : AH) (a0 : Nat) (a1 : Nat) (a2 : Nat) (a3 : Int32) (a4 : Int32) (a5 : Int32)  (d6 : Value) (d7 : Value) (d8 : Value) (d9 : Value) (d10 : Value) (d11 : Value) (d12 : Value) (d13 : Value) (d14 : Value) (_ : f_Law_law_l60 k28 n h a0 a1 a2 a3 a4 a5 = some (h', r)), Eb (Ev tb mL d) 0 (60, [.ref a0, .ref a1, .ref a2, .int a3, .int a4, .int a5, d6, d7, d8, d9, d10, d11, d12, d13, d14], [], h) h' (some (.int r)) := by
  intro n
  induction n with
  | zero => intro h a0 a1 a2 a3 a4 a5 d6 d7 d8 d9 d10 d11 d12 d13 d14 e; exact nomatch e
  | succ n ih =>
    intro h a0 a1 a2 a3 a4 a5 d6 d7 d8 d9 d10 d11 d12 d13 d14 e
    exact f_Law_law_b60_ev d hd k28 _ hk28 (fun h a0 a1 a2 a3 a4 a5 d6 d7 d8 d9 d10 d11 d12 d13 d14 e => ih h a0 a1 a2 a3 a4 a5 d6 d7 d8 d9 d10 d11 d12 d13 d14 e) h a0 a1 a2 a3 a4 a5 d6 d7 d8 d9 d10 d11 d12 d13 d14 e
set_option maxRecDepth 100000 in
set_option maxHeartbeats 4000000 in
theorem f_Law_law_b28_ev {h' : AH} {r : Int32} (d : Nat) (hd : 68 ≤ d) (k28 : AH → Nat → Nat → Nat → Int32 → Option (AH × Int32)) (hk28 : ∀ (h : AH) (a0 : Nat) (a1 : Nat) (a2 : Nat) (a3 : Int32)  (d4 : Value) (d5 : Value) (d6 : Value) (d7 : Value) (d8 : Value) (d9 : Value) (d10 : Value) (d11 : Value) (d12 : Value) (d13 : Value) (d14 : Value), k28 h a0 a1 a2 a3 = some (h', r) → Eb (Ev tb mL d) 0 (28, [.ref a0, .ref a1, .ref a2, .int a3, d4, d5, d6, d7, d8, d9, d10, d11, d12, d13, d14], [], h) h' (some (.int r)))  (h : AH) (a0 : Nat) (a1 : Nat) (a2 : Nat) (a3 : Int32)  (d4 : Value) (d5 : Value) (d6 : Value) (d7 : Value) (d8 : Value) (d9 : Value) (d10 : Value) (d11 : Value) (d12 : Value) (d13 : Value) (d14 : Value) (e : f_Law_law_b28 k28 h a0 a1 a2 a3 = some (h', r)) : Eb (Ev tb mL d) 0 (28, [.ref a0, .ref a1, .ref a2, .int a3, d4, d5, d6, d7, d8, d9, d10, d11, d12, d13, d14], [], h) h' (some (.int r)) := by
  unfold f_Law_law_b28 at e
  refine eb_n 2 (31, [.ref a0, .ref a1, .ref a2, .int a3, d4, d5, d6, d7, d8, d9, d10, d11, d12, d13, d14], [.int (nI 30), .int a3], h) (rfl) ?_
  refine eb_b (c := (nI 30) ≤ a3) (972, [.ref a0, .ref a1, .ref a2, .int a3, d4, d5, d6, d7, d8, d9, d10, d11, d12, d13, d14], [], h) (34, [.ref a0, .ref a1, .ref a2, .int a3, d4, d5, d6, d7, d8, d9, d10, d11, d12, d13, d14], [], h) rfl (fun c1 => ?_) (fun c1 => ?_)
  · replace e := ite_t c1 e
    refine eb_n 2 (974, [.ref a0, .ref a1, .ref a2, .int a3, d4, d5, d6, d7, d8, d9, d10, d11, d12, d13, d14], [.ref a1, .ref a2], h) (rfl) ?_
    obtain ⟨g2, e⟩ := gd_some e
    obtain ⟨h3, r4, eh3, e⟩ := bn_some e
    refine eb_cg (p := hT h a2 = 13) rfl g2 (f_Sim_isSame_ev d (Nat.le_trans (by decide) hd) eh3) ?_
    show Eb _ 0 (977, [.ref a0, .ref a1, .ref a2, .int a3, d4, d5, d6, d7, d8, d9, d10, d11, d12, d13, d14], [.int r4], h3) _ _
    obtain ⟨g5, e⟩ := gd_some e
    rw [(sp_inj e).1, (sp_inj e).2]
    exact eb_rg (p := nrm 3 r4) rfl g5
  · replace e := ite_f c1 e
    refine eb_n 3 (38, [.ref a0, .ref a1, .ref a2, .int a3, d4, d5, d6, d7, d8, d9, d10, d11, d12, d13, d14], [.int (nI 16), .int a3, .ref a0], h) (rfl) ?_
    refine eb_g (p := ¬ (nI 16) = 0) (39, [.ref a0, .ref a1, .ref a2, .int a3, d4, d5, d6, d7, d8, d9, d10, d11, d12, d13, d14], [.int (a3 - a3 / (nI 16) * (nI 16)), .ref a0], h) rfl (by decide) ?_
    obtain ⟨h6, r7, eh6, e⟩ := bn_some e
    refine eb_c rfl (f_Law_cell_ev d (Nat.le_trans (by decide) hd) eh6) ?_
    show Eb _ 0 (42, [.ref a0, .ref a1, .ref a2, .int a3, d4, d5, d6, d7, d8, d9, d10, d11, d12, d13, d14], [.int r7], h6) _ _
    refine eb_n 2 (45, [.ref a0, .ref a1, .ref a2, .int a3, d4, d5, d6, d7, d8, d9, d10, d11, d12, d13, d14], [.int (nI 16), .int a3, .int r7], h6) (rfl) ?_
    refine eb_g (p := ¬ (nI 16) = 0) (46, [.ref a0, .ref a1, .ref a2, .int a3, d4, d5, d6, d7, d8, d9, d10, d11, d12, d13, d14], [.int (a3 / (nI 16)), .int r7], h6) rfl (by decide) ?_
    obtain ⟨x8, hx8, e⟩ := lq_some e
    refine eb_n 8 (57, [.ref a0, .ref a1, .ref a2, .int a3, .int x8, d5, d6, d7, d8, d9, d10, d11, d12, d13, d14], [], h6) (by subst hx8; rfl) ?_
    refine eb_n 2 (60, [.ref a0, .ref a1, .ref a2, .int a3, .int x8, .int (nI 0), d6, d7, d8, d9, d10, d11, d12, d13, d14], [], h6) (rfl) ?_
    exact f_Law_law_l60_ev d hd k28 hk28 FU _ _ _ _ _ _ _ _ _ _ _ _ _ _ _ _ e
set_option maxRecDepth 100000 in
set_option maxHeartbeats 4000000 in
theorem f_Law_law_l28_ev {h' : AH} {r : Int32} (d : Nat) (hd : 68 ≤ d)  : ∀ (n : Nat) (h : AH) (a0 : Nat) (a1 : Nat) (a2 : Nat) (a3 : Int32)  (d4 : Value) (d5 : Value) (d6 : Value) (d7 : Value) (d8 : Value) (d9 : Value) (d10 : Value) (d11 : Value) (d12 : Value) (d13 : Value) (d14 : Value) (_ : f_Law_law_l28  n h a0 a1 a2 a3 = some (h', r)), Eb (Ev tb mL d) 0 (28, [.ref a0, .ref a1, .ref a2, .int a3, d4, d5, d6, d7, d8, d9, d10, d11, d12, d13, d14], [], h) h' (some (.int r)) := by
  intro n
  induction n with
  | zero => intro h a0 a1 a2 a3 d4 d5 d6 d7 d8 d9 d10 d11 d12 d13 d14 e; exact nomatch e
  | succ n ih =>
    intro h a0 a1 a2 a3 d4 d5 d6 d7 d8 d9 d10 d11 d12 d13 d14 e
    exact f_Law_law_b28_ev d hd _ (fun h a0 a1 a2 a3 d4 d5 d6 d7 d8 d9 d10 d11 d12 d13 d14 e => ih h a0 a1 a2 a3 d4 d5 d6 d7 d8 d9 d10 d11 d12 d13 d14 e) h a0 a1 a2 a3 d4 d5 d6 d7 d8 d9 d10 d11 d12 d13 d14 e
set_option maxRecDepth 100000 in
set_option maxHeartbeats 4000000 in
theorem f_Law_law_ev (d0 : Nat) (hd0 : 69 ≤ d0) {h' : AH} {r : Int32} {h : AH} {a0 : Nat} (e : f_Law_law h a0 = some (h', r)) : Ev tb mL d0 0 [.ref a0] h h' (some (.int r)) := by
  obtain ⟨d, rfl⟩ : ∃ d, d0 = d + 1 := ⟨d0 - 1, by omega⟩
  have hd : 68 ≤ d := by omega
  refine ⟨Nat.le_of_ble_eq_true rfl, ?_⟩
  show Eb (Ev tb mL d) 0 (0, [.ref a0, .retAddr 0, .retAddr 0, .retAddr 0, .retAddr 0, .retAddr 0, .retAddr 0, .retAddr 0, .retAddr 0, .retAddr 0, .retAddr 0, .retAddr 0, .retAddr 0, .retAddr 0, .retAddr 0], [], h) h' (some (.int r))
  unfold f_Law_law at e
  obtain ⟨h1, eh1, e⟩ := lq_some e
  refine eb_n 1 (3, [.ref a0, .retAddr 0, .retAddr 0, .retAddr 0, .retAddr 0, .retAddr 0, .retAddr 0, .retAddr 0, .retAddr 0, .retAddr 0, .retAddr 0, .retAddr 0, .retAddr 0, .retAddr 0, .retAddr 0], [.ref (hN h)], h1) (by rw [eh1]; rfl) ?_
  refine eb_n 1 (4, [.ref a0, .retAddr 0, .retAddr 0, .retAddr 0, .retAddr 0, .retAddr 0, .retAddr 0, .retAddr 0, .retAddr 0, .retAddr 0, .retAddr 0, .retAddr 0, .retAddr 0, .retAddr 0, .retAddr 0], [.ref (hN h), .ref (hN h)], h1) (rfl) ?_
  obtain ⟨g2, e⟩ := gd_some e
  obtain ⟨h3, eh3, e⟩ := bv_some e
  refine eb_cg (p := hT h1 (hN h) = 1) rfl g2 (f_QuillBoats_init_ev d (Nat.le_trans (by decide) hd) eh3) ?_
  show Eb _ 0 (7, [.ref a0, .retAddr 0, .retAddr 0, .retAddr 0, .retAddr 0, .retAddr 0, .retAddr 0, .retAddr 0, .retAddr 0, .retAddr 0, .retAddr 0, .retAddr 0, .retAddr 0, .retAddr 0, .retAddr 0], [.ref (hN h)], h3) _ _
  obtain ⟨x4, hx4, e⟩ := lq_some e
  refine eb_n 1 (8, [.ref a0, .ref x4, .retAddr 0, .retAddr 0, .retAddr 0, .retAddr 0, .retAddr 0, .retAddr 0, .retAddr 0, .retAddr 0, .retAddr 0, .retAddr 0, .retAddr 0, .retAddr 0, .retAddr 0], [], h3) (by subst hx4; rfl) ?_
  refine eb_n 1 (9, [.ref a0, .ref x4, .retAddr 0, .retAddr 0, .retAddr 0, .retAddr 0, .retAddr 0, .retAddr 0, .retAddr 0, .retAddr 0, .retAddr 0, .retAddr 0, .retAddr 0, .retAddr 0, .retAddr 0], [.ref a0], h3) (rfl) ?_
  obtain ⟨h5, r6, eh5, e⟩ := bn_some e
  refine eb_c rfl (f_Law_chosen_ev d (Nat.le_trans (by decide) hd) eh5) ?_
  show Eb _ 0 (12, [.ref a0, .ref x4, .retAddr 0, .retAddr 0, .retAddr 0, .retAddr 0, .retAddr 0, .retAddr 0, .retAddr 0, .retAddr 0, .retAddr 0, .retAddr 0, .retAddr 0, .retAddr 0, .retAddr 0], [.ref r6], h5) _ _
  refine eb_n 3 (15, [.ref a0, .ref x4, .ref r6, .retAddr 0, .retAddr 0, .retAddr 0, .retAddr 0, .retAddr 0, .retAddr 0, .retAddr 0, .retAddr 0, .retAddr 0, .retAddr 0, .retAddr 0, .retAddr 0], [.ref r6, .ref x4], h5) (rfl) ?_
  obtain ⟨g7, e⟩ := gd_some e
  obtain ⟨h8, r9, eh8, e⟩ := bn_some e
  refine eb_cg (p := hT h5 r6 = 13) rfl g7 (f_Sim_text_ev d (Nat.le_trans (by decide) hd) eh8) ?_
  show Eb _ 0 (18, [.ref a0, .ref x4, .ref r6, .retAddr 0, .retAddr 0, .retAddr 0, .retAddr 0, .retAddr 0, .retAddr 0, .retAddr 0, .retAddr 0, .retAddr 0, .retAddr 0, .retAddr 0, .retAddr 0], [.ref r9, .ref x4], h8) _ _
  obtain ⟨h10, r11, eh10, e⟩ := bn_some e
  refine eb_c rfl (f_Law_say_ev d (Nat.le_trans (by decide) hd) eh10) ?_
  show Eb _ 0 (21, [.ref a0, .ref x4, .ref r6, .retAddr 0, .retAddr 0, .retAddr 0, .retAddr 0, .retAddr 0, .retAddr 0, .retAddr 0, .retAddr 0, .retAddr 0, .retAddr 0, .retAddr 0, .retAddr 0], [.int r11], h10) _ _
  refine eb_b (c := r11 = 0) (26, [.ref a0, .ref x4, .ref r6, .retAddr 0, .retAddr 0, .retAddr 0, .retAddr 0, .retAddr 0, .retAddr 0, .retAddr 0, .retAddr 0, .retAddr 0, .retAddr 0, .retAddr 0, .retAddr 0], [], h10) (24, [.ref a0, .ref x4, .ref r6, .retAddr 0, .retAddr 0, .retAddr 0, .retAddr 0, .retAddr 0, .retAddr 0, .retAddr 0, .retAddr 0, .retAddr 0, .retAddr 0, .retAddr 0, .retAddr 0], [], h10) rfl (fun c12 => ?_) (fun c12 => ?_)
  · replace e := ite_t c12 e
    refine eb_n 2 (28, [.ref a0, .ref x4, .ref r6, .int (nI 0), .retAddr 0, .retAddr 0, .retAddr 0, .retAddr 0, .retAddr 0, .retAddr 0, .retAddr 0, .retAddr 0, .retAddr 0, .retAddr 0, .retAddr 0], [], h10) (rfl) ?_
    exact f_Law_law_l28_ev d hd   FU _ _ _ _ _ _ _ _ _ _ _ _ _ _ _ _ e
  · replace e := ite_f c12 e
    refine eb_n 1 (25, [.ref a0, .ref x4, .ref r6, .retAddr 0, .retAddr 0, .retAddr 0, .retAddr 0, .retAddr 0, .retAddr 0, .retAddr 0, .retAddr 0, .retAddr 0, .retAddr 0, .retAddr 0, .retAddr 0], [.int (nI 0)], h10) (rfl) ?_
    rw [(sp_inj e).1, (sp_inj e).2]
    exact eb_rg (p := nrm 3 (nI 0)) rfl nrm_30

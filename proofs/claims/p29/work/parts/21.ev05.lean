/-! THEIR ANSWERS ARE RUNS (written by wip/p29/gen_sh.py) -/
set_option maxRecDepth 100000 in
set_option maxHeartbeats 4000000 in
theorem f_Sim_behind_b2_ev {h' : AH} {r : Nat} (d : Nat) (hd : 3 ≤ d) (k2 : AH → Nat → Int32 → Int32 → Option (AH × Nat)) (hk2 : ∀ (h : AH) (a0 : Nat) (a1 : Int32) (a2 : Int32)  , k2 h a0 a1 a2 = some (h', r) → Eb (Ev tb mL d) 48 (2, [.ref a0, .int a1, .int a2], [], h) h' (some (.ref r)))  (h : AH) (a0 : Nat) (a1 : Int32) (a2 : Int32)   (e : f_Sim_behind_b2 k2 h a0 a1 a2 = some (h', r)) : Eb (Ev tb mL d) 48 (2, [.ref a0, .int a1, .int a2], [], h) h' (some (.ref r)) := by
  unfold f_Sim_behind_b2 at e
  refine eb_n 2 (4, [.ref a0, .int a1, .int a2], [.int a1, .int a2], h) (rfl) ?_
  refine eb_b (c := a1 ≤ a2) (17, [.ref a0, .int a1, .int a2], [], h) (7, [.ref a0, .int a1, .int a2], [], h) rfl (fun c1 => ?_) (fun c1 => ?_)
  · replace e := ite_t c1 e
    refine eb_n 1 (18, [.ref a0, .int a1, .int a2], [.ref a0], h) (rfl) ?_
    rw [(sp_inj e).1, (sp_inj e).2]
    exact eb_r rfl
  · replace e := ite_f c1 e
    refine eb_n 1 (8, [.ref a0, .int a1, .int a2], [.ref a0], h) (rfl) ?_
    obtain ⟨g2, e⟩ := gd_some e
    obtain ⟨h3, eh3, e⟩ := bv_some e
    refine eb_cg (p := hT h a0 = 13) rfl g2 (f_Sim_pass_ev d (Nat.le_trans (by decide) hd) eh3) ?_
    show Eb _ 48 (11, [.ref a0, .int a1, .int a2], [], h3) _ _
    obtain ⟨x4, hx4, e⟩ := lq_some e
    refine eb_n 1 (14, [.ref a0, .int a1, .int x4], [], h3) (by subst hx4; rfl) ?_
    refine eb_n 1 (2, [.ref a0, .int a1, .int x4], [], h3) (rfl) ?_
    exact hk2 _ _ _ _  e
set_option maxRecDepth 100000 in
set_option maxHeartbeats 4000000 in
theorem f_Sim_behind_l2_ev {h' : AH} {r : Nat} (d : Nat) (hd : 3 ≤ d)  : ∀ (n : Nat) (h : AH) (a0 : Nat) (a1 : Int32) (a2 : Int32)   (_ : f_Sim_behind_l2  n h a0 a1 a2 = some (h', r)), Eb (Ev tb mL d) 48 (2, [.ref a0, .int a1, .int a2], [], h) h' (some (.ref r)) := by
  intro n
  induction n with
  | zero => intro h a0 a1 a2  e; exact nomatch e
  | succ n ih =>
    intro h a0 a1 a2  e
    exact f_Sim_behind_b2_ev d hd _ (fun h a0 a1 a2  e => ih h a0 a1 a2  e) h a0 a1 a2  e
set_option maxRecDepth 100000 in
set_option maxHeartbeats 4000000 in
theorem f_Sim_behind_ev (d0 : Nat) (hd0 : 4 ≤ d0) {h' : AH} {r : Nat} {h : AH} {a0 : Nat} {a1 : Int32} (e : f_Sim_behind h a0 a1 = some (h', r)) : Ev tb mL d0 48 [.ref a0, .int a1] h h' (some (.ref r)) := by
  obtain ⟨d, rfl⟩ : ∃ d, d0 = d + 1 := ⟨d0 - 1, by omega⟩
  have hd : 3 ≤ d := by omega
  refine ⟨Nat.le_of_ble_eq_true rfl, ?_⟩
  show Eb (Ev tb mL d) 48 (0, [.ref a0, .int a1, .retAddr 0], [], h) h' (some (.ref r))
  unfold f_Sim_behind at e
  refine eb_n 2 (2, [.ref a0, .int a1, .int (nI 0)], [], h) (rfl) ?_
  exact f_Sim_behind_l2_ev d hd   FU _ _ _ _  e
set_option maxRecDepth 100000 in
set_option maxHeartbeats 4000000 in
theorem f_Orders_pop_ev (d0 : Nat) (hd0 : 1 ≤ d0) {h' : AH} {r : Int32} {h : AH} {a0 : Nat} (e : f_Orders_pop h a0 = some (h', r)) : Ev tb mL d0 203 [.ref a0] h h' (some (.int r)) := by
  obtain ⟨d, rfl⟩ : ∃ d, d0 = d + 1 := ⟨d0 - 1, by omega⟩
  have hd : 0 ≤ d := by omega
  refine ⟨Nat.le_of_ble_eq_true rfl, ?_⟩
  show Eb (Ev tb mL d) 203 (0, [.ref a0], [], h) h' (some (.int r))
  unfold f_Orders_pop at e
  refine eb_n 1 (1, [.ref a0], [.ref a0], h) (rfl) ?_
  obtain ⟨g1, e⟩ := gd_some e
  refine eb_g (p := hT h a0 = 2) (4, [.ref a0], [.int (hI h a0 4)], h) rfl g1 ?_
  refine eb_n 1 (5, [.ref a0], [.int (nI 1), .int (hI h a0 4)], h) (rfl) ?_
  refine eb_b (c := (hI h a0 4) < (nI 1)) (20, [.ref a0], [], h) (8, [.ref a0], [], h) rfl (fun c2 => ?_) (fun c2 => ?_)
  · replace e := ite_t c2 e
    refine eb_n 1 (21, [.ref a0], [.int (nI 0)], h) (rfl) ?_
    rw [(sp_inj e).1, (sp_inj e).2]
    exact eb_rg (p := nrm 0 (nI 0)) rfl (nrm_0 _)
  · replace e := ite_f c2 e
    refine eb_n 1 (9, [.ref a0], [.ref a0], h) (rfl) ?_
    refine eb_g (p := hT h a0 = 2) (12, [.ref a0], [.int (hI h a0 4)], h) rfl g1 ?_
    refine eb_n 1 (13, [.ref a0], [.ref a0, .int (hI h a0 4)], h) (rfl) ?_
    refine eb_g (p := hT h a0 = 2) (16, [.ref a0], [.ref (hR h a0 3), .int (hI h a0 4)], h) rfl g1 ?_
    obtain ⟨g3, e⟩ := gd_some e
    refine eb_g (p := hT h (hR h a0 3) = 101) (17, [.ref a0], [.int (nI (hL h (hR h a0 3))), .int (hI h a0 4)], h) rfl g3 ?_
    refine eb_b (c := (hI h a0 4) ≤ (nI (hL h (hR h a0 3)))) (22, [.ref a0], [], h) (20, [.ref a0], [], h) rfl (fun c4 => ?_) (fun c4 => ?_)
    · replace e := ite_t c4 e
      refine eb_n 2 (24, [.ref a0], [.ref a0, .ref a0], h) (rfl) ?_
      refine eb_g (p := hT h a0 = 2) (27, [.ref a0], [.int (hI h a0 4), .ref a0], h) rfl g1 ?_
      refine eb_n 2 (29, [.ref a0], [.int ((hI h a0 4) - (nI 1)), .ref a0], h) (rfl) ?_
      obtain ⟨h5, eh5, e⟩ := lq_some e
      refine eb_g (p := hT h a0 = 2) (32, [.ref a0], [], h5) (by rw [eh5]; rfl) g1 ?_
      refine eb_n 1 (33, [.ref a0], [.ref a0], h5) (rfl) ?_
      obtain ⟨g6, e⟩ := gd_some e
      refine eb_g (p := hT h5 a0 = 2) (36, [.ref a0], [.ref (hR h5 a0 3)], h5) rfl g6 ?_
      refine eb_n 1 (37, [.ref a0], [.ref a0, .ref (hR h5 a0 3)], h5) (rfl) ?_
      refine eb_g (p := hT h5 a0 = 2) (40, [.ref a0], [.int (hI h5 a0 4), .ref (hR h5 a0 3)], h5) rfl g6 ?_
      obtain ⟨g7, e⟩ := gd_some e
      refine eb_g (p := hT h5 (hR h5 a0 3) = 101 ∧ inb (hI h5 a0 4) (hL h5 (hR h5 a0 3))) (41, [.ref a0], [.int (hI h5 (hR h5 a0 3) (ix (hI h5 a0 4)))], h5) rfl g7 ?_
      rw [(sp_inj e).1, (sp_inj e).2]
      exact eb_rg (p := nrm 0 (hI h5 (hR h5 a0 3) (ix (hI h5 a0 4)))) rfl (nrm_0 _)
    · replace e := ite_f c4 e
      refine eb_n 1 (21, [.ref a0], [.int (nI 0)], h) (rfl) ?_
      rw [(sp_inj e).1, (sp_inj e).2]
      exact eb_rg (p := nrm 0 (nI 0)) rfl (nrm_0 _)
set_option maxRecDepth 100000 in
set_option maxHeartbeats 4000000 in
theorem f_Orders_whetByOrder_b12_ev {h' : AH} (d : Nat) (hd : 2 ≤ d)  (h : AH) (a1 : Int32) (a2 : Nat) (s0 : Int32) (d0 : Value) (d3 : Value) (e : f_Orders_whetByOrder_b12  h a1 a2 s0 = some h') : Eb (Ev tb mL d) 199 (12, [d0, .int a1, .ref a2, d3], [.int s0], h) h' none := by
  unfold f_Orders_whetByOrder_b12 at e
  refine eb_n 2 (14, [d0, .int a1, .ref a2, .int s0], [.int s0], h) (rfl) ?_
  refine eb_b (c := s0 = 0) (43, [d0, .int a1, .ref a2, .int s0], [], h) (17, [d0, .int a1, .ref a2, .int s0], [], h) rfl (fun c1 => ?_) (fun c1 => ?_)
  · replace e := ite_t c1 e
    rw [sv_inj e]
    exact eb_r rfl
  · replace e := ite_f c1 e
    refine eb_n 2 (19, [d0, .int a1, .ref a2, .int s0], [.int a1, .ref a2], h) (rfl) ?_
    obtain ⟨g2, e⟩ := gd_some e
    obtain ⟨h3, r4, eh3, e⟩ := bn_some e
    refine eb_cg (p := hT h a2 = 3) rfl g2 (f_River_hasPeeler_ev d (Nat.le_trans (by decide) hd) eh3) ?_
    show Eb _ 199 (22, [d0, .int a1, .ref a2, .int s0], [.int r4], h3) _ _
    refine eb_b (c := r4 = 0) (43, [d0, .int a1, .ref a2, .int s0], [], h3) (25, [d0, .int a1, .ref a2, .int s0], [], h3) rfl (fun c5 => ?_) (fun c5 => ?_)
    · replace e := ite_t c5 e
      rw [sv_inj e]
      exact eb_r rfl
    · replace e := ite_f c5 e
      refine eb_n 2 (27, [d0, .int a1, .ref a2, .int s0], [.int a1, .ref a2], h3) (rfl) ?_
      obtain ⟨g6, e⟩ := gd_some e
      obtain ⟨h7, r8, eh7, e⟩ := bn_some e
      refine eb_cg (p := hT h3 a2 = 3) rfl g6 (f_River_whetsKnife_ev d (Nat.le_trans (by decide) hd) eh7) ?_
      show Eb _ 199 (30, [d0, .int a1, .ref a2, .int s0], [.int r8], h7) _ _
      refine eb_b (c := r8 = 0) (43, [d0, .int a1, .ref a2, .int s0], [], h7) (33, [d0, .int a1, .ref a2, .int s0], [], h7) rfl (fun c9 => ?_) (fun c9 => ?_)
      · replace e := ite_t c9 e
        rw [sv_inj e]
        exact eb_r rfl
      · replace e := ite_f c9 e
        refine eb_n 2 (35, [d0, .int a1, .ref a2, .int s0], [.ref a2, .ref a2], h7) (rfl) ?_
        obtain ⟨g10, e⟩ := gd_some e
        refine eb_g (p := hT h7 a2 = 3) (38, [d0, .int a1, .ref a2, .int s0], [.int (hI h7 a2 17), .ref a2], h7) rfl g10 ?_
        refine eb_n 2 (40, [d0, .int a1, .ref a2, .int s0], [.int ((hI h7 a2 17) + (nI 1)), .ref a2], h7) (rfl) ?_
        obtain ⟨h11, eh11, e⟩ := lq_some e
        refine eb_g (p := hT h7 a2 = 3) (43, [d0, .int a1, .ref a2, .int s0], [], h11) (by rw [eh11]; rfl) g10 ?_
        rw [sv_inj e]
        exact eb_r rfl
set_option maxRecDepth 100000 in
set_option maxHeartbeats 4000000 in
theorem f_Orders_whetByOrder_ev (d0 : Nat) (hd0 : 3 ≤ d0) {h' : AH} {h : AH} {a0 : Nat} {a1 : Int32} {a2 : Nat} (e : f_Orders_whetByOrder h a0 a1 a2 = some h') : Ev tb mL d0 199 [.ref a0, .int a1, .ref a2] h h' none := by
  obtain ⟨d, rfl⟩ : ∃ d, d0 = d + 1 := ⟨d0 - 1, by omega⟩
  have hd : 2 ≤ d := by omega
  refine ⟨Nat.le_of_ble_eq_true rfl, ?_⟩
  show Eb (Ev tb mL d) 199 (0, [.ref a0, .int a1, .ref a2, .retAddr 0], [], h) h' none
  unfold f_Orders_whetByOrder at e
  refine eb_n 1 (1, [.ref a0, .int a1, .ref a2, .retAddr 0], [.ref a0], h) (rfl) ?_
  obtain ⟨g1, e⟩ := gd_some e
  obtain ⟨h2, r3, eh2, e⟩ := bn_some e
  refine eb_cg (p := hT h a0 = 2) rfl g1 (f_Orders_pop_ev d (Nat.le_trans (by decide) hd) eh2) ?_
  show Eb _ 199 (4, [.ref a0, .int a1, .ref a2, .retAddr 0], [.int r3], h2) _ _
  refine eb_b (c := r3 = 0) (11, [.ref a0, .int a1, .ref a2, .retAddr 0], [], h2) (7, [.ref a0, .int a1, .ref a2, .retAddr 0], [], h2) rfl (fun c4 => ?_) (fun c4 => ?_)
  · replace e := ite_t c4 e
    refine eb_n 1 (12, [.ref a0, .int a1, .ref a2, .retAddr 0], [.int (nI 0)], h2) (rfl) ?_
    exact f_Orders_whetByOrder_b12_ev d hd   _ _ _ _ _ _ e
  · replace e := ite_f c4 e
    refine eb_n 2 (12, [.ref a0, .int a1, .ref a2, .retAddr 0], [.int (nI 1)], h2) (rfl) ?_
    exact f_Orders_whetByOrder_b12_ev d hd   _ _ _ _ _ _ e
set_option maxRecDepth 100000 in
set_option maxHeartbeats 4000000 in
theorem f_Orders_loadByOrder_b12_ev {h' : AH} (d : Nat) (hd : 2 ≤ d)  (h : AH) (a0 : Nat) (a1 : Int32) (a2 : Nat) (s0 : Int32) (d3 : Value) (d4 : Value) (d5 : Value) (e : f_Orders_loadByOrder_b12  h a0 a1 a2 s0 = some h') : Eb (Ev tb mL d) 200 (12, [.ref a0, .int a1, .ref a2, d3, d4, d5], [.int s0], h) h' none := by
  unfold f_Orders_loadByOrder_b12 at e
  refine eb_n 2 (14, [.ref a0, .int a1, .ref a2, .int s0, d4, d5], [.ref a0], h) (rfl) ?_
  obtain ⟨g1, e⟩ := gd_some e
  obtain ⟨h2, r3, eh2, e⟩ := bn_some e
  refine eb_cg (p := hT h a0 = 2) rfl g1 (f_Orders_pop_ev d (Nat.le_trans (by decide) hd) eh2) ?_
  show Eb _ 200 (17, [.ref a0, .int a1, .ref a2, .int s0, d4, d5], [.int r3], h2) _ _
  refine eb_n 2 (20, [.ref a0, .int a1, .ref a2, .int s0, .int r3, d5], [.ref a0], h2) (rfl) ?_
  obtain ⟨g4, e⟩ := gd_some e
  obtain ⟨h5, r6, eh5, e⟩ := bn_some e
  refine eb_cg (p := hT h2 a0 = 2) rfl g4 (f_Orders_pop_ev d (Nat.le_trans (by decide) hd) eh5) ?_
  show Eb _ 200 (23, [.ref a0, .int a1, .ref a2, .int s0, .int r3, d5], [.int r6], h5) _ _
  refine eb_n 2 (26, [.ref a0, .int a1, .ref a2, .int s0, .int r3, .int r6], [.int s0], h5) (rfl) ?_
  refine eb_b (c := s0 = 0) (68, [.ref a0, .int a1, .ref a2, .int s0, .int r3, .int r6], [], h5) (29, [.ref a0, .int a1, .ref a2, .int s0, .int r3, .int r6], [], h5) rfl (fun c7 => ?_) (fun c7 => ?_)
  · replace e := ite_t c7 e
    rw [sv_inj e]
    exact eb_r rfl
  · replace e := ite_f c7 e
    refine eb_n 2 (31, [.ref a0, .int a1, .ref a2, .int s0, .int r3, .int r6], [.int a1, .ref a2], h5) (rfl) ?_
    obtain ⟨g8, e⟩ := gd_some e
    obtain ⟨h9, r10, eh9, e⟩ := bn_some e
    refine eb_cg (p := hT h5 a2 = 3) rfl g8 (f_River_hasBoat_ev d (Nat.le_trans (by decide) hd) eh9) ?_
    show Eb _ 200 (34, [.ref a0, .int a1, .ref a2, .int s0, .int r3, .int r6], [.int r10], h9) _ _
    refine eb_b (c := r10 = 0) (68, [.ref a0, .int a1, .ref a2, .int s0, .int r3, .int r6], [], h9) (37, [.ref a0, .int a1, .ref a2, .int s0, .int r3, .int r6], [], h9) rfl (fun c11 => ?_) (fun c11 => ?_)
    · replace e := ite_t c11 e
      rw [sv_inj e]
      exact eb_r rfl
    · replace e := ite_f c11 e
      refine eb_n 2 (40, [.ref a0, .int a1, .ref a2, .int s0, .int r3, .int r6], [.int r3, .ref a2], h9) (rfl) ?_
      obtain ⟨g12, e⟩ := gd_some e
      obtain ⟨h13, r14, eh13, e⟩ := bn_some e
      refine eb_cg (p := hT h9 a2 = 3) rfl g12 (f_River_hasGrade_ev d (Nat.le_trans (by decide) hd) eh13) ?_
      show Eb _ 200 (43, [.ref a0, .int a1, .ref a2, .int s0, .int r3, .int r6], [.int r14], h13) _ _
      refine eb_b (c := r14 = 0) (68, [.ref a0, .int a1, .ref a2, .int s0, .int r3, .int r6], [], h13) (46, [.ref a0, .int a1, .ref a2, .int s0, .int r3, .int r6], [], h13) rfl (fun c15 => ?_) (fun c15 => ?_)
      · replace e := ite_t c15 e
        rw [sv_inj e]
        exact eb_r rfl
      · replace e := ite_f c15 e
        refine eb_n 4 (52, [.ref a0, .int a1, .ref a2, .int s0, .int r3, .int r6], [.int r6, .int r3, .int a1, .ref a2], h13) (rfl) ?_
        obtain ⟨g16, e⟩ := gd_some e
        obtain ⟨h17, r18, eh17, e⟩ := bn_some e
        refine eb_cg (p := hT h13 a2 = 3) rfl g16 (f_River_loadBoat_ev d (Nat.le_trans (by decide) hd) eh17) ?_
        show Eb _ 200 (55, [.ref a0, .int a1, .ref a2, .int s0, .int r3, .int r6], [.int r18], h17) _ _
        refine eb_b (c := r18 ≤ 0) (68, [.ref a0, .int a1, .ref a2, .int s0, .int r3, .int r6], [], h17) (58, [.ref a0, .int a1, .ref a2, .int s0, .int r3, .int r6], [], h17) rfl (fun c19 => ?_) (fun c19 => ?_)
        · replace e := ite_t c19 e
          rw [sv_inj e]
          exact eb_r rfl
        · replace e := ite_f c19 e
          refine eb_n 2 (60, [.ref a0, .int a1, .ref a2, .int s0, .int r3, .int r6], [.ref a2, .ref a2], h17) (rfl) ?_
          obtain ⟨g20, e⟩ := gd_some e
          refine eb_g (p := hT h17 a2 = 3) (63, [.ref a0, .int a1, .ref a2, .int s0, .int r3, .int r6], [.int (hI h17 a2 17), .ref a2], h17) rfl g20 ?_
          refine eb_n 2 (65, [.ref a0, .int a1, .ref a2, .int s0, .int r3, .int r6], [.int ((hI h17 a2 17) + (nI 1)), .ref a2], h17) (rfl) ?_
          obtain ⟨h21, eh21, e⟩ := lq_some e
          refine eb_g (p := hT h17 a2 = 3) (68, [.ref a0, .int a1, .ref a2, .int s0, .int r3, .int r6], [], h21) (by rw [eh21]; rfl) g20 ?_
          rw [sv_inj e]
          exact eb_r rfl
set_option maxRecDepth 100000 in
set_option maxHeartbeats 4000000 in
theorem f_Orders_loadByOrder_ev (d0 : Nat) (hd0 : 3 ≤ d0) {h' : AH} {h : AH} {a0 : Nat} {a1 : Int32} {a2 : Nat} (e : f_Orders_loadByOrder h a0 a1 a2 = some h') : Ev tb mL d0 200 [.ref a0, .int a1, .ref a2] h h' none := by
  obtain ⟨d, rfl⟩ : ∃ d, d0 = d + 1 := ⟨d0 - 1, by omega⟩
  have hd : 2 ≤ d := by omega
  refine ⟨Nat.le_of_ble_eq_true rfl, ?_⟩
  show Eb (Ev tb mL d) 200 (0, [.ref a0, .int a1, .ref a2, .retAddr 0, .retAddr 0, .retAddr 0], [], h) h' none
  unfold f_Orders_loadByOrder at e
  refine eb_n 1 (1, [.ref a0, .int a1, .ref a2, .retAddr 0, .retAddr 0, .retAddr 0], [.ref a0], h) (rfl) ?_
  obtain ⟨g1, e⟩ := gd_some e
  obtain ⟨h2, r3, eh2, e⟩ := bn_some e
  refine eb_cg (p := hT h a0 = 2) rfl g1 (f_Orders_pop_ev d (Nat.le_trans (by decide) hd) eh2) ?_
  show Eb _ 200 (4, [.ref a0, .int a1, .ref a2, .retAddr 0, .retAddr 0, .retAddr 0], [.int r3], h2) _ _
  refine eb_b (c := r3 = 0) (11, [.ref a0, .int a1, .ref a2, .retAddr 0, .retAddr 0, .retAddr 0], [], h2) (7, [.ref a0, .int a1, .ref a2, .retAddr 0, .retAddr 0, .retAddr 0], [], h2) rfl (fun c4 => ?_) (fun c4 => ?_)
  · replace e := ite_t c4 e
    refine eb_n 1 (12, [.ref a0, .int a1, .ref a2, .retAddr 0, .retAddr 0, .retAddr 0], [.int (nI 0)], h2) (rfl) ?_
    exact f_Orders_loadByOrder_b12_ev d hd   _ _ _ _ _ _ _ _ e
  · replace e := ite_f c4 e
    refine eb_n 2 (12, [.ref a0, .int a1, .ref a2, .retAddr 0, .retAddr 0, .retAddr 0], [.int (nI 1)], h2) (rfl) ?_
    exact f_Orders_loadByOrder_b12_ev d hd   _ _ _ _ _ _ _ _ e
set_option maxRecDepth 100000 in
set_option maxHeartbeats 4000000 in
theorem f_Orders_restByOrder_b12_ev {h' : AH} (d : Nat) (hd : 1 ≤ d)  (h : AH) (a1 : Int32) (a2 : Nat) (s0 : Int32) (d0 : Value) (d3 : Value) (e : f_Orders_restByOrder_b12  h a1 a2 s0 = some h') : Eb (Ev tb mL d) 201 (12, [d0, .int a1, .ref a2, d3], [.int s0], h) h' none := by
  unfold f_Orders_restByOrder_b12 at e
  refine eb_n 2 (14, [d0, .int a1, .ref a2, .int s0], [.int s0], h) (rfl) ?_
  refine eb_b (c := s0 = 0) (45, [d0, .int a1, .ref a2, .int s0], [], h) (17, [d0, .int a1, .ref a2, .int s0], [], h) rfl (fun c1 => ?_) (fun c1 => ?_)
  · replace e := ite_t c1 e
    rw [sv_inj e]
    exact eb_r rfl
  · replace e := ite_f c1 e
    refine eb_n 2 (19, [d0, .int a1, .ref a2, .int s0], [.int a1, .ref a2], h) (rfl) ?_
    obtain ⟨g2, e⟩ := gd_some e
    obtain ⟨h3, r4, eh3, e⟩ := bn_some e
    refine eb_cg (p := hT h a2 = 3) rfl g2 (f_River_hasPeeler_ev d (Nat.le_trans (by decide) hd) eh3) ?_
    show Eb _ 201 (22, [d0, .int a1, .ref a2, .int s0], [.int r4], h3) _ _
    refine eb_b (c := r4 = 0) (45, [d0, .int a1, .ref a2, .int s0], [], h3) (25, [d0, .int a1, .ref a2, .int s0], [], h3) rfl (fun c5 => ?_) (fun c5 => ?_)
    · replace e := ite_t c5 e
      rw [sv_inj e]
      exact eb_r rfl
    · replace e := ite_f c5 e
      refine eb_n 1 (26, [d0, .int a1, .ref a2, .int s0], [.ref a2], h3) (rfl) ?_
      obtain ⟨g6, e⟩ := gd_some e
      refine eb_g (p := hT h3 a2 = 3) (29, [d0, .int a1, .ref a2, .int s0], [.ref (hR h3 a2 2)], h3) rfl g6 ?_
      refine eb_n 1 (30, [d0, .int a1, .ref a2, .int s0], [.int a1, .ref (hR h3 a2 2)], h3) (rfl) ?_
      obtain ⟨g7, e⟩ := gd_some e
      refine eb_g (p := hT h3 (hR h3 a2 2) = 106 ∧ inb a1 (hL h3 (hR h3 a2 2))) (31, [d0, .int a1, .ref a2, .int s0], [.ref (hR h3 (hR h3 a2 2) (ix a1))], h3) rfl g7 ?_
      refine eb_n 1 (32, [d0, .int a1, .ref a2, .int s0], [.int (nI 1), .ref (hR h3 (hR h3 a2 2) (ix a1))], h3) (rfl) ?_
      obtain ⟨g8, e⟩ := gd_some e
      obtain ⟨h9, eh9, e⟩ := lq_some e
      refine eb_g (p := hT h3 (hR h3 (hR h3 a2 2) (ix a1)) = 6 ∧ ((nI 1) = 0 ∨ (nI 1) = 1)) (35, [d0, .int a1, .ref a2, .int s0], [], h9) (by rw [eh9]; rfl) g8 ?_
      refine eb_n 2 (37, [d0, .int a1, .ref a2, .int s0], [.ref a2, .ref a2], h9) (rfl) ?_
      obtain ⟨g10, e⟩ := gd_some e
      refine eb_g (p := hT h9 a2 = 3) (40, [d0, .int a1, .ref a2, .int s0], [.int (hI h9 a2 17), .ref a2], h9) rfl g10 ?_
      refine eb_n 2 (42, [d0, .int a1, .ref a2, .int s0], [.int ((hI h9 a2 17) + (nI 1)), .ref a2], h9) (rfl) ?_
      obtain ⟨h11, eh11, e⟩ := lq_some e
      refine eb_g (p := hT h9 a2 = 3) (45, [d0, .int a1, .ref a2, .int s0], [], h11) (by rw [eh11]; rfl) g10 ?_
      rw [sv_inj e]
      exact eb_r rfl
set_option maxRecDepth 100000 in
set_option maxHeartbeats 4000000 in
theorem f_Orders_restByOrder_ev (d0 : Nat) (hd0 : 2 ≤ d0) {h' : AH} {h : AH} {a0 : Nat} {a1 : Int32} {a2 : Nat} (e : f_Orders_restByOrder h a0 a1 a2 = some h') : Ev tb mL d0 201 [.ref a0, .int a1, .ref a2] h h' none := by
  obtain ⟨d, rfl⟩ : ∃ d, d0 = d + 1 := ⟨d0 - 1, by omega⟩
  have hd : 1 ≤ d := by omega
  refine ⟨Nat.le_of_ble_eq_true rfl, ?_⟩
  show Eb (Ev tb mL d) 201 (0, [.ref a0, .int a1, .ref a2, .retAddr 0], [], h) h' none
  unfold f_Orders_restByOrder at e
  refine eb_n 1 (1, [.ref a0, .int a1, .ref a2, .retAddr 0], [.ref a0], h) (rfl) ?_
  obtain ⟨g1, e⟩ := gd_some e
  obtain ⟨h2, r3, eh2, e⟩ := bn_some e
  refine eb_cg (p := hT h a0 = 2) rfl g1 (f_Orders_pop_ev d (Nat.le_trans (by decide) hd) eh2) ?_
  show Eb _ 201 (4, [.ref a0, .int a1, .ref a2, .retAddr 0], [.int r3], h2) _ _
  refine eb_b (c := r3 = 0) (11, [.ref a0, .int a1, .ref a2, .retAddr 0], [], h2) (7, [.ref a0, .int a1, .ref a2, .retAddr 0], [], h2) rfl (fun c4 => ?_) (fun c4 => ?_)
  · replace e := ite_t c4 e
    refine eb_n 1 (12, [.ref a0, .int a1, .ref a2, .retAddr 0], [.int (nI 0)], h2) (rfl) ?_
    exact f_Orders_restByOrder_b12_ev d hd   _ _ _ _ _ _ e
  · replace e := ite_f c4 e
    refine eb_n 2 (12, [.ref a0, .int a1, .ref a2, .retAddr 0], [.int (nI 1)], h2) (rfl) ?_
    exact f_Orders_restByOrder_b12_ev d hd   _ _ _ _ _ _ e
set_option maxRecDepth 100000 in
set_option maxHeartbeats 4000000 in
theorem f_Orders_push_ev (d0 : Nat) (hd0 : 1 ≤ d0) {h' : AH} {h : AH} {a0 : Nat} {a1 : Int32} (e : f_Orders_push h a0 a1 = some h') : Ev tb mL d0 202 [.ref a0, .int a1] h h' none := by
  obtain ⟨d, rfl⟩ : ∃ d, d0 = d + 1 := ⟨d0 - 1, by omega⟩
  have hd : 0 ≤ d := by omega
  refine ⟨Nat.le_of_ble_eq_true rfl, ?_⟩
  show Eb (Ev tb mL d) 202 (0, [.ref a0, .int a1], [], h) h' none
  unfold f_Orders_push at e
  refine eb_n 1 (1, [.ref a0, .int a1], [.ref a0], h) (rfl) ?_
  obtain ⟨g1, e⟩ := gd_some e
  refine eb_g (p := hT h a0 = 2) (4, [.ref a0, .int a1], [.int (hI h a0 4)], h) rfl g1 ?_
  refine eb_b (c := (hI h a0 4) < 0) (39, [.ref a0, .int a1], [], h) (7, [.ref a0, .int a1], [], h) rfl (fun c2 => ?_) (fun c2 => ?_)
  · replace e := ite_t c2 e
    rw [sv_inj e]
    exact eb_r rfl
  · replace e := ite_f c2 e
    refine eb_n 1 (8, [.ref a0, .int a1], [.ref a0], h) (rfl) ?_
    refine eb_g (p := hT h a0 = 2) (11, [.ref a0, .int a1], [.int (hI h a0 4)], h) rfl g1 ?_
    refine eb_n 1 (12, [.ref a0, .int a1], [.ref a0, .int (hI h a0 4)], h) (rfl) ?_
    refine eb_g (p := hT h a0 = 2) (15, [.ref a0, .int a1], [.ref (hR h a0 3), .int (hI h a0 4)], h) rfl g1 ?_
    obtain ⟨g3, e⟩ := gd_some e
    refine eb_g (p := hT h (hR h a0 3) = 101) (16, [.ref a0, .int a1], [.int (nI (hL h (hR h a0 3))), .int (hI h a0 4)], h) rfl g3 ?_
    refine eb_b (c := (nI (hL h (hR h a0 3))) ≤ (hI h a0 4)) (39, [.ref a0, .int a1], [], h) (19, [.ref a0, .int a1], [], h) rfl (fun c4 => ?_) (fun c4 => ?_)
    · replace e := ite_t c4 e
      rw [sv_inj e]
      exact eb_r rfl
    · replace e := ite_f c4 e
      refine eb_n 1 (20, [.ref a0, .int a1], [.ref a0], h) (rfl) ?_
      refine eb_g (p := hT h a0 = 2) (23, [.ref a0, .int a1], [.ref (hR h a0 3)], h) rfl g1 ?_
      refine eb_n 1 (24, [.ref a0, .int a1], [.ref a0, .ref (hR h a0 3)], h) (rfl) ?_
      refine eb_g (p := hT h a0 = 2) (27, [.ref a0, .int a1], [.int (hI h a0 4), .ref (hR h a0 3)], h) rfl g1 ?_
      refine eb_n 1 (28, [.ref a0, .int a1], [.int a1, .int (hI h a0 4), .ref (hR h a0 3)], h) (rfl) ?_
      obtain ⟨g5, e⟩ := gd_some e
      obtain ⟨h6, eh6, e⟩ := lq_some e
      refine eb_g (p := hT h (hR h a0 3) = 101 ∧ inb (hI h a0 4) (hL h (hR h a0 3))) (29, [.ref a0, .int a1], [], h6) (by rw [eh6]; rfl) g5 ?_
      refine eb_n 2 (31, [.ref a0, .int a1], [.ref a0, .ref a0], h6) (rfl) ?_
      obtain ⟨g7, e⟩ := gd_some e
      refine eb_g (p := hT h6 a0 = 2) (34, [.ref a0, .int a1], [.int (hI h6 a0 4), .ref a0], h6) rfl g7 ?_
      refine eb_n 2 (36, [.ref a0, .int a1], [.int ((hI h6 a0 4) + (nI 1)), .ref a0], h6) (rfl) ?_
      obtain ⟨h8, eh8, e⟩ := lq_some e
      refine eb_g (p := hT h6 a0 = 2) (39, [.ref a0, .int a1], [], h8) (by rw [eh8]; rfl) g7 ?_
      rw [sv_inj e]
      exact eb_r rfl
set_option maxRecDepth 100000 in
set_option maxHeartbeats 4000000 in
theorem f_Orders_joinsTwo_b24_ev {h' : AH} {r : Int32} (d : Nat) (hd : 0 ≤ d)  (h : AH)   (d0 : Value) (e : f_Orders_joinsTwo_b24  h  = some (h', r)) : Eb (Ev tb mL d) 204 (24, [d0], [], h) h' (some (.int r)) := by
  unfold f_Orders_joinsTwo_b24 at e
  refine eb_n 2 (29, [d0], [.int (nI 1)], h) (rfl) ?_
  rw [(sp_inj e).1, (sp_inj e).2]
  exact eb_rg (p := nrm 3 (nI 1)) rfl nrm_31
set_option maxRecDepth 100000 in
set_option maxHeartbeats 4000000 in
theorem f_Orders_joinsTwo_b12_ev {h' : AH} {r : Int32} (d : Nat) (hd : 0 ≤ d)  (h : AH) (a0 : Int32)   (e : f_Orders_joinsTwo_b12  h a0 = some (h', r)) : Eb (Ev tb mL d) 204 (12, [.int a0], [], h) h' (some (.int r)) := by
  unfold f_Orders_joinsTwo_b12 at e
  refine eb_n 2 (15, [.int a0], [.int (nI 36), .int a0], h) (rfl) ?_
  refine eb_b (c := a0 < (nI 36)) (28, [.int a0], [], h) (18, [.int a0], [], h) rfl (fun c1 => ?_) (fun c1 => ?_)
  · replace e := ite_t c1 e
    refine eb_n 1 (29, [.int a0], [.int (nI 0)], h) (rfl) ?_
    rw [(sp_inj e).1, (sp_inj e).2]
    exact eb_rg (p := nrm 3 (nI 0)) rfl nrm_30
  · replace e := ite_f c1 e
    refine eb_n 2 (21, [.int a0], [.int (nI 39), .int a0], h) (rfl) ?_
    refine eb_b (c := (nI 39) < a0) (28, [.int a0], [], h) (24, [.int a0], [], h) rfl (fun c2 => ?_) (fun c2 => ?_)
    · replace e := ite_t c2 e
      refine eb_n 1 (29, [.int a0], [.int (nI 0)], h) (rfl) ?_
      rw [(sp_inj e).1, (sp_inj e).2]
      exact eb_rg (p := nrm 3 (nI 0)) rfl nrm_30
    · replace e := ite_f c2 e
      exact f_Orders_joinsTwo_b24_ev d hd   _  _ e
set_option maxRecDepth 100000 in
set_option maxHeartbeats 4000000 in
theorem f_Orders_joinsTwo_ev (d0 : Nat) (hd0 : 1 ≤ d0) {h' : AH} {r : Int32} {h : AH} {a0 : Int32} (e : f_Orders_joinsTwo h a0 = some (h', r)) : Ev tb mL d0 204 [.int a0] h h' (some (.int r)) := by
  obtain ⟨d, rfl⟩ : ∃ d, d0 = d + 1 := ⟨d0 - 1, by omega⟩
  have hd : 0 ≤ d := by omega
  refine ⟨Nat.le_of_ble_eq_true rfl, ?_⟩
  show Eb (Ev tb mL d) 204 (0, [.int a0], [], h) h' (some (.int r))
  unfold f_Orders_joinsTwo at e
  refine eb_n 2 (3, [.int a0], [.int (nI 46), .int a0], h) (rfl) ?_
  refine eb_b (c := a0 < (nI 46)) (12, [.int a0], [], h) (6, [.int a0], [], h) rfl (fun c1 => ?_) (fun c1 => ?_)
  · replace e := ite_t c1 e
    exact f_Orders_joinsTwo_b12_ev d hd   _ _  e
  · replace e := ite_f c1 e
    refine eb_n 2 (9, [.int a0], [.int (nI 54), .int a0], h) (rfl) ?_
    refine eb_b (c := a0 ≤ (nI 54)) (24, [.int a0], [], h) (12, [.int a0], [], h) rfl (fun c2 => ?_) (fun c2 => ?_)
    · replace e := ite_t c2 e
      exact f_Orders_joinsTwo_b24_ev d hd   _  _ e
    · replace e := ite_f c2 e
      exact f_Orders_joinsTwo_b12_ev d hd   _ _  e
set_option maxRecDepth 100000 in
set_option maxHeartbeats 4000000 in
theorem f_Orders_holds_b169_ev {h' : AH} {r : Int32} (d : Nat) (hd : 0 ≤ d)  (h : AH)   (d0 : Value) (d1 : Value) (d2 : Value) (e : f_Orders_holds_b169  h  = some (h', r)) : Eb (Ev tb mL d) 216 (169, [d0, d1, d2], [], h) h' (some (.int r)) := by
  unfold f_Orders_holds_b169 at e
  refine eb_n 2 (174, [d0, d1, d2], [.int (nI 1)], h) (rfl) ?_
  rw [(sp_inj e).1, (sp_inj e).2]
  exact eb_rg (p := nrm 3 (nI 1)) rfl nrm_31
set_option maxRecDepth 100000 in
set_option maxHeartbeats 4000000 in
theorem f_Orders_holds_ev (d0 : Nat) (hd0 : 1 ≤ d0) {h' : AH} {r : Int32} {h : AH} {a0 : Int32} {a1 : Int32} {a2 : Int32} (e : f_Orders_holds h a0 a1 a2 = some (h', r)) : Ev tb mL d0 216 [.int a0, .int a1, .int a2] h h' (some (.int r)) := by
  obtain ⟨d, rfl⟩ : ∃ d, d0 = d + 1 := ⟨d0 - 1, by omega⟩
  have hd : 0 ≤ d := by omega
  refine ⟨Nat.le_of_ble_eq_true rfl, ?_⟩
  show Eb (Ev tb mL d) 216 (0, [.int a0, .int a1, .int a2], [], h) h' (some (.int r))
  unfold f_Orders_holds at e
  refine eb_n 1 (1, [.int a0, .int a1, .int a2], [.int a0], h) (rfl) ?_
  by_cases c1 : a0 = nI 36
  · replace e := ite_t c1 e
    refine eb_n 1 (147, [.int a0, .int a1, .int a2], [], h) (by rw [c1]; rfl) ?_
    refine eb_n 1 (148, [.int a0, .int a1, .int a2], [.int a1], h) (rfl) ?_
    refine eb_b (c := a1 = 0) (159, [.int a0, .int a1, .int a2], [], h) (151, [.int a0, .int a1, .int a2], [], h) rfl (fun c2 => ?_) (fun c2 => ?_)
    · replace e := ite_t c2 e
      refine eb_n 1 (160, [.int a0, .int a1, .int a2], [.int (nI 0)], h) (rfl) ?_
      rw [(sp_inj e).1, (sp_inj e).2]
      exact eb_rg (p := nrm 3 (nI 0)) rfl nrm_30
    · replace e := ite_f c2 e
      refine eb_n 1 (152, [.int a0, .int a1, .int a2], [.int a2], h) (rfl) ?_
      refine eb_b (c := a2 = 0) (159, [.int a0, .int a1, .int a2], [], h) (155, [.int a0, .int a1, .int a2], [], h) rfl (fun c3 => ?_) (fun c3 => ?_)
      · replace e := ite_t c3 e
        refine eb_n 1 (160, [.int a0, .int a1, .int a2], [.int (nI 0)], h) (rfl) ?_
        rw [(sp_inj e).1, (sp_inj e).2]
        exact eb_rg (p := nrm 3 (nI 0)) rfl nrm_30
      · replace e := ite_f c3 e
        refine eb_n 2 (160, [.int a0, .int a1, .int a2], [.int (nI 1)], h) (rfl) ?_
        rw [(sp_inj e).1, (sp_inj e).2]
        exact eb_rg (p := nrm 3 (nI 1)) rfl nrm_31
  replace e := ite_f c1 e
  by_cases c4 : a0 = nI 37
  · replace e := ite_t c4 e
    refine eb_n 1 (161, [.int a0, .int a1, .int a2], [], h) (by rw [c4]; rfl) ?_
    refine eb_n 1 (162, [.int a0, .int a1, .int a2], [.int a1], h) (rfl) ?_
    refine eb_b (c := ¬ a1 = 0) (169, [.int a0, .int a1, .int a2], [], h) (165, [.int a0, .int a1, .int a2], [], h) rfl (fun c5 => ?_) (fun c5 => ?_)
    · replace e := ite_t c5 e
      exact f_Orders_holds_b169_ev d hd   _  _ _ _ e
    · replace e := ite_f c5 e
      refine eb_n 1 (166, [.int a0, .int a1, .int a2], [.int a2], h) (rfl) ?_
      refine eb_b (c := a2 = 0) (173, [.int a0, .int a1, .int a2], [], h) (169, [.int a0, .int a1, .int a2], [], h) rfl (fun c6 => ?_) (fun c6 => ?_)
      · replace e := ite_t c6 e
        refine eb_n 1 (174, [.int a0, .int a1, .int a2], [.int (nI 0)], h) (rfl) ?_
        rw [(sp_inj e).1, (sp_inj e).2]
        exact eb_rg (p := nrm 3 (nI 0)) rfl nrm_30
      · replace e := ite_f c6 e
        exact f_Orders_holds_b169_ev d hd   _  _ _ _ e
  replace e := ite_f c4 e
  by_cases c7 : a0 = nI 38
  · replace e := ite_t c7 e
    refine eb_n 1 (175, [.int a0, .int a1, .int a2], [], h) (by rw [c7]; rfl) ?_
    refine eb_n 1 (176, [.int a0, .int a1, .int a2], [.int (nI 0)], h) (rfl) ?_
    rw [(sp_inj e).1, (sp_inj e).2]
    exact eb_rg (p := nrm 3 (nI 0)) rfl nrm_30
  replace e := ite_f c7 e
  by_cases c8 : a0 = nI 39
  · replace e := ite_t c8 e
    refine eb_n 1 (175, [.int a0, .int a1, .int a2], [], h) (by rw [c8]; rfl) ?_
    refine eb_n 1 (176, [.int a0, .int a1, .int a2], [.int (nI 0)], h) (rfl) ?_
    rw [(sp_inj e).1, (sp_inj e).2]
    exact eb_rg (p := nrm 3 (nI 0)) rfl nrm_30
  replace e := ite_f c8 e
  by_cases c9 : a0 = nI 40
  · replace e := ite_t c9 e
    refine eb_n 1 (175, [.int a0, .int a1, .int a2], [], h) (by rw [c9]; rfl) ?_
    refine eb_n 1 (176, [.int a0, .int a1, .int a2], [.int (nI 0)], h) (rfl) ?_
    rw [(sp_inj e).1, (sp_inj e).2]
    exact eb_rg (p := nrm 3 (nI 0)) rfl nrm_30
  replace e := ite_f c9 e
  by_cases c10 : a0 = nI 41
  · replace e := ite_t c10 e
    refine eb_n 1 (175, [.int a0, .int a1, .int a2], [], h) (by rw [c10]; rfl) ?_
    refine eb_n 1 (176, [.int a0, .int a1, .int a2], [.int (nI 0)], h) (rfl) ?_
    rw [(sp_inj e).1, (sp_inj e).2]
    exact eb_rg (p := nrm 3 (nI 0)) rfl nrm_30
  replace e := ite_f c10 e
  by_cases c11 : a0 = nI 42
  · replace e := ite_t c11 e
    refine eb_n 1 (175, [.int a0, .int a1, .int a2], [], h) (by rw [c11]; rfl) ?_
    refine eb_n 1 (176, [.int a0, .int a1, .int a2], [.int (nI 0)], h) (rfl) ?_
    rw [(sp_inj e).1, (sp_inj e).2]
    exact eb_rg (p := nrm 3 (nI 0)) rfl nrm_30
  replace e := ite_f c11 e
  by_cases c12 : a0 = nI 43
  · replace e := ite_t c12 e
    refine eb_n 1 (175, [.int a0, .int a1, .int a2], [], h) (by rw [c12]; rfl) ?_
    refine eb_n 1 (176, [.int a0, .int a1, .int a2], [.int (nI 0)], h) (rfl) ?_
    rw [(sp_inj e).1, (sp_inj e).2]
    exact eb_rg (p := nrm 3 (nI 0)) rfl nrm_30
  replace e := ite_f c12 e
  by_cases c13 : a0 = nI 44
  · replace e := ite_t c13 e
    refine eb_n 1 (175, [.int a0, .int a1, .int a2], [], h) (by rw [c13]; rfl) ?_
    refine eb_n 1 (176, [.int a0, .int a1, .int a2], [.int (nI 0)], h) (rfl) ?_
    rw [(sp_inj e).1, (sp_inj e).2]
    exact eb_rg (p := nrm 3 (nI 0)) rfl nrm_30
  replace e := ite_f c13 e
  by_cases c14 : a0 = nI 45
  · replace e := ite_t c14 e
    refine eb_n 1 (175, [.int a0, .int a1, .int a2], [], h) (by rw [c14]; rfl) ?_
    refine eb_n 1 (176, [.int a0, .int a1, .int a2], [.int (nI 0)], h) (rfl) ?_
    rw [(sp_inj e).1, (sp_inj e).2]
    exact eb_rg (p := nrm 3 (nI 0)) rfl nrm_30
  replace e := ite_f c14 e
  by_cases c15 : a0 = nI 46
  · replace e := ite_t c15 e
    refine eb_n 1 (175, [.int a0, .int a1, .int a2], [], h) (by rw [c15]; rfl) ?_
    refine eb_n 1 (176, [.int a0, .int a1, .int a2], [.int (nI 0)], h) (rfl) ?_
    rw [(sp_inj e).1, (sp_inj e).2]
    exact eb_rg (p := nrm 3 (nI 0)) rfl nrm_30
  replace e := ite_f c15 e
  by_cases c16 : a0 = nI 47
  · replace e := ite_t c16 e
    refine eb_n 1 (175, [.int a0, .int a1, .int a2], [], h) (by rw [c16]; rfl) ?_
    refine eb_n 1 (176, [.int a0, .int a1, .int a2], [.int (nI 0)], h) (rfl) ?_
    rw [(sp_inj e).1, (sp_inj e).2]
    exact eb_rg (p := nrm 3 (nI 0)) rfl nrm_30
  replace e := ite_f c16 e
  by_cases c17 : a0 = nI 48
  · replace e := ite_t c17 e
    refine eb_n 1 (175, [.int a0, .int a1, .int a2], [], h) (by rw [c17]; rfl) ?_
    refine eb_n 1 (176, [.int a0, .int a1, .int a2], [.int (nI 0)], h) (rfl) ?_
    rw [(sp_inj e).1, (sp_inj e).2]
    exact eb_rg (p := nrm 3 (nI 0)) rfl nrm_30
  replace e := ite_f c17 e
  by_cases c18 : a0 = nI 49
  · replace e := ite_t c18 e
    refine eb_n 1 (175, [.int a0, .int a1, .int a2], [], h) (by rw [c18]; rfl) ?_
    refine eb_n 1 (176, [.int a0, .int a1, .int a2], [.int (nI 0)], h) (rfl) ?_
    rw [(sp_inj e).1, (sp_inj e).2]
    exact eb_rg (p := nrm 3 (nI 0)) rfl nrm_30
  replace e := ite_f c18 e
  by_cases c19 : a0 = nI 50
  · replace e := ite_t c19 e
    refine eb_n 1 (92, [.int a0, .int a1, .int a2], [], h) (by rw [c19]; rfl) ?_
    refine eb_n 2 (94, [.int a0, .int a1, .int a2], [.int a2, .int a1], h) (rfl) ?_
    refine eb_b (c := a2 ≤ a1) (101, [.int a0, .int a1, .int a2], [], h) (97, [.int a0, .int a1, .int a2], [], h) rfl (fun c20 => ?_) (fun c20 => ?_)
    · replace e := ite_t c20 e
      refine eb_n 1 (102, [.int a0, .int a1, .int a2], [.int (nI 0)], h) (rfl) ?_
      rw [(sp_inj e).1, (sp_inj e).2]
      exact eb_rg (p := nrm 3 (nI 0)) rfl nrm_30
    · replace e := ite_f c20 e
      refine eb_n 2 (102, [.int a0, .int a1, .int a2], [.int (nI 1)], h) (rfl) ?_
      rw [(sp_inj e).1, (sp_inj e).2]
      exact eb_rg (p := nrm 3 (nI 1)) rfl nrm_31
  replace e := ite_f c19 e
  by_cases c21 : a0 = nI 51
  · replace e := ite_t c21 e
    refine eb_n 1 (103, [.int a0, .int a1, .int a2], [], h) (by rw [c21]; rfl) ?_
    refine eb_n 2 (105, [.int a0, .int a1, .int a2], [.int a2, .int a1], h) (rfl) ?_
    refine eb_b (c := a1 ≤ a2) (112, [.int a0, .int a1, .int a2], [], h) (108, [.int a0, .int a1, .int a2], [], h) rfl (fun c22 => ?_) (fun c22 => ?_)
    · replace e := ite_t c22 e
      refine eb_n 1 (113, [.int a0, .int a1, .int a2], [.int (nI 0)], h) (rfl) ?_
      rw [(sp_inj e).1, (sp_inj e).2]
      exact eb_rg (p := nrm 3 (nI 0)) rfl nrm_30
    · replace e := ite_f c22 e
      refine eb_n 2 (113, [.int a0, .int a1, .int a2], [.int (nI 1)], h) (rfl) ?_
      rw [(sp_inj e).1, (sp_inj e).2]
      exact eb_rg (p := nrm 3 (nI 1)) rfl nrm_31
  replace e := ite_f c21 e
  by_cases c23 : a0 = nI 52
  · replace e := ite_t c23 e
    refine eb_n 1 (114, [.int a0, .int a1, .int a2], [], h) (by rw [c23]; rfl) ?_
    refine eb_n 2 (116, [.int a0, .int a1, .int a2], [.int a2, .int a1], h) (rfl) ?_
    refine eb_b (c := ¬ a1 = a2) (123, [.int a0, .int a1, .int a2], [], h) (119, [.int a0, .int a1, .int a2], [], h) rfl (fun c24 => ?_) (fun c24 => ?_)
    · replace e := ite_t c24 e
      refine eb_n 1 (124, [.int a0, .int a1, .int a2], [.int (nI 0)], h) (rfl) ?_
      rw [(sp_inj e).1, (sp_inj e).2]
      exact eb_rg (p := nrm 3 (nI 0)) rfl nrm_30
    · replace e := ite_f c24 e
      refine eb_n 2 (124, [.int a0, .int a1, .int a2], [.int (nI 1)], h) (rfl) ?_
      rw [(sp_inj e).1, (sp_inj e).2]
      exact eb_rg (p := nrm 3 (nI 1)) rfl nrm_31
  replace e := ite_f c23 e
  by_cases c25 : a0 = nI 53
  · replace e := ite_t c25 e
    refine eb_n 1 (125, [.int a0, .int a1, .int a2], [], h) (by rw [c25]; rfl) ?_
    refine eb_n 2 (127, [.int a0, .int a1, .int a2], [.int a2, .int a1], h) (rfl) ?_
    refine eb_b (c := a2 < a1) (134, [.int a0, .int a1, .int a2], [], h) (130, [.int a0, .int a1, .int a2], [], h) rfl (fun c26 => ?_) (fun c26 => ?_)
    · replace e := ite_t c26 e
      refine eb_n 1 (135, [.int a0, .int a1, .int a2], [.int (nI 0)], h) (rfl) ?_
      rw [(sp_inj e).1, (sp_inj e).2]
      exact eb_rg (p := nrm 3 (nI 0)) rfl nrm_30
    · replace e := ite_f c26 e
      refine eb_n 2 (135, [.int a0, .int a1, .int a2], [.int (nI 1)], h) (rfl) ?_
      rw [(sp_inj e).1, (sp_inj e).2]
      exact eb_rg (p := nrm 3 (nI 1)) rfl nrm_31
  replace e := ite_f c25 e
  by_cases c27 : a0 = nI 54
  · replace e := ite_t c27 e
    refine eb_n 1 (136, [.int a0, .int a1, .int a2], [], h) (by rw [c27]; rfl) ?_
    refine eb_n 2 (138, [.int a0, .int a1, .int a2], [.int a2, .int a1], h) (rfl) ?_
    refine eb_b (c := a1 < a2) (145, [.int a0, .int a1, .int a2], [], h) (141, [.int a0, .int a1, .int a2], [], h) rfl (fun c28 => ?_) (fun c28 => ?_)
    · replace e := ite_t c28 e
      refine eb_n 1 (146, [.int a0, .int a1, .int a2], [.int (nI 0)], h) (rfl) ?_
      rw [(sp_inj e).1, (sp_inj e).2]
      exact eb_rg (p := nrm 3 (nI 0)) rfl nrm_30
    · replace e := ite_f c28 e
      refine eb_n 2 (146, [.int a0, .int a1, .int a2], [.int (nI 1)], h) (rfl) ?_
      rw [(sp_inj e).1, (sp_inj e).2]
      exact eb_rg (p := nrm 3 (nI 1)) rfl nrm_31
  replace e := ite_f c27 e
  refine eb_1 (f' := (175, [.int a0, .int a1, .int a2], [], h)) (tsw_d (tsw_out (x := a0) (lo := 36) (n := 19) (by decide) (by decide) (fun k hk => match k, hk with | 0, _ => c1 | 1, _ => c4 | 2, _ => c7 | 3, _ => c8 | 4, _ => c9 | 5, _ => c10 | 6, _ => c11 | 7, _ => c12 | 8, _ => c13 | 9, _ => c14 | 10, _ => c15 | 11, _ => c16 | 12, _ => c17 | 13, _ => c18 | 14, _ => c19 | 15, _ => c21 | 16, _ => c23 | 17, _ => c25 | 18, _ => c27 | k + 19, hk => absurd hk (by omega))) rfl rfl) ?_
  refine eb_n 1 (176, [.int a0, .int a1, .int a2], [.int (nI 0)], h) (rfl) ?_
  rw [(sp_inj e).1, (sp_inj e).2]
  exact eb_rg (p := nrm 3 (nI 0)) rfl nrm_30
set_option maxRecDepth 100000 in
set_option maxHeartbeats 4000000 in
theorem f_Orders_join_ev (d0 : Nat) (hd0 : 2 ≤ d0) {h' : AH} {r : Int32} {h : AH} {a0 : Int32} {a1 : Int32} {a2 : Int32} (e : f_Orders_join h a0 a1 a2 = some (h', r)) : Ev tb mL d0 205 [.int a0, .int a1, .int a2] h h' (some (.int r)) := by
  obtain ⟨d, rfl⟩ : ∃ d, d0 = d + 1 := ⟨d0 - 1, by omega⟩
  have hd : 1 ≤ d := by omega
  refine ⟨Nat.le_of_ble_eq_true rfl, ?_⟩
  show Eb (Ev tb mL d) 205 (0, [.int a0, .int a1, .int a2], [], h) h' (some (.int r))
  unfold f_Orders_join at e
  refine eb_n 1 (1, [.int a0, .int a1, .int a2], [.int a0], h) (rfl) ?_
  by_cases c1 : a0 = nI 38
  · replace e := ite_t c1 e
    refine eb_n 1 (88, [.int a0, .int a1, .int a2], [], h) (by rw [c1]; rfl) ?_
    refine eb_n 2 (90, [.int a0, .int a1, .int a2], [.int a2, .int a1], h) (rfl) ?_
    obtain ⟨h2, r3, eh2, e⟩ := bn_some e
    refine eb_c rfl (f_Math_min_ev d (Nat.le_trans (by decide) hd) eh2) ?_
    show Eb _ 205 (93, [.int a0, .int a1, .int a2], [.int r3], h2) _ _
    rw [(sp_inj e).1, (sp_inj e).2]
    exact eb_rg (p := nrm 0 r3) rfl (nrm_0 _)
  replace e := ite_f c1 e
  by_cases c4 : a0 = nI 39
  · replace e := ite_t c4 e
    refine eb_n 1 (94, [.int a0, .int a1, .int a2], [], h) (by rw [c4]; rfl) ?_
    refine eb_n 2 (96, [.int a0, .int a1, .int a2], [.int a2, .int a1], h) (rfl) ?_
    obtain ⟨h5, r6, eh5, e⟩ := bn_some e
    refine eb_c rfl (f_Math_max_ev d (Nat.le_trans (by decide) hd) eh5) ?_
    show Eb _ 205 (99, [.int a0, .int a1, .int a2], [.int r6], h5) _ _
    rw [(sp_inj e).1, (sp_inj e).2]
    exact eb_rg (p := nrm 0 r6) rfl (nrm_0 _)
  replace e := ite_f c4 e
  by_cases c7 : a0 = nI 40
  · replace e := ite_t c7 e
    refine eb_n 1 (100, [.int a0, .int a1, .int a2], [], h) (by rw [c7]; rfl) ?_
    refine eb_n 3 (103, [.int a0, .int a1, .int a2], [.int a2, .int a1, .int a0], h) (rfl) ?_
    obtain ⟨h8, r9, eh8, e⟩ := bn_some e
    refine eb_c rfl (f_Orders_holds_ev d (Nat.le_trans (by decide) hd) eh8) ?_
    show Eb _ 205 (106, [.int a0, .int a1, .int a2], [.int r9], h8) _ _
    refine eb_b (c := r9 = 0) (113, [.int a0, .int a1, .int a2], [], h8) (109, [.int a0, .int a1, .int a2], [], h8) rfl (fun c10 => ?_) (fun c10 => ?_)
    · replace e := ite_t c10 e
      refine eb_n 1 (114, [.int a0, .int a1, .int a2], [.int (nI 0)], h8) (rfl) ?_
      rw [(sp_inj e).1, (sp_inj e).2]
      exact eb_rg (p := nrm 0 (nI 0)) rfl (nrm_0 _)
    · replace e := ite_f c10 e
      refine eb_n 2 (114, [.int a0, .int a1, .int a2], [.int (nI 1)], h8) (rfl) ?_
      rw [(sp_inj e).1, (sp_inj e).2]
      exact eb_rg (p := nrm 0 (nI 1)) rfl (nrm_0 _)
  replace e := ite_f c7 e
  by_cases c11 : a0 = nI 41
  · replace e := ite_t c11 e
    refine eb_n 1 (100, [.int a0, .int a1, .int a2], [], h) (by rw [c11]; rfl) ?_
    refine eb_n 3 (103, [.int a0, .int a1, .int a2], [.int a2, .int a1, .int a0], h) (rfl) ?_
    obtain ⟨h12, r13, eh12, e⟩ := bn_some e
    refine eb_c rfl (f_Orders_holds_ev d (Nat.le_trans (by decide) hd) eh12) ?_
    show Eb _ 205 (106, [.int a0, .int a1, .int a2], [.int r13], h12) _ _
    refine eb_b (c := r13 = 0) (113, [.int a0, .int a1, .int a2], [], h12) (109, [.int a0, .int a1, .int a2], [], h12) rfl (fun c14 => ?_) (fun c14 => ?_)
    · replace e := ite_t c14 e
      refine eb_n 1 (114, [.int a0, .int a1, .int a2], [.int (nI 0)], h12) (rfl) ?_
      rw [(sp_inj e).1, (sp_inj e).2]
      exact eb_rg (p := nrm 0 (nI 0)) rfl (nrm_0 _)
    · replace e := ite_f c14 e
      refine eb_n 2 (114, [.int a0, .int a1, .int a2], [.int (nI 1)], h12) (rfl) ?_
      rw [(sp_inj e).1, (sp_inj e).2]
      exact eb_rg (p := nrm 0 (nI 1)) rfl (nrm_0 _)
  replace e := ite_f c11 e
  by_cases c15 : a0 = nI 42
  · replace e := ite_t c15 e
    refine eb_n 1 (100, [.int a0, .int a1, .int a2], [], h) (by rw [c15]; rfl) ?_
    refine eb_n 3 (103, [.int a0, .int a1, .int a2], [.int a2, .int a1, .int a0], h) (rfl) ?_
    obtain ⟨h16, r17, eh16, e⟩ := bn_some e
    refine eb_c rfl (f_Orders_holds_ev d (Nat.le_trans (by decide) hd) eh16) ?_
    show Eb _ 205 (106, [.int a0, .int a1, .int a2], [.int r17], h16) _ _
    refine eb_b (c := r17 = 0) (113, [.int a0, .int a1, .int a2], [], h16) (109, [.int a0, .int a1, .int a2], [], h16) rfl (fun c18 => ?_) (fun c18 => ?_)
    · replace e := ite_t c18 e
      refine eb_n 1 (114, [.int a0, .int a1, .int a2], [.int (nI 0)], h16) (rfl) ?_
      rw [(sp_inj e).1, (sp_inj e).2]
      exact eb_rg (p := nrm 0 (nI 0)) rfl (nrm_0 _)
    · replace e := ite_f c18 e
      refine eb_n 2 (114, [.int a0, .int a1, .int a2], [.int (nI 1)], h16) (rfl) ?_
      rw [(sp_inj e).1, (sp_inj e).2]
      exact eb_rg (p := nrm 0 (nI 1)) rfl (nrm_0 _)
  replace e := ite_f c15 e
  by_cases c19 : a0 = nI 43
  · replace e := ite_t c19 e
    refine eb_n 1 (100, [.int a0, .int a1, .int a2], [], h) (by rw [c19]; rfl) ?_
    refine eb_n 3 (103, [.int a0, .int a1, .int a2], [.int a2, .int a1, .int a0], h) (rfl) ?_
    obtain ⟨h20, r21, eh20, e⟩ := bn_some e
    refine eb_c rfl (f_Orders_holds_ev d (Nat.le_trans (by decide) hd) eh20) ?_
    show Eb _ 205 (106, [.int a0, .int a1, .int a2], [.int r21], h20) _ _
    refine eb_b (c := r21 = 0) (113, [.int a0, .int a1, .int a2], [], h20) (109, [.int a0, .int a1, .int a2], [], h20) rfl (fun c22 => ?_) (fun c22 => ?_)
    · replace e := ite_t c22 e
      refine eb_n 1 (114, [.int a0, .int a1, .int a2], [.int (nI 0)], h20) (rfl) ?_
      rw [(sp_inj e).1, (sp_inj e).2]
      exact eb_rg (p := nrm 0 (nI 0)) rfl (nrm_0 _)
    · replace e := ite_f c22 e
      refine eb_n 2 (114, [.int a0, .int a1, .int a2], [.int (nI 1)], h20) (rfl) ?_
      rw [(sp_inj e).1, (sp_inj e).2]
      exact eb_rg (p := nrm 0 (nI 1)) rfl (nrm_0 _)
  replace e := ite_f c19 e
  by_cases c23 : a0 = nI 44
  · replace e := ite_t c23 e
    refine eb_n 1 (100, [.int a0, .int a1, .int a2], [], h) (by rw [c23]; rfl) ?_
    refine eb_n 3 (103, [.int a0, .int a1, .int a2], [.int a2, .int a1, .int a0], h) (rfl) ?_
    obtain ⟨h24, r25, eh24, e⟩ := bn_some e
    refine eb_c rfl (f_Orders_holds_ev d (Nat.le_trans (by decide) hd) eh24) ?_
    show Eb _ 205 (106, [.int a0, .int a1, .int a2], [.int r25], h24) _ _
    refine eb_b (c := r25 = 0) (113, [.int a0, .int a1, .int a2], [], h24) (109, [.int a0, .int a1, .int a2], [], h24) rfl (fun c26 => ?_) (fun c26 => ?_)
    · replace e := ite_t c26 e
      refine eb_n 1 (114, [.int a0, .int a1, .int a2], [.int (nI 0)], h24) (rfl) ?_
      rw [(sp_inj e).1, (sp_inj e).2]
      exact eb_rg (p := nrm 0 (nI 0)) rfl (nrm_0 _)
    · replace e := ite_f c26 e
      refine eb_n 2 (114, [.int a0, .int a1, .int a2], [.int (nI 1)], h24) (rfl) ?_
      rw [(sp_inj e).1, (sp_inj e).2]
      exact eb_rg (p := nrm 0 (nI 1)) rfl (nrm_0 _)
  replace e := ite_f c23 e
  by_cases c27 : a0 = nI 45
  · replace e := ite_t c27 e
    refine eb_n 1 (100, [.int a0, .int a1, .int a2], [], h) (by rw [c27]; rfl) ?_
    refine eb_n 3 (103, [.int a0, .int a1, .int a2], [.int a2, .int a1, .int a0], h) (rfl) ?_
    obtain ⟨h28, r29, eh28, e⟩ := bn_some e
    refine eb_c rfl (f_Orders_holds_ev d (Nat.le_trans (by decide) hd) eh28) ?_
    show Eb _ 205 (106, [.int a0, .int a1, .int a2], [.int r29], h28) _ _
    refine eb_b (c := r29 = 0) (113, [.int a0, .int a1, .int a2], [], h28) (109, [.int a0, .int a1, .int a2], [], h28) rfl (fun c30 => ?_) (fun c30 => ?_)
    · replace e := ite_t c30 e
      refine eb_n 1 (114, [.int a0, .int a1, .int a2], [.int (nI 0)], h28) (rfl) ?_
      rw [(sp_inj e).1, (sp_inj e).2]
      exact eb_rg (p := nrm 0 (nI 0)) rfl (nrm_0 _)
    · replace e := ite_f c30 e
      refine eb_n 2 (114, [.int a0, .int a1, .int a2], [.int (nI 1)], h28) (rfl) ?_
      rw [(sp_inj e).1, (sp_inj e).2]
      exact eb_rg (p := nrm 0 (nI 1)) rfl (nrm_0 _)
  replace e := ite_f c27 e
  by_cases c31 : a0 = nI 46
  · replace e := ite_t c31 e
    refine eb_n 1 (64, [.int a0, .int a1, .int a2], [], h) (by rw [c31]; rfl) ?_
    refine eb_n 3 (67, [.int a0, .int a1, .int a2], [.int (a1 + a2)], h) (rfl) ?_
    rw [(sp_inj e).1, (sp_inj e).2]
    exact eb_rg (p := nrm 0 (a1 + a2)) rfl (nrm_0 _)
  replace e := ite_f c31 e
  by_cases c32 : a0 = nI 47
  · replace e := ite_t c32 e
    refine eb_n 1 (68, [.int a0, .int a1, .int a2], [], h) (by rw [c32]; rfl) ?_
    refine eb_n 3 (71, [.int a0, .int a1, .int a2], [.int (a1 - a2)], h) (rfl) ?_
    rw [(sp_inj e).1, (sp_inj e).2]
    exact eb_rg (p := nrm 0 (a1 - a2)) rfl (nrm_0 _)
  replace e := ite_f c32 e
  by_cases c33 : a0 = nI 48
  · replace e := ite_t c33 e
    refine eb_n 1 (72, [.int a0, .int a1, .int a2], [], h) (by rw [c33]; rfl) ?_
    refine eb_n 3 (75, [.int a0, .int a1, .int a2], [.int (a1 * a2)], h) (rfl) ?_
    rw [(sp_inj e).1, (sp_inj e).2]
    exact eb_rg (p := nrm 0 (a1 * a2)) rfl (nrm_0 _)
  replace e := ite_f c33 e
  by_cases c34 : a0 = nI 49
  · replace e := ite_t c34 e
    refine eb_n 1 (76, [.int a0, .int a1, .int a2], [], h) (by rw [c34]; rfl) ?_
    refine eb_n 1 (77, [.int a0, .int a1, .int a2], [.int a2], h) (rfl) ?_
    refine eb_b (c := ¬ a2 = 0) (84, [.int a0, .int a1, .int a2], [], h) (80, [.int a0, .int a1, .int a2], [], h) rfl (fun c35 => ?_) (fun c35 => ?_)
    · replace e := ite_t c35 e
      refine eb_n 2 (86, [.int a0, .int a1, .int a2], [.int a2, .int a1], h) (rfl) ?_
      obtain ⟨g36, e⟩ := gd_some e
      refine eb_g (p := ¬ a2 = 0) (87, [.int a0, .int a1, .int a2], [.int (a1 / a2)], h) rfl g36 ?_
      rw [(sp_inj e).1, (sp_inj e).2]
      exact eb_rg (p := nrm 0 (a1 / a2)) rfl (nrm_0 _)
    · replace e := ite_f c35 e
      refine eb_n 2 (87, [.int a0, .int a1, .int a2], [.int (nI 0)], h) (rfl) ?_
      rw [(sp_inj e).1, (sp_inj e).2]
      exact eb_rg (p := nrm 0 (nI 0)) rfl (nrm_0 _)
  replace e := ite_f c34 e
  refine eb_1 (f' := (100, [.int a0, .int a1, .int a2], [], h)) (tsw_d (tsw_out (x := a0) (lo := 38) (n := 12) (by decide) (by decide) (fun k hk => match k, hk with | 0, _ => c1 | 1, _ => c4 | 2, _ => c7 | 3, _ => c11 | 4, _ => c15 | 5, _ => c19 | 6, _ => c23 | 7, _ => c27 | 8, _ => c31 | 9, _ => c32 | 10, _ => c33 | 11, _ => c34 | k + 12, hk => absurd hk (by omega))) rfl rfl) ?_
  refine eb_n 3 (103, [.int a0, .int a1, .int a2], [.int a2, .int a1, .int a0], h) (rfl) ?_
  obtain ⟨h37, r38, eh37, e⟩ := bn_some e
  refine eb_c rfl (f_Orders_holds_ev d (Nat.le_trans (by decide) hd) eh37) ?_
  show Eb _ 205 (106, [.int a0, .int a1, .int a2], [.int r38], h37) _ _
  refine eb_b (c := r38 = 0) (113, [.int a0, .int a1, .int a2], [], h37) (109, [.int a0, .int a1, .int a2], [], h37) rfl (fun c39 => ?_) (fun c39 => ?_)
  · replace e := ite_t c39 e
    refine eb_n 1 (114, [.int a0, .int a1, .int a2], [.int (nI 0)], h37) (rfl) ?_
    rw [(sp_inj e).1, (sp_inj e).2]
    exact eb_rg (p := nrm 0 (nI 0)) rfl (nrm_0 _)
  · replace e := ite_f c39 e
    refine eb_n 2 (114, [.int a0, .int a1, .int a2], [.int (nI 1)], h37) (rfl) ?_
    rw [(sp_inj e).1, (sp_inj e).2]
    exact eb_rg (p := nrm 0 (nI 1)) rfl (nrm_0 _)
set_option maxRecDepth 100000 in
set_option maxHeartbeats 4000000 in
theorem f_Math_floorMod_ev (d0 : Nat) (hd0 : 1 ≤ d0) {h' : AH} {r : Int32} {h : AH} {a0 : Int32} {a1 : Int32} (e : f_Math_floorMod h a0 a1 = some (h', r)) : Ev tb mL d0 109 [.int a0, .int a1] h h' (some (.int r)) := by
  obtain ⟨d, rfl⟩ : ∃ d, d0 = d + 1 := ⟨d0 - 1, by omega⟩
  have hd : 0 ≤ d := by omega
  refine ⟨Nat.le_of_ble_eq_true rfl, ?_⟩
  show Eb (Ev tb mL d) 109 (0, [.int a0, .int a1, .retAddr 0], [], h) h' (some (.int r))
  unfold f_Math_floorMod at e
  refine eb_n 2 (2, [.int a0, .int a1, .retAddr 0], [.int a1, .int a0], h) (rfl) ?_
  obtain ⟨g1, e⟩ := gd_some e
  refine eb_g (p := ¬ a1 = 0) (3, [.int a0, .int a1, .retAddr 0], [.int (a0 - a0 / a1 * a1)], h) rfl g1 ?_
  obtain ⟨x2, hx2, e⟩ := lq_some e
  refine eb_n 1 (4, [.int a0, .int a1, .int x2], [], h) (by subst hx2; rfl) ?_
  refine eb_n 3 (7, [.int a0, .int a1, .int x2], [.int (a0 ^^^ a1)], h) (rfl) ?_
  refine eb_b (c := 0 ≤ (a0 ^^^ a1)) (18, [.int a0, .int a1, .int x2], [], h) (10, [.int a0, .int a1, .int x2], [], h) rfl (fun c3 => ?_) (fun c3 => ?_)
  · replace e := ite_t c3 e
    refine eb_n 1 (19, [.int a0, .int a1, .int x2], [.int x2], h) (rfl) ?_
    rw [(sp_inj e).1, (sp_inj e).2]
    exact eb_rg (p := nrm 0 x2) rfl (nrm_0 _)
  · replace e := ite_f c3 e
    refine eb_n 1 (11, [.int a0, .int a1, .int x2], [.int x2], h) (rfl) ?_
    refine eb_b (c := x2 = 0) (18, [.int a0, .int a1, .int x2], [], h) (14, [.int a0, .int a1, .int x2], [], h) rfl (fun c4 => ?_) (fun c4 => ?_)
    · replace e := ite_t c4 e
      refine eb_n 1 (19, [.int a0, .int a1, .int x2], [.int x2], h) (rfl) ?_
      rw [(sp_inj e).1, (sp_inj e).2]
      exact eb_rg (p := nrm 0 x2) rfl (nrm_0 _)
    · replace e := ite_f c4 e
      refine eb_n 3 (17, [.int a0, .int a1, .int x2], [.int (x2 + a1)], h) (rfl) ?_
      rw [(sp_inj e).1, (sp_inj e).2]
      exact eb_rg (p := nrm 0 (x2 + a1)) rfl (nrm_0 _)
set_option maxRecDepth 100000 in
set_option maxHeartbeats 4000000 in
theorem f_River_hourOfDay_ev (d0 : Nat) (hd0 : 2 ≤ d0) {h' : AH} {r : Int32} {h : AH} {a0 : Nat} (e : f_River_hourOfDay h a0 = some (h', r)) : Ev tb mL d0 144 [.ref a0] h h' (some (.int r)) := by
  obtain ⟨d, rfl⟩ : ∃ d, d0 = d + 1 := ⟨d0 - 1, by omega⟩
  have hd : 1 ≤ d := by omega
  refine ⟨Nat.le_of_ble_eq_true rfl, ?_⟩
  show Eb (Ev tb mL d) 144 (0, [.ref a0], [], h) h' (some (.int r))
  unfold f_River_hourOfDay at e
  refine eb_n 1 (1, [.ref a0], [.ref a0], h) (rfl) ?_
  obtain ⟨g1, e⟩ := gd_some e
  refine eb_g (p := hT h a0 = 3) (4, [.ref a0], [.int (hI h a0 11)], h) rfl g1 ?_
  refine eb_n 1 (6, [.ref a0], [.int (nI 12), .int (hI h a0 11)], h) (rfl) ?_
  obtain ⟨h2, r3, eh2, e⟩ := bn_some e
  refine eb_c rfl (f_Math_floorMod_ev d (Nat.le_trans (by decide) hd) eh2) ?_
  show Eb _ 144 (9, [.ref a0], [.int r3], h2) _ _
  rw [(sp_inj e).1, (sp_inj e).2]
  exact eb_rg (p := nrm 0 r3) rfl (nrm_0 _)
set_option maxRecDepth 100000 in
set_option maxHeartbeats 4000000 in
theorem f_River_peelersOfGarden_b37_ev {h' : AH} {r : Int32} (d : Nat) (hd : 0 ≤ d) (k4 : AH → Nat → Int32 → Int32 → Int32 → Option (AH × Int32)) (hk4 : ∀ (h : AH) (a0 : Nat) (a1 : Int32) (a2 : Int32) (a3 : Int32)  , k4 h a0 a1 a2 a3 = some (h', r) → Eb (Ev tb mL d) 104 (4, [.ref a0, .int a1, .int a2, .int a3], [], h) h' (some (.int r)))  (h : AH) (a0 : Nat) (a1 : Int32) (a3 : Int32) (s0 : Int32) (s1 : Int32) (d2 : Value) (e : f_River_peelersOfGarden_b37 k4 h a0 a1 a3 s0 s1 = some (h', r)) : Eb (Ev tb mL d) 104 (37, [.ref a0, .int a1, d2, .int a3], [.int s1, .int s0], h) h' (some (.int r)) := by
  unfold f_River_peelersOfGarden_b37 at e
  obtain ⟨x1, hx1, e⟩ := lq_some e
  refine eb_n 2 (39, [.ref a0, .int a1, .int x1, .int a3], [], h) (by subst hx1; rfl) ?_
  obtain ⟨x2, hx2, e⟩ := lq_some e
  refine eb_n 1 (42, [.ref a0, .int a1, .int x1, .int x2], [], h) (by subst hx2; rfl) ?_
  refine eb_n 1 (4, [.ref a0, .int a1, .int x1, .int x2], [], h) (rfl) ?_
  exact hk4 _ _ _ _ _  e
set_option maxRecDepth 100000 in
set_option maxHeartbeats 4000000 in
theorem f_River_peelersOfGarden_b4_ev {h' : AH} {r : Int32} (d : Nat) (hd : 0 ≤ d) (k4 : AH → Nat → Int32 → Int32 → Int32 → Option (AH × Int32)) (hk4 : ∀ (h : AH) (a0 : Nat) (a1 : Int32) (a2 : Int32) (a3 : Int32)  , k4 h a0 a1 a2 a3 = some (h', r) → Eb (Ev tb mL d) 104 (4, [.ref a0, .int a1, .int a2, .int a3], [], h) h' (some (.int r)))  (h : AH) (a0 : Nat) (a1 : Int32) (a2 : Int32) (a3 : Int32)   (e : f_River_peelersOfGarden_b4 k4 h a0 a1 a2 a3 = some (h', r)) : Eb (Ev tb mL d) 104 (4, [.ref a0, .int a1, .int a2, .int a3], [], h) h' (some (.int r)) := by
  unfold f_River_peelersOfGarden_b4 at e
  refine eb_n 2 (6, [.ref a0, .int a1, .int a2, .int a3], [.ref a0, .int a3], h) (rfl) ?_
  obtain ⟨g1, e⟩ := gd_some e
  refine eb_g (p := hT h a0 = 3) (9, [.ref a0, .int a1, .int a2, .int a3], [.int (hI h a0 8), .int a3], h) rfl g1 ?_
  refine eb_b (c := (hI h a0 8) ≤ a3) (45, [.ref a0, .int a1, .int a2, .int a3], [], h) (12, [.ref a0, .int a1, .int a2, .int a3], [], h) rfl (fun c2 => ?_) (fun c2 => ?_)
  · replace e := ite_t c2 e
    refine eb_n 1 (46, [.ref a0, .int a1, .int a2, .int a3], [.int a2], h) (rfl) ?_
    rw [(sp_inj e).1, (sp_inj e).2]
    exact eb_rg (p := nrm 0 a2) rfl (nrm_0 _)
  · replace e := ite_f c2 e
    refine eb_n 2 (15, [.ref a0, .int a1, .int a2, .int a3], [.int (nI 8), .int a3], h) (rfl) ?_
    refine eb_b (c := (nI 8) ≤ a3) (45, [.ref a0, .int a1, .int a2, .int a3], [], h) (18, [.ref a0, .int a1, .int a2, .int a3], [], h) rfl (fun c3 => ?_) (fun c3 => ?_)
    · replace e := ite_t c3 e
      refine eb_n 1 (46, [.ref a0, .int a1, .int a2, .int a3], [.int a2], h) (rfl) ?_
      rw [(sp_inj e).1, (sp_inj e).2]
      exact eb_rg (p := nrm 0 a2) rfl (nrm_0 _)
    · replace e := ite_f c3 e
      refine eb_n 2 (20, [.ref a0, .int a1, .int a2, .int a3], [.ref a0, .int a2], h) (rfl) ?_
      refine eb_g (p := hT h a0 = 3) (23, [.ref a0, .int a1, .int a2, .int a3], [.ref (hR h a0 2), .int a2], h) rfl g1 ?_
      refine eb_n 1 (24, [.ref a0, .int a1, .int a2, .int a3], [.int a3, .ref (hR h a0 2), .int a2], h) (rfl) ?_
      obtain ⟨g4, e⟩ := gd_some e
      refine eb_g (p := hT h (hR h a0 2) = 106 ∧ inb a3 (hL h (hR h a0 2))) (25, [.ref a0, .int a1, .int a2, .int a3], [.ref (hR h (hR h a0 2) (ix a3)), .int a2], h) rfl g4 ?_
      obtain ⟨g5, e⟩ := gd_some e
      refine eb_g (p := hT h (hR h (hR h a0 2) (ix a3)) = 6) (28, [.ref a0, .int a1, .int a2, .int a3], [.int (hI h (hR h (hR h a0 2) (ix a3)) 0), .int a2], h) rfl g5 ?_
      refine eb_n 1 (29, [.ref a0, .int a1, .int a2, .int a3], [.int a1, .int (hI h (hR h (hR h a0 2) (ix a3)) 0), .int a2], h) (rfl) ?_
      refine eb_b (c := ¬ (hI h (hR h (hR h a0 2) (ix a3)) 0) = a1) (36, [.ref a0, .int a1, .int a2, .int a3], [.int a2], h) (32, [.ref a0, .int a1, .int a2, .int a3], [.int a2], h) rfl (fun c6 => ?_) (fun c6 => ?_)
      · replace e := ite_t c6 e
        refine eb_n 1 (37, [.ref a0, .int a1, .int a2, .int a3], [.int (nI 0), .int a2], h) (rfl) ?_
        exact f_River_peelersOfGarden_b37_ev d hd k4 hk4 _ _ _ _ _ _ _ e
      · replace e := ite_f c6 e
        refine eb_n 2 (37, [.ref a0, .int a1, .int a2, .int a3], [.int (nI 1), .int a2], h) (rfl) ?_
        exact f_River_peelersOfGarden_b37_ev d hd k4 hk4 _ _ _ _ _ _ _ e
set_option maxRecDepth 100000 in
set_option maxHeartbeats 4000000 in
theorem f_River_peelersOfGarden_l4_ev {h' : AH} {r : Int32} (d : Nat) (hd : 0 ≤ d)  : ∀ (n : Nat) (h : AH) (a0 : Nat) (a1 : Int32) (a2 : Int32) (a3 : Int32)   (_ : f_River_peelersOfGarden_l4  n h a0 a1 a2 a3 = some (h', r)), Eb (Ev tb mL d) 104 (4, [.ref a0, .int a1, .int a2, .int a3], [], h) h' (some (.int r)) := by
  intro n
  induction n with
  | zero => intro h a0 a1 a2 a3  e; exact nomatch e
  | succ n ih =>
    intro h a0 a1 a2 a3  e
    exact f_River_peelersOfGarden_b4_ev d hd _ (fun h a0 a1 a2 a3  e => ih h a0 a1 a2 a3  e) h a0 a1 a2 a3  e
set_option maxRecDepth 100000 in
set_option maxHeartbeats 4000000 in
theorem f_River_peelersOfGarden_ev (d0 : Nat) (hd0 : 1 ≤ d0) {h' : AH} {r : Int32} {h : AH} {a0 : Nat} {a1 : Int32} (e : f_River_peelersOfGarden h a0 a1 = some (h', r)) : Ev tb mL d0 104 [.ref a0, .int a1] h h' (some (.int r)) := by
  obtain ⟨d, rfl⟩ : ∃ d, d0 = d + 1 := ⟨d0 - 1, by omega⟩
  have hd : 0 ≤ d := by omega
  refine ⟨Nat.le_of_ble_eq_true rfl, ?_⟩
  show Eb (Ev tb mL d) 104 (0, [.ref a0, .int a1, .retAddr 0, .retAddr 0], [], h) h' (some (.int r))
  unfold f_River_peelersOfGarden at e
  refine eb_n 4 (4, [.ref a0, .int a1, .int (nI 0), .int (nI 0)], [], h) (rfl) ?_
  exact f_River_peelersOfGarden_l4_ev d hd   FU _ _ _ _ _  e
set_option maxRecDepth 100000 in
set_option maxHeartbeats 4000000 in
theorem f_River_ofGarden_ev (d0 : Nat) (hd0 : 2 ≤ d0) {h' : AH} {r : Int32} {h : AH} {a0 : Nat} {a1 : Int32} {a2 : Int32} (e : f_River_ofGarden h a0 a1 a2 = some (h', r)) : Ev tb mL d0 52 [.ref a0, .int a1, .int a2] h h' (some (.int r)) := by
  obtain ⟨d, rfl⟩ : ∃ d, d0 = d + 1 := ⟨d0 - 1, by omega⟩
  have hd : 1 ≤ d := by omega
  refine ⟨Nat.le_of_ble_eq_true rfl, ?_⟩
  show Eb (Ev tb mL d) 52 (0, [.ref a0, .int a1, .int a2], [], h) h' (some (.int r))
  unfold f_River_ofGarden at e
  refine eb_n 2 (2, [.ref a0, .int a1, .int a2], [.int a1, .ref a0], h) (rfl) ?_
  obtain ⟨g1, e⟩ := gd_some e
  obtain ⟨h2, r3, eh2, e⟩ := bn_some e
  refine eb_cg (p := hT h a0 = 3) rfl g1 (f_River_hasGarden_ev d (Nat.le_trans (by decide) hd) eh2) ?_
  show Eb _ 52 (5, [.ref a0, .int a1, .int a2], [.int r3], h2) _ _
  refine eb_b (c := ¬ r3 = 0) (10, [.ref a0, .int a1, .int a2], [], h2) (8, [.ref a0, .int a1, .int a2], [], h2) rfl (fun c4 => ?_) (fun c4 => ?_)
  · replace e := ite_t c4 e
    refine eb_n 1 (11, [.ref a0, .int a1, .int a2], [.int a2], h2) (rfl) ?_
    by_cases c5 : a2 = nI 0
    · replace e := ite_t c5 e
      refine eb_n 1 (36, [.ref a0, .int a1, .int a2], [], h2) (by rw [c5]; rfl) ?_
      refine eb_n 1 (37, [.ref a0, .int a1, .int a2], [.ref a0], h2) (rfl) ?_
      obtain ⟨g6, e⟩ := gd_some e
      refine eb_g (p := hT h2 a0 = 3) (40, [.ref a0, .int a1, .int a2], [.ref (hR h2 a0 0)], h2) rfl g6 ?_
      refine eb_n 1 (41, [.ref a0, .int a1, .int a2], [.int a1, .ref (hR h2 a0 0)], h2) (rfl) ?_
      obtain ⟨g7, e⟩ := gd_some e
      refine eb_g (p := hT h2 (hR h2 a0 0) = 104 ∧ inb a1 (hL h2 (hR h2 a0 0))) (42, [.ref a0, .int a1, .int a2], [.ref (hR h2 (hR h2 a0 0) (ix a1))], h2) rfl g7 ?_
      obtain ⟨g8, e⟩ := gd_some e
      refine eb_g (p := hT h2 (hR h2 (hR h2 a0 0) (ix a1)) = 4) (45, [.ref a0, .int a1, .int a2], [.int (hI h2 (hR h2 (hR h2 a0 0) (ix a1)) 0)], h2) rfl g8 ?_
      rw [(sp_inj e).1, (sp_inj e).2]
      exact eb_rg (p := nrm 0 (hI h2 (hR h2 (hR h2 a0 0) (ix a1)) 0)) rfl (nrm_0 _)
    replace e := ite_f c5 e
    by_cases c9 : a2 = nI 1
    · replace e := ite_t c9 e
      refine eb_n 1 (46, [.ref a0, .int a1, .int a2], [], h2) (by rw [c9]; rfl) ?_
      refine eb_n 1 (47, [.ref a0, .int a1, .int a2], [.ref a0], h2) (rfl) ?_
      obtain ⟨g10, e⟩ := gd_some e
      refine eb_g (p := hT h2 a0 = 3) (50, [.ref a0, .int a1, .int a2], [.ref (hR h2 a0 0)], h2) rfl g10 ?_
      refine eb_n 1 (51, [.ref a0, .int a1, .int a2], [.int a1, .ref (hR h2 a0 0)], h2) (rfl) ?_
      obtain ⟨g11, e⟩ := gd_some e
      refine eb_g (p := hT h2 (hR h2 a0 0) = 104 ∧ inb a1 (hL h2 (hR h2 a0 0))) (52, [.ref a0, .int a1, .int a2], [.ref (hR h2 (hR h2 a0 0) (ix a1))], h2) rfl g11 ?_
      obtain ⟨g12, e⟩ := gd_some e
      refine eb_g (p := hT h2 (hR h2 (hR h2 a0 0) (ix a1)) = 4) (55, [.ref a0, .int a1, .int a2], [.int (hI h2 (hR h2 (hR h2 a0 0) (ix a1)) 1)], h2) rfl g12 ?_
      rw [(sp_inj e).1, (sp_inj e).2]
      exact eb_rg (p := nrm 0 (hI h2 (hR h2 (hR h2 a0 0) (ix a1)) 1)) rfl (nrm_0 _)
    replace e := ite_f c9 e
    by_cases c13 : a2 = nI 2
    · replace e := ite_t c13 e
      refine eb_n 1 (56, [.ref a0, .int a1, .int a2], [], h2) (by rw [c13]; rfl) ?_
      refine eb_n 1 (57, [.ref a0, .int a1, .int a2], [.ref a0], h2) (rfl) ?_
      obtain ⟨g14, e⟩ := gd_some e
      refine eb_g (p := hT h2 a0 = 3) (60, [.ref a0, .int a1, .int a2], [.ref (hR h2 a0 0)], h2) rfl g14 ?_
      refine eb_n 1 (61, [.ref a0, .int a1, .int a2], [.int a1, .ref (hR h2 a0 0)], h2) (rfl) ?_
      obtain ⟨g15, e⟩ := gd_some e
      refine eb_g (p := hT h2 (hR h2 a0 0) = 104 ∧ inb a1 (hL h2 (hR h2 a0 0))) (62, [.ref a0, .int a1, .int a2], [.ref (hR h2 (hR h2 a0 0) (ix a1))], h2) rfl g15 ?_
      obtain ⟨g16, e⟩ := gd_some e
      refine eb_g (p := hT h2 (hR h2 (hR h2 a0 0) (ix a1)) = 4) (65, [.ref a0, .int a1, .int a2], [.int (hI h2 (hR h2 (hR h2 a0 0) (ix a1)) 2)], h2) rfl g16 ?_
      rw [(sp_inj e).1, (sp_inj e).2]
      exact eb_rg (p := nrm 0 (hI h2 (hR h2 (hR h2 a0 0) (ix a1)) 2)) rfl (nrm_0 _)
    replace e := ite_f c13 e
    refine eb_1 (f' := (66, [.ref a0, .int a1, .int a2], [], h2)) (tsw_d (tsw_out (x := a2) (lo := 0) (n := 3) (by decide) (by decide) (fun k hk => match k, hk with | 0, _ => c5 | 1, _ => c9 | 2, _ => c13 | k + 3, hk => absurd hk (by omega))) rfl rfl) ?_
    refine eb_n 2 (68, [.ref a0, .int a1, .int a2], [.int a1, .ref a0], h2) (rfl) ?_
    obtain ⟨g17, e⟩ := gd_some e
    obtain ⟨h18, r19, eh18, e⟩ := bn_some e
    refine eb_cg (p := hT h2 a0 = 3) rfl g17 (f_River_peelersOfGarden_ev d (Nat.le_trans (by decide) hd) eh18) ?_
    show Eb _ 52 (71, [.ref a0, .int a1, .int a2], [.int r19], h18) _ _
    rw [(sp_inj e).1, (sp_inj e).2]
    exact eb_rg (p := nrm 0 r19) rfl (nrm_0 _)
  · replace e := ite_f c4 e
    refine eb_n 1 (9, [.ref a0, .int a1, .int a2], [.int (nI 0)], h2) (rfl) ?_
    rw [(sp_inj e).1, (sp_inj e).2]
    exact eb_rg (p := nrm 0 (nI 0)) rfl (nrm_0 _)
set_option maxRecDepth 100000 in
set_option maxHeartbeats 4000000 in
theorem f_Rack_free_ev (d0 : Nat) (hd0 : 1 ≤ d0) {h' : AH} {r : Int32} {h : AH} {a0 : Nat} (e : f_Rack_free h a0 = some (h', r)) : Ev tb mL d0 105 [.ref a0] h h' (some (.int r)) := by
  obtain ⟨d, rfl⟩ : ∃ d, d0 = d + 1 := ⟨d0 - 1, by omega⟩
  have hd : 0 ≤ d := by omega
  refine ⟨Nat.le_of_ble_eq_true rfl, ?_⟩
  show Eb (Ev tb mL d) 105 (0, [.ref a0], [], h) h' (some (.int r))
  unfold f_Rack_free at e
  refine eb_n 1 (1, [.ref a0], [.ref a0], h) (rfl) ?_
  obtain ⟨g1, e⟩ := gd_some e
  refine eb_g (p := hT h a0 = 5) (4, [.ref a0], [.int (hI h a0 0)], h) rfl g1 ?_
  refine eb_n 1 (5, [.ref a0], [.ref a0, .int (hI h a0 0)], h) (rfl) ?_
  refine eb_g (p := hT h a0 = 5) (8, [.ref a0], [.int (hI h a0 1), .int (hI h a0 0)], h) rfl g1 ?_
  refine eb_n 1 (9, [.ref a0], [.int ((hI h a0 0) - (hI h a0 1))], h) (rfl) ?_
  rw [(sp_inj e).1, (sp_inj e).2]
  exact eb_rg (p := nrm 0 ((hI h a0 0) - (hI h a0 1))) rfl (nrm_0 _)
set_option maxRecDepth 100000 in
set_option maxHeartbeats 4000000 in
theorem f_Rack_bundles_ev (d0 : Nat) (hd0 : 1 ≤ d0) {h' : AH} {r : Int32} {h : AH} {a0 : Nat} (e : f_Rack_bundles h a0 = some (h', r)) : Ev tb mL d0 106 [.ref a0] h h' (some (.int r)) := by
  obtain ⟨d, rfl⟩ : ∃ d, d0 = d + 1 := ⟨d0 - 1, by omega⟩
  have hd : 0 ≤ d := by omega
  refine ⟨Nat.le_of_ble_eq_true rfl, ?_⟩
  show Eb (Ev tb mL d) 106 (0, [.ref a0], [], h) h' (some (.int r))
  unfold f_Rack_bundles at e
  refine eb_n 1 (1, [.ref a0], [.ref a0], h) (rfl) ?_
  obtain ⟨g1, e⟩ := gd_some e
  refine eb_g (p := hT h a0 = 5) (4, [.ref a0], [.int (hI h a0 2)], h) rfl g1 ?_
  rw [(sp_inj e).1, (sp_inj e).2]
  exact eb_rg (p := nrm 0 (hI h a0 2)) rfl (nrm_0 _)
set_option maxRecDepth 100000 in
set_option maxHeartbeats 4000000 in
theorem f_River_peelersToRack_b37_ev {h' : AH} {r : Int32} (d : Nat) (hd : 0 ≤ d) (k4 : AH → Nat → Int32 → Int32 → Int32 → Option (AH × Int32)) (hk4 : ∀ (h : AH) (a0 : Nat) (a1 : Int32) (a2 : Int32) (a3 : Int32)  , k4 h a0 a1 a2 a3 = some (h', r) → Eb (Ev tb mL d) 107 (4, [.ref a0, .int a1, .int a2, .int a3], [], h) h' (some (.int r)))  (h : AH) (a0 : Nat) (a1 : Int32) (a3 : Int32) (s0 : Int32) (s1 : Int32) (d2 : Value) (e : f_River_peelersToRack_b37 k4 h a0 a1 a3 s0 s1 = some (h', r)) : Eb (Ev tb mL d) 107 (37, [.ref a0, .int a1, d2, .int a3], [.int s1, .int s0], h) h' (some (.int r)) := by
  unfold f_River_peelersToRack_b37 at e
  obtain ⟨x1, hx1, e⟩ := lq_some e
  refine eb_n 2 (39, [.ref a0, .int a1, .int x1, .int a3], [], h) (by subst hx1; rfl) ?_
  obtain ⟨x2, hx2, e⟩ := lq_some e
  refine eb_n 1 (42, [.ref a0, .int a1, .int x1, .int x2], [], h) (by subst hx2; rfl) ?_
  refine eb_n 1 (4, [.ref a0, .int a1, .int x1, .int x2], [], h) (rfl) ?_
  exact hk4 _ _ _ _ _  e
set_option maxRecDepth 100000 in
set_option maxHeartbeats 4000000 in
theorem f_River_peelersToRack_b4_ev {h' : AH} {r : Int32} (d : Nat) (hd : 0 ≤ d) (k4 : AH → Nat → Int32 → Int32 → Int32 → Option (AH × Int32)) (hk4 : ∀ (h : AH) (a0 : Nat) (a1 : Int32) (a2 : Int32) (a3 : Int32)  , k4 h a0 a1 a2 a3 = some (h', r) → Eb (Ev tb mL d) 107 (4, [.ref a0, .int a1, .int a2, .int a3], [], h) h' (some (.int r)))  (h : AH) (a0 : Nat) (a1 : Int32) (a2 : Int32) (a3 : Int32)   (e : f_River_peelersToRack_b4 k4 h a0 a1 a2 a3 = some (h', r)) : Eb (Ev tb mL d) 107 (4, [.ref a0, .int a1, .int a2, .int a3], [], h) h' (some (.int r)) := by
  unfold f_River_peelersToRack_b4 at e
  refine eb_n 2 (6, [.ref a0, .int a1, .int a2, .int a3], [.ref a0, .int a3], h) (rfl) ?_
  obtain ⟨g1, e⟩ := gd_some e
  refine eb_g (p := hT h a0 = 3) (9, [.ref a0, .int a1, .int a2, .int a3], [.int (hI h a0 8), .int a3], h) rfl g1 ?_
  refine eb_b (c := (hI h a0 8) ≤ a3) (45, [.ref a0, .int a1, .int a2, .int a3], [], h) (12, [.ref a0, .int a1, .int a2, .int a3], [], h) rfl (fun c2 => ?_) (fun c2 => ?_)
  · replace e := ite_t c2 e
    refine eb_n 1 (46, [.ref a0, .int a1, .int a2, .int a3], [.int a2], h) (rfl) ?_
    rw [(sp_inj e).1, (sp_inj e).2]
    exact eb_rg (p := nrm 0 a2) rfl (nrm_0 _)
  · replace e := ite_f c2 e
    refine eb_n 2 (15, [.ref a0, .int a1, .int a2, .int a3], [.int (nI 8), .int a3], h) (rfl) ?_
    refine eb_b (c := (nI 8) ≤ a3) (45, [.ref a0, .int a1, .int a2, .int a3], [], h) (18, [.ref a0, .int a1, .int a2, .int a3], [], h) rfl (fun c3 => ?_) (fun c3 => ?_)
    · replace e := ite_t c3 e
      refine eb_n 1 (46, [.ref a0, .int a1, .int a2, .int a3], [.int a2], h) (rfl) ?_
      rw [(sp_inj e).1, (sp_inj e).2]
      exact eb_rg (p := nrm 0 a2) rfl (nrm_0 _)
    · replace e := ite_f c3 e
      refine eb_n 2 (20, [.ref a0, .int a1, .int a2, .int a3], [.ref a0, .int a2], h) (rfl) ?_
      refine eb_g (p := hT h a0 = 3) (23, [.ref a0, .int a1, .int a2, .int a3], [.ref (hR h a0 2), .int a2], h) rfl g1 ?_
      refine eb_n 1 (24, [.ref a0, .int a1, .int a2, .int a3], [.int a3, .ref (hR h a0 2), .int a2], h) (rfl) ?_
      obtain ⟨g4, e⟩ := gd_some e
      refine eb_g (p := hT h (hR h a0 2) = 106 ∧ inb a3 (hL h (hR h a0 2))) (25, [.ref a0, .int a1, .int a2, .int a3], [.ref (hR h (hR h a0 2) (ix a3)), .int a2], h) rfl g4 ?_
      obtain ⟨g5, e⟩ := gd_some e
      refine eb_g (p := hT h (hR h (hR h a0 2) (ix a3)) = 6) (28, [.ref a0, .int a1, .int a2, .int a3], [.int (hI h (hR h (hR h a0 2) (ix a3)) 1), .int a2], h) rfl g5 ?_
      refine eb_n 1 (29, [.ref a0, .int a1, .int a2, .int a3], [.int a1, .int (hI h (hR h (hR h a0 2) (ix a3)) 1), .int a2], h) (rfl) ?_
      refine eb_b (c := ¬ (hI h (hR h (hR h a0 2) (ix a3)) 1) = a1) (36, [.ref a0, .int a1, .int a2, .int a3], [.int a2], h) (32, [.ref a0, .int a1, .int a2, .int a3], [.int a2], h) rfl (fun c6 => ?_) (fun c6 => ?_)
      · replace e := ite_t c6 e
        refine eb_n 1 (37, [.ref a0, .int a1, .int a2, .int a3], [.int (nI 0), .int a2], h) (rfl) ?_
        exact f_River_peelersToRack_b37_ev d hd k4 hk4 _ _ _ _ _ _ _ e
      · replace e := ite_f c6 e
        refine eb_n 2 (37, [.ref a0, .int a1, .int a2, .int a3], [.int (nI 1), .int a2], h) (rfl) ?_
        exact f_River_peelersToRack_b37_ev d hd k4 hk4 _ _ _ _ _ _ _ e
set_option maxRecDepth 100000 in
set_option maxHeartbeats 4000000 in
theorem f_River_peelersToRack_l4_ev {h' : AH} {r : Int32} (d : Nat) (hd : 0 ≤ d)  : ∀ (n : Nat) (h : AH) (a0 : Nat) (a1 : Int32) (a2 : Int32) (a3 : Int32)   (_ : f_River_peelersToRack_l4  n h a0 a1 a2 a3 = some (h', r)), Eb (Ev tb mL d) 107 (4, [.ref a0, .int a1, .int a2, .int a3], [], h) h' (some (.int r)) := by
  intro n
  induction n with
  | zero => intro h a0 a1 a2 a3  e; exact nomatch e
  | succ n ih =>
    intro h a0 a1 a2 a3  e
    exact f_River_peelersToRack_b4_ev d hd _ (fun h a0 a1 a2 a3  e => ih h a0 a1 a2 a3  e) h a0 a1 a2 a3  e
set_option maxRecDepth 100000 in
set_option maxHeartbeats 4000000 in
theorem f_River_peelersToRack_ev (d0 : Nat) (hd0 : 1 ≤ d0) {h' : AH} {r : Int32} {h : AH} {a0 : Nat} {a1 : Int32} (e : f_River_peelersToRack h a0 a1 = some (h', r)) : Ev tb mL d0 107 [.ref a0, .int a1] h h' (some (.int r)) := by
  obtain ⟨d, rfl⟩ : ∃ d, d0 = d + 1 := ⟨d0 - 1, by omega⟩
  have hd : 0 ≤ d := by omega
  refine ⟨Nat.le_of_ble_eq_true rfl, ?_⟩
  show Eb (Ev tb mL d) 107 (0, [.ref a0, .int a1, .retAddr 0, .retAddr 0], [], h) h' (some (.int r))
  unfold f_River_peelersToRack at e
  refine eb_n 4 (4, [.ref a0, .int a1, .int (nI 0), .int (nI 0)], [], h) (rfl) ?_
  exact f_River_peelersToRack_l4_ev d hd   FU _ _ _ _ _  e
set_option maxRecDepth 100000 in
set_option maxHeartbeats 4000000 in
theorem f_River_ofRack_ev (d0 : Nat) (hd0 : 2 ≤ d0) {h' : AH} {r : Int32} {h : AH} {a0 : Nat} {a1 : Int32} {a2 : Int32} (e : f_River_ofRack h a0 a1 a2 = some (h', r)) : Ev tb mL d0 54 [.ref a0, .int a1, .int a2] h h' (some (.int r)) := by
  obtain ⟨d, rfl⟩ : ∃ d, d0 = d + 1 := ⟨d0 - 1, by omega⟩
  have hd : 1 ≤ d := by omega
  refine ⟨Nat.le_of_ble_eq_true rfl, ?_⟩
  show Eb (Ev tb mL d) 54 (0, [.ref a0, .int a1, .int a2], [], h) h' (some (.int r))
  unfold f_River_ofRack at e
  refine eb_n 2 (2, [.ref a0, .int a1, .int a2], [.int a1, .ref a0], h) (rfl) ?_
  obtain ⟨g1, e⟩ := gd_some e
  obtain ⟨h2, r3, eh2, e⟩ := bn_some e
  refine eb_cg (p := hT h a0 = 3) rfl g1 (f_River_hasRack_ev d (Nat.le_trans (by decide) hd) eh2) ?_
  show Eb _ 54 (5, [.ref a0, .int a1, .int a2], [.int r3], h2) _ _
  refine eb_b (c := ¬ r3 = 0) (10, [.ref a0, .int a1, .int a2], [], h2) (8, [.ref a0, .int a1, .int a2], [], h2) rfl (fun c4 => ?_) (fun c4 => ?_)
  · replace e := ite_t c4 e
    refine eb_n 1 (11, [.ref a0, .int a1, .int a2], [.int a2], h2) (rfl) ?_
    by_cases c5 : a2 = nI 0
    · replace e := ite_t c5 e
      refine eb_n 1 (36, [.ref a0, .int a1, .int a2], [], h2) (by rw [c5]; rfl) ?_
      refine eb_n 1 (37, [.ref a0, .int a1, .int a2], [.ref a0], h2) (rfl) ?_
      obtain ⟨g6, e⟩ := gd_some e
      refine eb_g (p := hT h2 a0 = 3) (40, [.ref a0, .int a1, .int a2], [.ref (hR h2 a0 1)], h2) rfl g6 ?_
      refine eb_n 1 (41, [.ref a0, .int a1, .int a2], [.int a1, .ref (hR h2 a0 1)], h2) (rfl) ?_
      obtain ⟨g7, e⟩ := gd_some e
      refine eb_g (p := hT h2 (hR h2 a0 1) = 105 ∧ inb a1 (hL h2 (hR h2 a0 1))) (42, [.ref a0, .int a1, .int a2], [.ref (hR h2 (hR h2 a0 1) (ix a1))], h2) rfl g7 ?_
      obtain ⟨g8, e⟩ := gd_some e
      refine eb_g (p := hT h2 (hR h2 (hR h2 a0 1) (ix a1)) = 5) (45, [.ref a0, .int a1, .int a2], [.int (hI h2 (hR h2 (hR h2 a0 1) (ix a1)) 0)], h2) rfl g8 ?_
      rw [(sp_inj e).1, (sp_inj e).2]
      exact eb_rg (p := nrm 0 (hI h2 (hR h2 (hR h2 a0 1) (ix a1)) 0)) rfl (nrm_0 _)
    replace e := ite_f c5 e
    by_cases c9 : a2 = nI 1
    · replace e := ite_t c9 e
      refine eb_n 1 (46, [.ref a0, .int a1, .int a2], [], h2) (by rw [c9]; rfl) ?_
      refine eb_n 1 (47, [.ref a0, .int a1, .int a2], [.ref a0], h2) (rfl) ?_
      obtain ⟨g10, e⟩ := gd_some e
      refine eb_g (p := hT h2 a0 = 3) (50, [.ref a0, .int a1, .int a2], [.ref (hR h2 a0 1)], h2) rfl g10 ?_
      refine eb_n 1 (51, [.ref a0, .int a1, .int a2], [.int a1, .ref (hR h2 a0 1)], h2) (rfl) ?_
      obtain ⟨g11, e⟩ := gd_some e
      refine eb_g (p := hT h2 (hR h2 a0 1) = 105 ∧ inb a1 (hL h2 (hR h2 a0 1))) (52, [.ref a0, .int a1, .int a2], [.ref (hR h2 (hR h2 a0 1) (ix a1))], h2) rfl g11 ?_
      obtain ⟨g12, e⟩ := gd_some e
      obtain ⟨h13, r14, eh13, e⟩ := bn_some e
      refine eb_cg (p := hT h2 (hR h2 (hR h2 a0 1) (ix a1)) = 5) rfl g12 (f_Rack_free_ev d (Nat.le_trans (by decide) hd) eh13) ?_
      show Eb _ 54 (55, [.ref a0, .int a1, .int a2], [.int r14], h13) _ _
      rw [(sp_inj e).1, (sp_inj e).2]
      exact eb_rg (p := nrm 0 r14) rfl (nrm_0 _)
    replace e := ite_f c9 e
    by_cases c15 : a2 = nI 2
    · replace e := ite_t c15 e
      refine eb_n 1 (56, [.ref a0, .int a1, .int a2], [], h2) (by rw [c15]; rfl) ?_
      refine eb_n 1 (57, [.ref a0, .int a1, .int a2], [.ref a0], h2) (rfl) ?_
      obtain ⟨g16, e⟩ := gd_some e
      refine eb_g (p := hT h2 a0 = 3) (60, [.ref a0, .int a1, .int a2], [.ref (hR h2 a0 1)], h2) rfl g16 ?_
      refine eb_n 1 (61, [.ref a0, .int a1, .int a2], [.int a1, .ref (hR h2 a0 1)], h2) (rfl) ?_
      obtain ⟨g17, e⟩ := gd_some e
      refine eb_g (p := hT h2 (hR h2 a0 1) = 105 ∧ inb a1 (hL h2 (hR h2 a0 1))) (62, [.ref a0, .int a1, .int a2], [.ref (hR h2 (hR h2 a0 1) (ix a1))], h2) rfl g17 ?_
      obtain ⟨g18, e⟩ := gd_some e
      obtain ⟨h19, r20, eh19, e⟩ := bn_some e
      refine eb_cg (p := hT h2 (hR h2 (hR h2 a0 1) (ix a1)) = 5) rfl g18 (f_Rack_bundles_ev d (Nat.le_trans (by decide) hd) eh19) ?_
      show Eb _ 54 (65, [.ref a0, .int a1, .int a2], [.int r20], h19) _ _
      rw [(sp_inj e).1, (sp_inj e).2]
      exact eb_rg (p := nrm 0 r20) rfl (nrm_0 _)
    replace e := ite_f c15 e
    refine eb_1 (f' := (66, [.ref a0, .int a1, .int a2], [], h2)) (tsw_d (tsw_out (x := a2) (lo := 0) (n := 3) (by decide) (by decide) (fun k hk => match k, hk with | 0, _ => c5 | 1, _ => c9 | 2, _ => c15 | k + 3, hk => absurd hk (by omega))) rfl rfl) ?_
    refine eb_n 2 (68, [.ref a0, .int a1, .int a2], [.int a1, .ref a0], h2) (rfl) ?_
    obtain ⟨g21, e⟩ := gd_some e
    obtain ⟨h22, r23, eh22, e⟩ := bn_some e
    refine eb_cg (p := hT h2 a0 = 3) rfl g21 (f_River_peelersToRack_ev d (Nat.le_trans (by decide) hd) eh22) ?_
    show Eb _ 54 (71, [.ref a0, .int a1, .int a2], [.int r23], h22) _ _
    rw [(sp_inj e).1, (sp_inj e).2]
    exact eb_rg (p := nrm 0 r23) rfl (nrm_0 _)
  · replace e := ite_f c4 e
    refine eb_n 1 (9, [.ref a0, .int a1, .int a2], [.int (nI 0)], h2) (rfl) ?_
    rw [(sp_inj e).1, (sp_inj e).2]
    exact eb_rg (p := nrm 0 (nI 0)) rfl (nrm_0 _)
set_option maxRecDepth 100000 in
set_option maxHeartbeats 4000000 in
theorem f_River_ofPeeler_ev (d0 : Nat) (hd0 : 2 ≤ d0) {h' : AH} {r : Int32} {h : AH} {a0 : Nat} {a1 : Int32} {a2 : Int32} (e : f_River_ofPeeler h a0 a1 a2 = some (h', r)) : Ev tb mL d0 59 [.ref a0, .int a1, .int a2] h h' (some (.int r)) := by
  obtain ⟨d, rfl⟩ : ∃ d, d0 = d + 1 := ⟨d0 - 1, by omega⟩
  have hd : 1 ≤ d := by omega
  refine ⟨Nat.le_of_ble_eq_true rfl, ?_⟩
  show Eb (Ev tb mL d) 59 (0, [.ref a0, .int a1, .int a2], [], h) h' (some (.int r))
  unfold f_River_ofPeeler at e
  refine eb_n 2 (2, [.ref a0, .int a1, .int a2], [.int a1, .ref a0], h) (rfl) ?_
  obtain ⟨g1, e⟩ := gd_some e
  obtain ⟨h2, r3, eh2, e⟩ := bn_some e
  refine eb_cg (p := hT h a0 = 3) rfl g1 (f_River_hasPeeler_ev d (Nat.le_trans (by decide) hd) eh2) ?_
  show Eb _ 59 (5, [.ref a0, .int a1, .int a2], [.int r3], h2) _ _
  refine eb_b (c := ¬ r3 = 0) (10, [.ref a0, .int a1, .int a2], [], h2) (8, [.ref a0, .int a1, .int a2], [], h2) rfl (fun c4 => ?_) (fun c4 => ?_)
  · replace e := ite_t c4 e
    refine eb_n 1 (11, [.ref a0, .int a1, .int a2], [.int a2], h2) (rfl) ?_
    by_cases c5 : a2 = nI 0
    · replace e := ite_t c5 e
      refine eb_n 1 (44, [.ref a0, .int a1, .int a2], [], h2) (by rw [c5]; rfl) ?_
      refine eb_n 1 (45, [.ref a0, .int a1, .int a2], [.ref a0], h2) (rfl) ?_
      obtain ⟨g6, e⟩ := gd_some e
      refine eb_g (p := hT h2 a0 = 3) (48, [.ref a0, .int a1, .int a2], [.ref (hR h2 a0 2)], h2) rfl g6 ?_
      refine eb_n 1 (49, [.ref a0, .int a1, .int a2], [.int a1, .ref (hR h2 a0 2)], h2) (rfl) ?_
      obtain ⟨g7, e⟩ := gd_some e
      refine eb_g (p := hT h2 (hR h2 a0 2) = 106 ∧ inb a1 (hL h2 (hR h2 a0 2))) (50, [.ref a0, .int a1, .int a2], [.ref (hR h2 (hR h2 a0 2) (ix a1))], h2) rfl g7 ?_
      obtain ⟨g8, e⟩ := gd_some e
      refine eb_g (p := hT h2 (hR h2 (hR h2 a0 2) (ix a1)) = 6) (53, [.ref a0, .int a1, .int a2], [.int (hI h2 (hR h2 (hR h2 a0 2) (ix a1)) 0)], h2) rfl g8 ?_
      rw [(sp_inj e).1, (sp_inj e).2]
      exact eb_rg (p := nrm 0 (hI h2 (hR h2 (hR h2 a0 2) (ix a1)) 0)) rfl (nrm_0 _)
    replace e := ite_f c5 e
    by_cases c9 : a2 = nI 1
    · replace e := ite_t c9 e
      refine eb_n 1 (54, [.ref a0, .int a1, .int a2], [], h2) (by rw [c9]; rfl) ?_
      refine eb_n 1 (55, [.ref a0, .int a1, .int a2], [.ref a0], h2) (rfl) ?_
      obtain ⟨g10, e⟩ := gd_some e
      refine eb_g (p := hT h2 a0 = 3) (58, [.ref a0, .int a1, .int a2], [.ref (hR h2 a0 2)], h2) rfl g10 ?_
      refine eb_n 1 (59, [.ref a0, .int a1, .int a2], [.int a1, .ref (hR h2 a0 2)], h2) (rfl) ?_
      obtain ⟨g11, e⟩ := gd_some e
      refine eb_g (p := hT h2 (hR h2 a0 2) = 106 ∧ inb a1 (hL h2 (hR h2 a0 2))) (60, [.ref a0, .int a1, .int a2], [.ref (hR h2 (hR h2 a0 2) (ix a1))], h2) rfl g11 ?_
      obtain ⟨g12, e⟩ := gd_some e
      refine eb_g (p := hT h2 (hR h2 (hR h2 a0 2) (ix a1)) = 6) (63, [.ref a0, .int a1, .int a2], [.int (hI h2 (hR h2 (hR h2 a0 2) (ix a1)) 1)], h2) rfl g12 ?_
      rw [(sp_inj e).1, (sp_inj e).2]
      exact eb_rg (p := nrm 0 (hI h2 (hR h2 (hR h2 a0 2) (ix a1)) 1)) rfl (nrm_0 _)
    replace e := ite_f c9 e
    by_cases c13 : a2 = nI 2
    · replace e := ite_t c13 e
      refine eb_n 1 (64, [.ref a0, .int a1, .int a2], [], h2) (by rw [c13]; rfl) ?_
      refine eb_n 1 (65, [.ref a0, .int a1, .int a2], [.ref a0], h2) (rfl) ?_
      obtain ⟨g14, e⟩ := gd_some e
      refine eb_g (p := hT h2 a0 = 3) (68, [.ref a0, .int a1, .int a2], [.ref (hR h2 a0 2)], h2) rfl g14 ?_
      refine eb_n 1 (69, [.ref a0, .int a1, .int a2], [.int a1, .ref (hR h2 a0 2)], h2) (rfl) ?_
      obtain ⟨g15, e⟩ := gd_some e
      refine eb_g (p := hT h2 (hR h2 a0 2) = 106 ∧ inb a1 (hL h2 (hR h2 a0 2))) (70, [.ref a0, .int a1, .int a2], [.ref (hR h2 (hR h2 a0 2) (ix a1))], h2) rfl g15 ?_
      obtain ⟨g16, e⟩ := gd_some e
      refine eb_g (p := hT h2 (hR h2 (hR h2 a0 2) (ix a1)) = 6) (73, [.ref a0, .int a1, .int a2], [.int (hI h2 (hR h2 (hR h2 a0 2) (ix a1)) 2)], h2) rfl g16 ?_
      rw [(sp_inj e).1, (sp_inj e).2]
      exact eb_rg (p := nrm 0 (hI h2 (hR h2 (hR h2 a0 2) (ix a1)) 2)) rfl (nrm_0 _)
    replace e := ite_f c13 e
    by_cases c17 : a2 = nI 3
    · replace e := ite_t c17 e
      refine eb_n 1 (74, [.ref a0, .int a1, .int a2], [], h2) (by rw [c17]; rfl) ?_
      refine eb_n 1 (75, [.ref a0, .int a1, .int a2], [.ref a0], h2) (rfl) ?_
      obtain ⟨g18, e⟩ := gd_some e
      refine eb_g (p := hT h2 a0 = 3) (78, [.ref a0, .int a1, .int a2], [.ref (hR h2 a0 2)], h2) rfl g18 ?_
      refine eb_n 1 (79, [.ref a0, .int a1, .int a2], [.int a1, .ref (hR h2 a0 2)], h2) (rfl) ?_
      obtain ⟨g19, e⟩ := gd_some e
      refine eb_g (p := hT h2 (hR h2 a0 2) = 106 ∧ inb a1 (hL h2 (hR h2 a0 2))) (80, [.ref a0, .int a1, .int a2], [.ref (hR h2 (hR h2 a0 2) (ix a1))], h2) rfl g19 ?_
      obtain ⟨g20, e⟩ := gd_some e
      refine eb_g (p := hT h2 (hR h2 (hR h2 a0 2) (ix a1)) = 6) (83, [.ref a0, .int a1, .int a2], [.int (hI h2 (hR h2 (hR h2 a0 2) (ix a1)) 3)], h2) rfl g20 ?_
      rw [(sp_inj e).1, (sp_inj e).2]
      exact eb_rg (p := nrm 0 (hI h2 (hR h2 (hR h2 a0 2) (ix a1)) 3)) rfl (nrm_0 _)
    replace e := ite_f c17 e
    by_cases c21 : a2 = nI 4
    · replace e := ite_t c21 e
      refine eb_n 1 (84, [.ref a0, .int a1, .int a2], [], h2) (by rw [c21]; rfl) ?_
      refine eb_n 1 (85, [.ref a0, .int a1, .int a2], [.ref a0], h2) (rfl) ?_
      obtain ⟨g22, e⟩ := gd_some e
      refine eb_g (p := hT h2 a0 = 3) (88, [.ref a0, .int a1, .int a2], [.ref (hR h2 a0 2)], h2) rfl g22 ?_
      refine eb_n 1 (89, [.ref a0, .int a1, .int a2], [.int a1, .ref (hR h2 a0 2)], h2) (rfl) ?_
      obtain ⟨g23, e⟩ := gd_some e
      refine eb_g (p := hT h2 (hR h2 a0 2) = 106 ∧ inb a1 (hL h2 (hR h2 a0 2))) (90, [.ref a0, .int a1, .int a2], [.ref (hR h2 (hR h2 a0 2) (ix a1))], h2) rfl g23 ?_
      obtain ⟨g24, e⟩ := gd_some e
      refine eb_g (p := hT h2 (hR h2 (hR h2 a0 2) (ix a1)) = 6) (93, [.ref a0, .int a1, .int a2], [.int (hI h2 (hR h2 (hR h2 a0 2) (ix a1)) 4)], h2) rfl g24 ?_
      rw [(sp_inj e).1, (sp_inj e).2]
      exact eb_rg (p := nrm 0 (hI h2 (hR h2 (hR h2 a0 2) (ix a1)) 4)) rfl (nrm_0 _)
    replace e := ite_f c21 e
    refine eb_1 (f' := (94, [.ref a0, .int a1, .int a2], [], h2)) (tsw_d (tsw_out (x := a2) (lo := 0) (n := 5) (by decide) (by decide) (fun k hk => match k, hk with | 0, _ => c5 | 1, _ => c9 | 2, _ => c13 | 3, _ => c17 | 4, _ => c21 | k + 5, hk => absurd hk (by omega))) rfl rfl) ?_
    refine eb_n 1 (95, [.ref a0, .int a1, .int a2], [.ref a0], h2) (rfl) ?_
    obtain ⟨g25, e⟩ := gd_some e
    refine eb_g (p := hT h2 a0 = 3) (98, [.ref a0, .int a1, .int a2], [.ref (hR h2 a0 2)], h2) rfl g25 ?_
    refine eb_n 1 (99, [.ref a0, .int a1, .int a2], [.int a1, .ref (hR h2 a0 2)], h2) (rfl) ?_
    obtain ⟨g26, e⟩ := gd_some e
    refine eb_g (p := hT h2 (hR h2 a0 2) = 106 ∧ inb a1 (hL h2 (hR h2 a0 2))) (100, [.ref a0, .int a1, .int a2], [.ref (hR h2 (hR h2 a0 2) (ix a1))], h2) rfl g26 ?_
    obtain ⟨g27, e⟩ := gd_some e
    refine eb_g (p := hT h2 (hR h2 (hR h2 a0 2) (ix a1)) = 6) (103, [.ref a0, .int a1, .int a2], [.int (hI h2 (hR h2 (hR h2 a0 2) (ix a1)) 5)], h2) rfl g27 ?_
    rw [(sp_inj e).1, (sp_inj e).2]
    exact eb_rg (p := nrm 0 (hI h2 (hR h2 (hR h2 a0 2) (ix a1)) 5)) rfl (nrm_0 _)
  · replace e := ite_f c4 e
    refine eb_n 1 (9, [.ref a0, .int a1, .int a2], [.int (nI 0)], h2) (rfl) ?_
    rw [(sp_inj e).1, (sp_inj e).2]
    exact eb_rg (p := nrm 0 (nI 0)) rfl (nrm_0 _)
set_option maxRecDepth 100000 in
set_option maxHeartbeats 4000000 in
theorem f_River_ofBoat_ev (d0 : Nat) (hd0 : 2 ≤ d0) {h' : AH} {r : Int32} {h : AH} {a0 : Nat} {a1 : Int32} {a2 : Int32} (e : f_River_ofBoat h a0 a1 a2 = some (h', r)) : Ev tb mL d0 61 [.ref a0, .int a1, .int a2] h h' (some (.int r)) := by
  obtain ⟨d, rfl⟩ : ∃ d, d0 = d + 1 := ⟨d0 - 1, by omega⟩
  have hd : 1 ≤ d := by omega
  refine ⟨Nat.le_of_ble_eq_true rfl, ?_⟩
  show Eb (Ev tb mL d) 61 (0, [.ref a0, .int a1, .int a2], [], h) h' (some (.int r))
  unfold f_River_ofBoat at e
  refine eb_n 2 (2, [.ref a0, .int a1, .int a2], [.int a1, .ref a0], h) (rfl) ?_
  obtain ⟨g1, e⟩ := gd_some e
  obtain ⟨h2, r3, eh2, e⟩ := bn_some e
  refine eb_cg (p := hT h a0 = 3) rfl g1 (f_River_hasBoat_ev d (Nat.le_trans (by decide) hd) eh2) ?_
  show Eb _ 61 (5, [.ref a0, .int a1, .int a2], [.int r3], h2) _ _
  refine eb_b (c := ¬ r3 = 0) (10, [.ref a0, .int a1, .int a2], [], h2) (8, [.ref a0, .int a1, .int a2], [], h2) rfl (fun c4 => ?_) (fun c4 => ?_)
  · replace e := ite_t c4 e
    refine eb_n 1 (11, [.ref a0, .int a1, .int a2], [.int a2], h2) (rfl) ?_
    by_cases c5 : a2 = nI 0
    · replace e := ite_t c5 e
      refine eb_n 1 (48, [.ref a0, .int a1, .int a2], [], h2) (by rw [c5]; rfl) ?_
      refine eb_n 1 (49, [.ref a0, .int a1, .int a2], [.ref a0], h2) (rfl) ?_
      obtain ⟨g6, e⟩ := gd_some e
      refine eb_g (p := hT h2 a0 = 3) (52, [.ref a0, .int a1, .int a2], [.ref (hR h2 a0 3)], h2) rfl g6 ?_
      refine eb_n 1 (53, [.ref a0, .int a1, .int a2], [.int a1, .ref (hR h2 a0 3)], h2) (rfl) ?_
      obtain ⟨g7, e⟩ := gd_some e
      refine eb_g (p := hT h2 (hR h2 a0 3) = 107 ∧ inb a1 (hL h2 (hR h2 a0 3))) (54, [.ref a0, .int a1, .int a2], [.ref (hR h2 (hR h2 a0 3) (ix a1))], h2) rfl g7 ?_
      obtain ⟨g8, e⟩ := gd_some e
      refine eb_g (p := hT h2 (hR h2 (hR h2 a0 3) (ix a1)) = 7) (57, [.ref a0, .int a1, .int a2], [.int (hI h2 (hR h2 (hR h2 a0 3) (ix a1)) 0)], h2) rfl g8 ?_
      rw [(sp_inj e).1, (sp_inj e).2]
      exact eb_rg (p := nrm 0 (hI h2 (hR h2 (hR h2 a0 3) (ix a1)) 0)) rfl (nrm_0 _)
    replace e := ite_f c5 e
    by_cases c9 : a2 = nI 1
    · replace e := ite_t c9 e
      refine eb_n 1 (58, [.ref a0, .int a1, .int a2], [], h2) (by rw [c9]; rfl) ?_
      refine eb_n 1 (59, [.ref a0, .int a1, .int a2], [.ref a0], h2) (rfl) ?_
      obtain ⟨g10, e⟩ := gd_some e
      refine eb_g (p := hT h2 a0 = 3) (62, [.ref a0, .int a1, .int a2], [.ref (hR h2 a0 3)], h2) rfl g10 ?_
      refine eb_n 1 (63, [.ref a0, .int a1, .int a2], [.int a1, .ref (hR h2 a0 3)], h2) (rfl) ?_
      obtain ⟨g11, e⟩ := gd_some e
      refine eb_g (p := hT h2 (hR h2 a0 3) = 107 ∧ inb a1 (hL h2 (hR h2 a0 3))) (64, [.ref a0, .int a1, .int a2], [.ref (hR h2 (hR h2 a0 3) (ix a1))], h2) rfl g11 ?_
      obtain ⟨g12, e⟩ := gd_some e
      refine eb_g (p := hT h2 (hR h2 (hR h2 a0 3) (ix a1)) = 7) (67, [.ref a0, .int a1, .int a2], [.int (hI h2 (hR h2 (hR h2 a0 3) (ix a1)) 1)], h2) rfl g12 ?_
      rw [(sp_inj e).1, (sp_inj e).2]
      exact eb_rg (p := nrm 0 (hI h2 (hR h2 (hR h2 a0 3) (ix a1)) 1)) rfl (nrm_0 _)
    replace e := ite_f c9 e
    by_cases c13 : a2 = nI 2
    · replace e := ite_t c13 e
      refine eb_n 1 (68, [.ref a0, .int a1, .int a2], [], h2) (by rw [c13]; rfl) ?_
      refine eb_n 1 (69, [.ref a0, .int a1, .int a2], [.ref a0], h2) (rfl) ?_
      obtain ⟨g14, e⟩ := gd_some e
      refine eb_g (p := hT h2 a0 = 3) (72, [.ref a0, .int a1, .int a2], [.ref (hR h2 a0 3)], h2) rfl g14 ?_
      refine eb_n 1 (73, [.ref a0, .int a1, .int a2], [.int a1, .ref (hR h2 a0 3)], h2) (rfl) ?_
      obtain ⟨g15, e⟩ := gd_some e
      refine eb_g (p := hT h2 (hR h2 a0 3) = 107 ∧ inb a1 (hL h2 (hR h2 a0 3))) (74, [.ref a0, .int a1, .int a2], [.ref (hR h2 (hR h2 a0 3) (ix a1))], h2) rfl g15 ?_
      obtain ⟨g16, e⟩ := gd_some e
      refine eb_g (p := hT h2 (hR h2 (hR h2 a0 3) (ix a1)) = 7) (77, [.ref a0, .int a1, .int a2], [.int (hI h2 (hR h2 (hR h2 a0 3) (ix a1)) 2)], h2) rfl g16 ?_
      rw [(sp_inj e).1, (sp_inj e).2]
      exact eb_rg (p := nrm 0 (hI h2 (hR h2 (hR h2 a0 3) (ix a1)) 2)) rfl (nrm_0 _)
    replace e := ite_f c13 e
    by_cases c17 : a2 = nI 3
    · replace e := ite_t c17 e
      refine eb_n 1 (78, [.ref a0, .int a1, .int a2], [], h2) (by rw [c17]; rfl) ?_
      refine eb_n 1 (79, [.ref a0, .int a1, .int a2], [.ref a0], h2) (rfl) ?_
      obtain ⟨g18, e⟩ := gd_some e
      refine eb_g (p := hT h2 a0 = 3) (82, [.ref a0, .int a1, .int a2], [.ref (hR h2 a0 3)], h2) rfl g18 ?_
      refine eb_n 1 (83, [.ref a0, .int a1, .int a2], [.int a1, .ref (hR h2 a0 3)], h2) (rfl) ?_
      obtain ⟨g19, e⟩ := gd_some e
      refine eb_g (p := hT h2 (hR h2 a0 3) = 107 ∧ inb a1 (hL h2 (hR h2 a0 3))) (84, [.ref a0, .int a1, .int a2], [.ref (hR h2 (hR h2 a0 3) (ix a1))], h2) rfl g19 ?_
      obtain ⟨g20, e⟩ := gd_some e
      refine eb_g (p := hT h2 (hR h2 (hR h2 a0 3) (ix a1)) = 7) (87, [.ref a0, .int a1, .int a2], [.int (hI h2 (hR h2 (hR h2 a0 3) (ix a1)) 3)], h2) rfl g20 ?_
      rw [(sp_inj e).1, (sp_inj e).2]
      exact eb_rg (p := nrm 0 (hI h2 (hR h2 (hR h2 a0 3) (ix a1)) 3)) rfl (nrm_0 _)
    replace e := ite_f c17 e
    by_cases c21 : a2 = nI 4
    · replace e := ite_t c21 e
      refine eb_n 1 (88, [.ref a0, .int a1, .int a2], [], h2) (by rw [c21]; rfl) ?_
      refine eb_n 1 (89, [.ref a0, .int a1, .int a2], [.ref a0], h2) (rfl) ?_
      obtain ⟨g22, e⟩ := gd_some e
      refine eb_g (p := hT h2 a0 = 3) (92, [.ref a0, .int a1, .int a2], [.ref (hR h2 a0 3)], h2) rfl g22 ?_
      refine eb_n 1 (93, [.ref a0, .int a1, .int a2], [.int a1, .ref (hR h2 a0 3)], h2) (rfl) ?_
      obtain ⟨g23, e⟩ := gd_some e
      refine eb_g (p := hT h2 (hR h2 a0 3) = 107 ∧ inb a1 (hL h2 (hR h2 a0 3))) (94, [.ref a0, .int a1, .int a2], [.ref (hR h2 (hR h2 a0 3) (ix a1))], h2) rfl g23 ?_
      obtain ⟨g24, e⟩ := gd_some e
      refine eb_g (p := hT h2 (hR h2 (hR h2 a0 3) (ix a1)) = 7) (97, [.ref a0, .int a1, .int a2], [.int (hI h2 (hR h2 (hR h2 a0 3) (ix a1)) 4)], h2) rfl g24 ?_
      rw [(sp_inj e).1, (sp_inj e).2]
      exact eb_rg (p := nrm 0 (hI h2 (hR h2 (hR h2 a0 3) (ix a1)) 4)) rfl (nrm_0 _)
    replace e := ite_f c21 e
    by_cases c25 : a2 = nI 5
    · replace e := ite_t c25 e
      refine eb_n 1 (98, [.ref a0, .int a1, .int a2], [], h2) (by rw [c25]; rfl) ?_
      refine eb_n 1 (99, [.ref a0, .int a1, .int a2], [.ref a0], h2) (rfl) ?_
      obtain ⟨g26, e⟩ := gd_some e
      refine eb_g (p := hT h2 a0 = 3) (102, [.ref a0, .int a1, .int a2], [.ref (hR h2 a0 3)], h2) rfl g26 ?_
      refine eb_n 1 (103, [.ref a0, .int a1, .int a2], [.int a1, .ref (hR h2 a0 3)], h2) (rfl) ?_
      obtain ⟨g27, e⟩ := gd_some e
      refine eb_g (p := hT h2 (hR h2 a0 3) = 107 ∧ inb a1 (hL h2 (hR h2 a0 3))) (104, [.ref a0, .int a1, .int a2], [.ref (hR h2 (hR h2 a0 3) (ix a1))], h2) rfl g27 ?_
      obtain ⟨g28, e⟩ := gd_some e
      refine eb_g (p := hT h2 (hR h2 (hR h2 a0 3) (ix a1)) = 7) (107, [.ref a0, .int a1, .int a2], [.int (hI h2 (hR h2 (hR h2 a0 3) (ix a1)) 5)], h2) rfl g28 ?_
      rw [(sp_inj e).1, (sp_inj e).2]
      exact eb_rg (p := nrm 0 (hI h2 (hR h2 (hR h2 a0 3) (ix a1)) 5)) rfl (nrm_0 _)
    replace e := ite_f c25 e
    refine eb_1 (f' := (108, [.ref a0, .int a1, .int a2], [], h2)) (tsw_d (tsw_out (x := a2) (lo := 0) (n := 6) (by decide) (by decide) (fun k hk => match k, hk with | 0, _ => c5 | 1, _ => c9 | 2, _ => c13 | 3, _ => c17 | 4, _ => c21 | 5, _ => c25 | k + 6, hk => absurd hk (by omega))) rfl rfl) ?_
    refine eb_n 1 (109, [.ref a0, .int a1, .int a2], [.ref a0], h2) (rfl) ?_
    obtain ⟨g29, e⟩ := gd_some e
    refine eb_g (p := hT h2 a0 = 3) (112, [.ref a0, .int a1, .int a2], [.ref (hR h2 a0 3)], h2) rfl g29 ?_
    refine eb_n 1 (113, [.ref a0, .int a1, .int a2], [.int a1, .ref (hR h2 a0 3)], h2) (rfl) ?_
    obtain ⟨g30, e⟩ := gd_some e
    refine eb_g (p := hT h2 (hR h2 a0 3) = 107 ∧ inb a1 (hL h2 (hR h2 a0 3))) (114, [.ref a0, .int a1, .int a2], [.ref (hR h2 (hR h2 a0 3) (ix a1))], h2) rfl g30 ?_
    obtain ⟨g31, e⟩ := gd_some e
    refine eb_g (p := hT h2 (hR h2 (hR h2 a0 3) (ix a1)) = 7) (117, [.ref a0, .int a1, .int a2], [.int (hI h2 (hR h2 (hR h2 a0 3) (ix a1)) 6)], h2) rfl g31 ?_
    rw [(sp_inj e).1, (sp_inj e).2]
    exact eb_rg (p := nrm 0 (hI h2 (hR h2 (hR h2 a0 3) (ix a1)) 6)) rfl (nrm_0 _)
  · replace e := ite_f c4 e
    refine eb_n 1 (9, [.ref a0, .int a1, .int a2], [.int (nI 0)], h2) (rfl) ?_
    rw [(sp_inj e).1, (sp_inj e).2]
    exact eb_rg (p := nrm 0 (nI 0)) rfl (nrm_0 _)
set_option maxRecDepth 100000 in
set_option maxHeartbeats 4000000 in
theorem f_Grade_priceAt_ev (d0 : Nat) (hd0 : 1 ≤ d0) {h' : AH} {r : Int32} {h : AH} {a0 : Nat} {a1 : Int32} (e : f_Grade_priceAt h a0 a1 = some (h', r)) : Ev tb mL d0 112 [.ref a0, .int a1] h h' (some (.int r)) := by
  obtain ⟨d, rfl⟩ : ∃ d, d0 = d + 1 := ⟨d0 - 1, by omega⟩
  have hd : 0 ≤ d := by omega
  refine ⟨Nat.le_of_ble_eq_true rfl, ?_⟩
  show Eb (Ev tb mL d) 112 (0, [.ref a0, .int a1, .retAddr 0], [], h) h' (some (.int r))
  unfold f_Grade_priceAt at e
  refine eb_n 1 (1, [.ref a0, .int a1, .retAddr 0], [.ref a0], h) (rfl) ?_
  obtain ⟨g1, e⟩ := gd_some e
  refine eb_g (p := hT h a0 = 8) (4, [.ref a0, .int a1, .retAddr 0], [.int (hI h a0 1)], h) rfl g1 ?_
  refine eb_n 2 (6, [.ref a0, .int a1, .retAddr 0], [.int (nI 4), .int a1, .int (hI h a0 1)], h) (rfl) ?_
  refine eb_g (p := ¬ (nI 4) = 0) (7, [.ref a0, .int a1, .retAddr 0], [.int (a1 / (nI 4)), .int (hI h a0 1)], h) rfl (by decide) ?_
  obtain ⟨x2, hx2, e⟩ := lq_some e
  refine eb_n 2 (9, [.ref a0, .int a1, .int x2], [], h) (by subst hx2; rfl) ?_
  refine eb_n 1 (10, [.ref a0, .int a1, .int x2], [.int x2], h) (rfl) ?_
  refine eb_b (c := x2 ≤ 0) (17, [.ref a0, .int a1, .int x2], [], h) (13, [.ref a0, .int a1, .int x2], [], h) rfl (fun c3 => ?_) (fun c3 => ?_)
  · replace e := ite_t c3 e
    refine eb_n 1 (18, [.ref a0, .int a1, .int x2], [.int (nI 0)], h) (rfl) ?_
    rw [(sp_inj e).1, (sp_inj e).2]
    exact eb_rg (p := nrm 0 (nI 0)) rfl (nrm_0 _)
  · replace e := ite_f c3 e
    refine eb_n 2 (18, [.ref a0, .int a1, .int x2], [.int x2], h) (rfl) ?_
    rw [(sp_inj e).1, (sp_inj e).2]
    exact eb_rg (p := nrm 0 x2) rfl (nrm_0 _)
set_option maxRecDepth 100000 in
set_option maxHeartbeats 4000000 in
theorem f_River_ofGrade_ev (d0 : Nat) (hd0 : 2 ≤ d0) {h' : AH} {r : Int32} {h : AH} {a0 : Nat} {a1 : Int32} {a2 : Int32} (e : f_River_ofGrade h a0 a1 a2 = some (h', r)) : Ev tb mL d0 65 [.ref a0, .int a1, .int a2] h h' (some (.int r)) := by
  obtain ⟨d, rfl⟩ : ∃ d, d0 = d + 1 := ⟨d0 - 1, by omega⟩
  have hd : 1 ≤ d := by omega
  refine ⟨Nat.le_of_ble_eq_true rfl, ?_⟩
  show Eb (Ev tb mL d) 65 (0, [.ref a0, .int a1, .int a2], [], h) h' (some (.int r))
  unfold f_River_ofGrade at e
  refine eb_n 2 (2, [.ref a0, .int a1, .int a2], [.int a1, .ref a0], h) (rfl) ?_
  obtain ⟨g1, e⟩ := gd_some e
  obtain ⟨h2, r3, eh2, e⟩ := bn_some e
  refine eb_cg (p := hT h a0 = 3) rfl g1 (f_River_hasGrade_ev d (Nat.le_trans (by decide) hd) eh2) ?_
  show Eb _ 65 (5, [.ref a0, .int a1, .int a2], [.int r3], h2) _ _
  refine eb_b (c := ¬ r3 = 0) (10, [.ref a0, .int a1, .int a2], [], h2) (8, [.ref a0, .int a1, .int a2], [], h2) rfl (fun c4 => ?_) (fun c4 => ?_)
  · replace e := ite_t c4 e
    refine eb_n 1 (11, [.ref a0, .int a1, .int a2], [.int a2], h2) (rfl) ?_
    by_cases c5 : a2 = nI 0
    · replace e := ite_t c5 e
      refine eb_n 1 (40, [.ref a0, .int a1, .int a2], [], h2) (by rw [c5]; rfl) ?_
      refine eb_n 1 (41, [.ref a0, .int a1, .int a2], [.ref a0], h2) (rfl) ?_
      obtain ⟨g6, e⟩ := gd_some e
      refine eb_g (p := hT h2 a0 = 3) (44, [.ref a0, .int a1, .int a2], [.ref (hR h2 a0 4)], h2) rfl g6 ?_
      refine eb_n 1 (45, [.ref a0, .int a1, .int a2], [.int a1, .ref (hR h2 a0 4)], h2) (rfl) ?_
      obtain ⟨g7, e⟩ := gd_some e
      refine eb_g (p := hT h2 (hR h2 a0 4) = 108 ∧ inb a1 (hL h2 (hR h2 a0 4))) (46, [.ref a0, .int a1, .int a2], [.ref (hR h2 (hR h2 a0 4) (ix a1))], h2) rfl g7 ?_
      obtain ⟨g8, e⟩ := gd_some e
      refine eb_g (p := hT h2 (hR h2 (hR h2 a0 4) (ix a1)) = 8) (49, [.ref a0, .int a1, .int a2], [.int (hI h2 (hR h2 (hR h2 a0 4) (ix a1)) 0)], h2) rfl g8 ?_
      rw [(sp_inj e).1, (sp_inj e).2]
      exact eb_rg (p := nrm 0 (hI h2 (hR h2 (hR h2 a0 4) (ix a1)) 0)) rfl (nrm_0 _)
    replace e := ite_f c5 e
    by_cases c9 : a2 = nI 1
    · replace e := ite_t c9 e
      refine eb_n 1 (50, [.ref a0, .int a1, .int a2], [], h2) (by rw [c9]; rfl) ?_
      refine eb_n 1 (51, [.ref a0, .int a1, .int a2], [.ref a0], h2) (rfl) ?_
      obtain ⟨g10, e⟩ := gd_some e
      refine eb_g (p := hT h2 a0 = 3) (54, [.ref a0, .int a1, .int a2], [.ref (hR h2 a0 4)], h2) rfl g10 ?_
      refine eb_n 1 (55, [.ref a0, .int a1, .int a2], [.int a1, .ref (hR h2 a0 4)], h2) (rfl) ?_
      obtain ⟨g11, e⟩ := gd_some e
      refine eb_g (p := hT h2 (hR h2 a0 4) = 108 ∧ inb a1 (hL h2 (hR h2 a0 4))) (56, [.ref a0, .int a1, .int a2], [.ref (hR h2 (hR h2 a0 4) (ix a1))], h2) rfl g11 ?_
      obtain ⟨g12, e⟩ := gd_some e
      refine eb_g (p := hT h2 (hR h2 (hR h2 a0 4) (ix a1)) = 8) (59, [.ref a0, .int a1, .int a2], [.int (hI h2 (hR h2 (hR h2 a0 4) (ix a1)) 1)], h2) rfl g12 ?_
      rw [(sp_inj e).1, (sp_inj e).2]
      exact eb_rg (p := nrm 0 (hI h2 (hR h2 (hR h2 a0 4) (ix a1)) 1)) rfl (nrm_0 _)
    replace e := ite_f c9 e
    by_cases c13 : a2 = nI 2
    · replace e := ite_t c13 e
      refine eb_n 1 (60, [.ref a0, .int a1, .int a2], [], h2) (by rw [c13]; rfl) ?_
      refine eb_n 1 (61, [.ref a0, .int a1, .int a2], [.ref a0], h2) (rfl) ?_
      obtain ⟨g14, e⟩ := gd_some e
      refine eb_g (p := hT h2 a0 = 3) (64, [.ref a0, .int a1, .int a2], [.ref (hR h2 a0 4)], h2) rfl g14 ?_
      refine eb_n 1 (65, [.ref a0, .int a1, .int a2], [.int a1, .ref (hR h2 a0 4)], h2) (rfl) ?_
      obtain ⟨g15, e⟩ := gd_some e
      refine eb_g (p := hT h2 (hR h2 a0 4) = 108 ∧ inb a1 (hL h2 (hR h2 a0 4))) (66, [.ref a0, .int a1, .int a2], [.ref (hR h2 (hR h2 a0 4) (ix a1))], h2) rfl g15 ?_
      obtain ⟨g16, e⟩ := gd_some e
      refine eb_g (p := hT h2 (hR h2 (hR h2 a0 4) (ix a1)) = 8) (69, [.ref a0, .int a1, .int a2], [.int (hI h2 (hR h2 (hR h2 a0 4) (ix a1)) 2)], h2) rfl g16 ?_
      rw [(sp_inj e).1, (sp_inj e).2]
      exact eb_rg (p := nrm 0 (hI h2 (hR h2 (hR h2 a0 4) (ix a1)) 2)) rfl (nrm_0 _)
    replace e := ite_f c13 e
    by_cases c17 : a2 = nI 3
    · replace e := ite_t c17 e
      refine eb_n 1 (70, [.ref a0, .int a1, .int a2], [], h2) (by rw [c17]; rfl) ?_
      refine eb_n 1 (71, [.ref a0, .int a1, .int a2], [.ref a0], h2) (rfl) ?_
      obtain ⟨g18, e⟩ := gd_some e
      refine eb_g (p := hT h2 a0 = 3) (74, [.ref a0, .int a1, .int a2], [.ref (hR h2 a0 4)], h2) rfl g18 ?_
      refine eb_n 1 (75, [.ref a0, .int a1, .int a2], [.int a1, .ref (hR h2 a0 4)], h2) (rfl) ?_
      obtain ⟨g19, e⟩ := gd_some e
      refine eb_g (p := hT h2 (hR h2 a0 4) = 108 ∧ inb a1 (hL h2 (hR h2 a0 4))) (76, [.ref a0, .int a1, .int a2], [.ref (hR h2 (hR h2 a0 4) (ix a1))], h2) rfl g19 ?_
      refine eb_n 1 (77, [.ref a0, .int a1, .int a2], [.ref a0, .ref (hR h2 (hR h2 a0 4) (ix a1))], h2) (rfl) ?_
      refine eb_g (p := hT h2 a0 = 3) (80, [.ref a0, .int a1, .int a2], [.ref (hR h2 a0 4), .ref (hR h2 (hR h2 a0 4) (ix a1))], h2) rfl g18 ?_
      refine eb_n 1 (81, [.ref a0, .int a1, .int a2], [.int a1, .ref (hR h2 a0 4), .ref (hR h2 (hR h2 a0 4) (ix a1))], h2) (rfl) ?_
      refine eb_g (p := hT h2 (hR h2 a0 4) = 108 ∧ inb a1 (hL h2 (hR h2 a0 4))) (82, [.ref a0, .int a1, .int a2], [.ref (hR h2 (hR h2 a0 4) (ix a1)), .ref (hR h2 (hR h2 a0 4) (ix a1))], h2) rfl g19 ?_
      obtain ⟨g20, e⟩ := gd_some e
      refine eb_g (p := hT h2 (hR h2 (hR h2 a0 4) (ix a1)) = 8) (85, [.ref a0, .int a1, .int a2], [.int (hI h2 (hR h2 (hR h2 a0 4) (ix a1)) 2), .ref (hR h2 (hR h2 a0 4) (ix a1))], h2) rfl g20 ?_
      obtain ⟨h21, r22, eh21, e⟩ := bn_some e
      refine eb_cg (p := hT h2 (hR h2 (hR h2 a0 4) (ix a1)) = 8) rfl g20 (f_Grade_priceAt_ev d (Nat.le_trans (by decide) hd) eh21) ?_
      show Eb _ 65 (88, [.ref a0, .int a1, .int a2], [.int r22], h21) _ _
      rw [(sp_inj e).1, (sp_inj e).2]
      exact eb_rg (p := nrm 0 r22) rfl (nrm_0 _)
    replace e := ite_f c17 e
    refine eb_1 (f' := (89, [.ref a0, .int a1, .int a2], [], h2)) (tsw_d (tsw_out (x := a2) (lo := 0) (n := 4) (by decide) (by decide) (fun k hk => match k, hk with | 0, _ => c5 | 1, _ => c9 | 2, _ => c13 | 3, _ => c17 | k + 4, hk => absurd hk (by omega))) rfl rfl) ?_
    refine eb_n 1 (90, [.ref a0, .int a1, .int a2], [.ref a0], h2) (rfl) ?_
    obtain ⟨g23, e⟩ := gd_some e
    refine eb_g (p := hT h2 a0 = 3) (93, [.ref a0, .int a1, .int a2], [.ref (hR h2 a0 4)], h2) rfl g23 ?_
    refine eb_n 1 (94, [.ref a0, .int a1, .int a2], [.int a1, .ref (hR h2 a0 4)], h2) (rfl) ?_
    obtain ⟨g24, e⟩ := gd_some e
    refine eb_g (p := hT h2 (hR h2 a0 4) = 108 ∧ inb a1 (hL h2 (hR h2 a0 4))) (95, [.ref a0, .int a1, .int a2], [.ref (hR h2 (hR h2 a0 4) (ix a1))], h2) rfl g24 ?_
    obtain ⟨g25, e⟩ := gd_some e
    refine eb_g (p := hT h2 (hR h2 (hR h2 a0 4) (ix a1)) = 8) (98, [.ref a0, .int a1, .int a2], [.int (hI h2 (hR h2 (hR h2 a0 4) (ix a1)) 3)], h2) rfl g25 ?_
    rw [(sp_inj e).1, (sp_inj e).2]
    exact eb_rg (p := nrm 0 (hI h2 (hR h2 (hR h2 a0 4) (ix a1)) 3)) rfl (nrm_0 _)
  · replace e := ite_f c4 e
    refine eb_n 1 (9, [.ref a0, .int a1, .int a2], [.int (nI 0)], h2) (rfl) ?_
    rw [(sp_inj e).1, (sp_inj e).2]
    exact eb_rg (p := nrm 0 (nI 0)) rfl (nrm_0 _)
set_option maxRecDepth 100000 in
set_option maxHeartbeats 4000000 in
theorem f_River_told_ev (d0 : Nat) (hd0 : 3 ≤ d0) {h' : AH} {r : Int32} {h : AH} {a0 : Nat} {a1 : Int32} {a2 : Int32} (e : f_River_told h a0 a1 a2 = some (h', r)) : Ev tb mL d0 206 [.ref a0, .int a1, .int a2] h h' (some (.int r)) := by
  obtain ⟨d, rfl⟩ : ∃ d, d0 = d + 1 := ⟨d0 - 1, by omega⟩
  have hd : 2 ≤ d := by omega
  refine ⟨Nat.le_of_ble_eq_true rfl, ?_⟩
  show Eb (Ev tb mL d) 206 (0, [.ref a0, .int a1, .int a2], [], h) h' (some (.int r))
  unfold f_River_told at e
  refine eb_n 1 (1, [.ref a0, .int a1, .int a2], [.int a1], h) (rfl) ?_
  by_cases c1 : a1 = nI 2
  · replace e := ite_t c1 e
    refine eb_n 1 (158, [.ref a0, .int a1, .int a2], [], h) (by rw [c1]; rfl) ?_
    refine eb_n 3 (161, [.ref a0, .int a1, .int a2], [.int (nI 0), .int a2, .ref a0], h) (rfl) ?_
    obtain ⟨g2, e⟩ := gd_some e
    obtain ⟨h3, r4, eh3, e⟩ := bn_some e
    refine eb_cg (p := hT h a0 = 3) rfl g2 (f_River_ofGarden_ev d (Nat.le_trans (by decide) hd) eh3) ?_
    show Eb _ 206 (164, [.ref a0, .int a1, .int a2], [.int r4], h3) _ _
    rw [(sp_inj e).1, (sp_inj e).2]
    exact eb_rg (p := nrm 0 r4) rfl (nrm_0 _)
  replace e := ite_f c1 e
  by_cases c5 : a1 = nI 3
  · replace e := ite_t c5 e
    refine eb_n 1 (230, [.ref a0, .int a1, .int a2], [], h) (by rw [c5]; rfl) ?_
    refine eb_n 1 (231, [.ref a0, .int a1, .int a2], [.int (nI 0)], h) (rfl) ?_
    rw [(sp_inj e).1, (sp_inj e).2]
    exact eb_rg (p := nrm 0 (nI 0)) rfl (nrm_0 _)
  replace e := ite_f c5 e
  by_cases c6 : a1 = nI 4
  · replace e := ite_t c6 e
    refine eb_n 1 (230, [.ref a0, .int a1, .int a2], [], h) (by rw [c6]; rfl) ?_
    refine eb_n 1 (231, [.ref a0, .int a1, .int a2], [.int (nI 0)], h) (rfl) ?_
    rw [(sp_inj e).1, (sp_inj e).2]
    exact eb_rg (p := nrm 0 (nI 0)) rfl (nrm_0 _)
  replace e := ite_f c6 e
  by_cases c7 : a1 = nI 5
  · replace e := ite_t c7 e
    refine eb_n 1 (230, [.ref a0, .int a1, .int a2], [], h) (by rw [c7]; rfl) ?_
    refine eb_n 1 (231, [.ref a0, .int a1, .int a2], [.int (nI 0)], h) (rfl) ?_
    rw [(sp_inj e).1, (sp_inj e).2]
    exact eb_rg (p := nrm 0 (nI 0)) rfl (nrm_0 _)
  replace e := ite_f c7 e
  by_cases c8 : a1 = nI 6
  · replace e := ite_t c8 e
    refine eb_n 1 (230, [.ref a0, .int a1, .int a2], [], h) (by rw [c8]; rfl) ?_
    refine eb_n 1 (231, [.ref a0, .int a1, .int a2], [.int (nI 0)], h) (rfl) ?_
    rw [(sp_inj e).1, (sp_inj e).2]
    exact eb_rg (p := nrm 0 (nI 0)) rfl (nrm_0 _)
  replace e := ite_f c8 e
  by_cases c9 : a1 = nI 7
  · replace e := ite_t c9 e
    refine eb_n 1 (230, [.ref a0, .int a1, .int a2], [], h) (by rw [c9]; rfl) ?_
    refine eb_n 1 (231, [.ref a0, .int a1, .int a2], [.int (nI 0)], h) (rfl) ?_
    rw [(sp_inj e).1, (sp_inj e).2]
    exact eb_rg (p := nrm 0 (nI 0)) rfl (nrm_0 _)
  replace e := ite_f c9 e
  by_cases c10 : a1 = nI 8
  · replace e := ite_t c10 e
    refine eb_n 1 (230, [.ref a0, .int a1, .int a2], [], h) (by rw [c10]; rfl) ?_
    refine eb_n 1 (231, [.ref a0, .int a1, .int a2], [.int (nI 0)], h) (rfl) ?_
    rw [(sp_inj e).1, (sp_inj e).2]
    exact eb_rg (p := nrm 0 (nI 0)) rfl (nrm_0 _)
  replace e := ite_f c10 e
  by_cases c11 : a1 = nI 9
  · replace e := ite_t c11 e
    refine eb_n 1 (230, [.ref a0, .int a1, .int a2], [], h) (by rw [c11]; rfl) ?_
    refine eb_n 1 (231, [.ref a0, .int a1, .int a2], [.int (nI 0)], h) (rfl) ?_
    rw [(sp_inj e).1, (sp_inj e).2]
    exact eb_rg (p := nrm 0 (nI 0)) rfl (nrm_0 _)
  replace e := ite_f c11 e
  by_cases c12 : a1 = nI 10
  · replace e := ite_t c12 e
    refine eb_n 1 (230, [.ref a0, .int a1, .int a2], [], h) (by rw [c12]; rfl) ?_
    refine eb_n 1 (231, [.ref a0, .int a1, .int a2], [.int (nI 0)], h) (rfl) ?_
    rw [(sp_inj e).1, (sp_inj e).2]
    exact eb_rg (p := nrm 0 (nI 0)) rfl (nrm_0 _)
  replace e := ite_f c12 e
  by_cases c13 : a1 = nI 11
  · replace e := ite_t c13 e
    refine eb_n 1 (230, [.ref a0, .int a1, .int a2], [], h) (by rw [c13]; rfl) ?_
    refine eb_n 1 (231, [.ref a0, .int a1, .int a2], [.int (nI 0)], h) (rfl) ?_
    rw [(sp_inj e).1, (sp_inj e).2]
    exact eb_rg (p := nrm 0 (nI 0)) rfl (nrm_0 _)
  replace e := ite_f c13 e
  by_cases c14 : a1 = nI 12
  · replace e := ite_t c14 e
    refine eb_n 1 (230, [.ref a0, .int a1, .int a2], [], h) (by rw [c14]; rfl) ?_
    refine eb_n 1 (231, [.ref a0, .int a1, .int a2], [.int (nI 0)], h) (rfl) ?_
    rw [(sp_inj e).1, (sp_inj e).2]
    exact eb_rg (p := nrm 0 (nI 0)) rfl (nrm_0 _)
  replace e := ite_f c14 e
  by_cases c15 : a1 = nI 13
  · replace e := ite_t c15 e
    refine eb_n 1 (230, [.ref a0, .int a1, .int a2], [], h) (by rw [c15]; rfl) ?_
    refine eb_n 1 (231, [.ref a0, .int a1, .int a2], [.int (nI 0)], h) (rfl) ?_
    rw [(sp_inj e).1, (sp_inj e).2]
    exact eb_rg (p := nrm 0 (nI 0)) rfl (nrm_0 _)
  replace e := ite_f c15 e
  by_cases c16 : a1 = nI 14
  · replace e := ite_t c16 e
    refine eb_n 1 (230, [.ref a0, .int a1, .int a2], [], h) (by rw [c16]; rfl) ?_
    refine eb_n 1 (231, [.ref a0, .int a1, .int a2], [.int (nI 0)], h) (rfl) ?_
    rw [(sp_inj e).1, (sp_inj e).2]
    exact eb_rg (p := nrm 0 (nI 0)) rfl (nrm_0 _)
  replace e := ite_f c16 e
  by_cases c17 : a1 = nI 15
  · replace e := ite_t c17 e
    refine eb_n 1 (230, [.ref a0, .int a1, .int a2], [], h) (by rw [c17]; rfl) ?_
    refine eb_n 1 (231, [.ref a0, .int a1, .int a2], [.int (nI 0)], h) (rfl) ?_
    rw [(sp_inj e).1, (sp_inj e).2]
    exact eb_rg (p := nrm 0 (nI 0)) rfl (nrm_0 _)
  replace e := ite_f c17 e
  by_cases c18 : a1 = nI 16
  · replace e := ite_t c18 e
    refine eb_n 1 (230, [.ref a0, .int a1, .int a2], [], h) (by rw [c18]; rfl) ?_
    refine eb_n 1 (231, [.ref a0, .int a1, .int a2], [.int (nI 0)], h) (rfl) ?_
    rw [(sp_inj e).1, (sp_inj e).2]
    exact eb_rg (p := nrm 0 (nI 0)) rfl (nrm_0 _)
  replace e := ite_f c18 e
  by_cases c19 : a1 = nI 17
  · replace e := ite_t c19 e
    refine eb_n 1 (193, [.ref a0, .int a1, .int a2], [], h) (by rw [c19]; rfl) ?_
    refine eb_n 3 (196, [.ref a0, .int a1, .int a2], [.int (nI 3), .int a2, .ref a0], h) (rfl) ?_
    obtain ⟨g20, e⟩ := gd_some e
    obtain ⟨h21, r22, eh21, e⟩ := bn_some e
    refine eb_cg (p := hT h a0 = 3) rfl g20 (f_River_ofGrade_ev d (Nat.le_trans (by decide) hd) eh21) ?_
    show Eb _ 206 (199, [.ref a0, .int a1, .int a2], [.int r22], h21) _ _
    rw [(sp_inj e).1, (sp_inj e).2]
    exact eb_rg (p := nrm 0 r22) rfl (nrm_0 _)
  replace e := ite_f c19 e
  by_cases c23 : a1 = nI 18
  · replace e := ite_t c23 e
    refine eb_n 1 (230, [.ref a0, .int a1, .int a2], [], h) (by rw [c23]; rfl) ?_
    refine eb_n 1 (231, [.ref a0, .int a1, .int a2], [.int (nI 0)], h) (rfl) ?_
    rw [(sp_inj e).1, (sp_inj e).2]
    exact eb_rg (p := nrm 0 (nI 0)) rfl (nrm_0 _)
  replace e := ite_f c23 e
  by_cases c24 : a1 = nI 19
  · replace e := ite_t c24 e
    refine eb_n 1 (230, [.ref a0, .int a1, .int a2], [], h) (by rw [c24]; rfl) ?_
    refine eb_n 1 (231, [.ref a0, .int a1, .int a2], [.int (nI 0)], h) (rfl) ?_
    rw [(sp_inj e).1, (sp_inj e).2]
    exact eb_rg (p := nrm 0 (nI 0)) rfl (nrm_0 _)
  replace e := ite_f c24 e
  by_cases c25 : a1 = nI 20
  · replace e := ite_t c25 e
    refine eb_n 1 (230, [.ref a0, .int a1, .int a2], [], h) (by rw [c25]; rfl) ?_
    refine eb_n 1 (231, [.ref a0, .int a1, .int a2], [.int (nI 0)], h) (rfl) ?_
    rw [(sp_inj e).1, (sp_inj e).2]
    exact eb_rg (p := nrm 0 (nI 0)) rfl (nrm_0 _)
  replace e := ite_f c25 e
  by_cases c26 : a1 = nI 21
  · replace e := ite_t c26 e
    refine eb_n 1 (230, [.ref a0, .int a1, .int a2], [], h) (by rw [c26]; rfl) ?_
    refine eb_n 1 (231, [.ref a0, .int a1, .int a2], [.int (nI 0)], h) (rfl) ?_
    rw [(sp_inj e).1, (sp_inj e).2]
    exact eb_rg (p := nrm 0 (nI 0)) rfl (nrm_0 _)
  replace e := ite_f c26 e
  by_cases c27 : a1 = nI 22
  · replace e := ite_t c27 e
    refine eb_n 1 (230, [.ref a0, .int a1, .int a2], [], h) (by rw [c27]; rfl) ?_
    refine eb_n 1 (231, [.ref a0, .int a1, .int a2], [.int (nI 0)], h) (rfl) ?_
    rw [(sp_inj e).1, (sp_inj e).2]
    exact eb_rg (p := nrm 0 (nI 0)) rfl (nrm_0 _)
  replace e := ite_f c27 e
  by_cases c28 : a1 = nI 23
  · replace e := ite_t c28 e
    refine eb_n 1 (230, [.ref a0, .int a1, .int a2], [], h) (by rw [c28]; rfl) ?_
    refine eb_n 1 (231, [.ref a0, .int a1, .int a2], [.int (nI 0)], h) (rfl) ?_
    rw [(sp_inj e).1, (sp_inj e).2]
    exact eb_rg (p := nrm 0 (nI 0)) rfl (nrm_0 _)
  replace e := ite_f c28 e
  by_cases c29 : a1 = nI 24
  · replace e := ite_t c29 e
    refine eb_n 1 (230, [.ref a0, .int a1, .int a2], [], h) (by rw [c29]; rfl) ?_
    refine eb_n 1 (231, [.ref a0, .int a1, .int a2], [.int (nI 0)], h) (rfl) ?_
    rw [(sp_inj e).1, (sp_inj e).2]
    exact eb_rg (p := nrm 0 (nI 0)) rfl (nrm_0 _)
  replace e := ite_f c29 e
  by_cases c30 : a1 = nI 25
  · replace e := ite_t c30 e
    refine eb_n 1 (230, [.ref a0, .int a1, .int a2], [], h) (by rw [c30]; rfl) ?_
    refine eb_n 1 (231, [.ref a0, .int a1, .int a2], [.int (nI 0)], h) (rfl) ?_
    rw [(sp_inj e).1, (sp_inj e).2]
    exact eb_rg (p := nrm 0 (nI 0)) rfl (nrm_0 _)
  replace e := ite_f c30 e
  by_cases c31 : a1 = nI 26
  · replace e := ite_t c31 e
    refine eb_n 1 (230, [.ref a0, .int a1, .int a2], [], h) (by rw [c31]; rfl) ?_
    refine eb_n 1 (231, [.ref a0, .int a1, .int a2], [.int (nI 0)], h) (rfl) ?_
    rw [(sp_inj e).1, (sp_inj e).2]
    exact eb_rg (p := nrm 0 (nI 0)) rfl (nrm_0 _)
  replace e := ite_f c31 e
  by_cases c32 : a1 = nI 27
  · replace e := ite_t c32 e
    refine eb_n 1 (148, [.ref a0, .int a1, .int a2], [], h) (by rw [c32]; rfl) ?_
    refine eb_n 1 (149, [.ref a0, .int a1, .int a2], [.ref a0], h) (rfl) ?_
    obtain ⟨g33, e⟩ := gd_some e
    obtain ⟨h34, r35, eh34, e⟩ := bn_some e
    refine eb_cg (p := hT h a0 = 3) rfl g33 (f_River_hourOfDay_ev d (Nat.le_trans (by decide) hd) eh34) ?_
    show Eb _ 206 (152, [.ref a0, .int a1, .int a2], [.int r35], h34) _ _
    rw [(sp_inj e).1, (sp_inj e).2]
    exact eb_rg (p := nrm 0 r35) rfl (nrm_0 _)
  replace e := ite_f c32 e
  by_cases c36 : a1 = nI 28
  · replace e := ite_t c36 e
    refine eb_n 1 (153, [.ref a0, .int a1, .int a2], [], h) (by rw [c36]; rfl) ?_
    refine eb_n 1 (154, [.ref a0, .int a1, .int a2], [.ref a0], h) (rfl) ?_
    obtain ⟨g37, e⟩ := gd_some e
    refine eb_g (p := hT h a0 = 3) (157, [.ref a0, .int a1, .int a2], [.int (hI h a0 12)], h) rfl g37 ?_
    rw [(sp_inj e).1, (sp_inj e).2]
    exact eb_rg (p := nrm 0 (hI h a0 12)) rfl (nrm_0 _)
  replace e := ite_f c36 e
  by_cases c38 : a1 = nI 29
  · replace e := ite_t c38 e
    refine eb_n 1 (172, [.ref a0, .int a1, .int a2], [], h) (by rw [c38]; rfl) ?_
    refine eb_n 3 (175, [.ref a0, .int a1, .int a2], [.int (nI 3), .int a2, .ref a0], h) (rfl) ?_
    obtain ⟨g39, e⟩ := gd_some e
    obtain ⟨h40, r41, eh40, e⟩ := bn_some e
    refine eb_cg (p := hT h a0 = 3) rfl g39 (f_River_ofPeeler_ev d (Nat.le_trans (by decide) hd) eh40) ?_
    show Eb _ 206 (178, [.ref a0, .int a1, .int a2], [.int r41], h40) _ _
    rw [(sp_inj e).1, (sp_inj e).2]
    exact eb_rg (p := nrm 0 r41) rfl (nrm_0 _)
  replace e := ite_f c38 e
  by_cases c42 : a1 = nI 30
  · replace e := ite_t c42 e
    refine eb_n 1 (165, [.ref a0, .int a1, .int a2], [], h) (by rw [c42]; rfl) ?_
    refine eb_n 3 (168, [.ref a0, .int a1, .int a2], [.int (nI 1), .int a2, .ref a0], h) (rfl) ?_
    obtain ⟨g43, e⟩ := gd_some e
    obtain ⟨h44, r45, eh44, e⟩ := bn_some e
    refine eb_cg (p := hT h a0 = 3) rfl g43 (f_River_ofRack_ev d (Nat.le_trans (by decide) hd) eh44) ?_
    show Eb _ 206 (171, [.ref a0, .int a1, .int a2], [.int r45], h44) _ _
    rw [(sp_inj e).1, (sp_inj e).2]
    exact eb_rg (p := nrm 0 r45) rfl (nrm_0 _)
  replace e := ite_f c42 e
  by_cases c46 : a1 = nI 31
  · replace e := ite_t c46 e
    refine eb_n 1 (186, [.ref a0, .int a1, .int a2], [], h) (by rw [c46]; rfl) ?_
    refine eb_n 3 (189, [.ref a0, .int a1, .int a2], [.int (nI 0), .int a2, .ref a0], h) (rfl) ?_
    obtain ⟨g47, e⟩ := gd_some e
    obtain ⟨h48, r49, eh48, e⟩ := bn_some e
    refine eb_cg (p := hT h a0 = 3) rfl g47 (f_River_ofGrade_ev d (Nat.le_trans (by decide) hd) eh48) ?_
    show Eb _ 206 (192, [.ref a0, .int a1, .int a2], [.int r49], h48) _ _
    rw [(sp_inj e).1, (sp_inj e).2]
    exact eb_rg (p := nrm 0 r49) rfl (nrm_0 _)
  replace e := ite_f c46 e
  by_cases c50 : a1 = nI 32
  · replace e := ite_t c50 e
    refine eb_n 1 (179, [.ref a0, .int a1, .int a2], [], h) (by rw [c50]; rfl) ?_
    refine eb_n 3 (182, [.ref a0, .int a1, .int a2], [.int (nI 2), .int a2, .ref a0], h) (rfl) ?_
    obtain ⟨g51, e⟩ := gd_some e
    obtain ⟨h52, r53, eh52, e⟩ := bn_some e
    refine eb_cg (p := hT h a0 = 3) rfl g51 (f_River_ofBoat_ev d (Nat.le_trans (by decide) hd) eh52) ?_
    show Eb _ 206 (185, [.ref a0, .int a1, .int a2], [.int r53], h52) _ _
    rw [(sp_inj e).1, (sp_inj e).2]
    exact eb_rg (p := nrm 0 r53) rfl (nrm_0 _)
  replace e := ite_f c50 e
  by_cases c54 : a1 = nI 33
  · replace e := ite_t c54 e
    refine eb_n 1 (200, [.ref a0, .int a1, .int a2], [], h) (by rw [c54]; rfl) ?_
    refine eb_n 3 (203, [.ref a0, .int a1, .int a2], [.int (nI 3), .int a2, .ref a0], h) (rfl) ?_
    obtain ⟨g55, e⟩ := gd_some e
    obtain ⟨h56, r57, eh56, e⟩ := bn_some e
    refine eb_cg (p := hT h a0 = 3) rfl g55 (f_River_ofBoat_ev d (Nat.le_trans (by decide) hd) eh56) ?_
    show Eb _ 206 (206, [.ref a0, .int a1, .int a2], [.int r57], h56) _ _
    refine eb_b (c := ¬ r57 = 0) (213, [.ref a0, .int a1, .int a2], [], h56) (209, [.ref a0, .int a1, .int a2], [], h56) rfl (fun c58 => ?_) (fun c58 => ?_)
    · replace e := ite_t c58 e
      refine eb_n 1 (214, [.ref a0, .int a1, .int a2], [.int (nI 1)], h56) (rfl) ?_
      rw [(sp_inj e).1, (sp_inj e).2]
      exact eb_rg (p := nrm 0 (nI 1)) rfl (nrm_0 _)
    · replace e := ite_f c58 e
      refine eb_n 2 (214, [.ref a0, .int a1, .int a2], [.int (nI 0)], h56) (rfl) ?_
      rw [(sp_inj e).1, (sp_inj e).2]
      exact eb_rg (p := nrm 0 (nI 0)) rfl (nrm_0 _)
  replace e := ite_f c54 e
  by_cases c59 : a1 = nI 34
  · replace e := ite_t c59 e
    refine eb_n 1 (215, [.ref a0, .int a1, .int a2], [], h) (by rw [c59]; rfl) ?_
    refine eb_n 3 (218, [.ref a0, .int a1, .int a2], [.int (nI 3), .int a2, .ref a0], h) (rfl) ?_
    obtain ⟨g60, e⟩ := gd_some e
    obtain ⟨h61, r62, eh61, e⟩ := bn_some e
    refine eb_cg (p := hT h a0 = 3) rfl g60 (f_River_ofPeeler_ev d (Nat.le_trans (by decide) hd) eh61) ?_
    show Eb _ 206 (221, [.ref a0, .int a1, .int a2], [.int r62], h61) _ _
    refine eb_b (c := ¬ r62 = 0) (228, [.ref a0, .int a1, .int a2], [], h61) (224, [.ref a0, .int a1, .int a2], [], h61) rfl (fun c63 => ?_) (fun c63 => ?_)
    · replace e := ite_t c63 e
      refine eb_n 1 (229, [.ref a0, .int a1, .int a2], [.int (nI 0)], h61) (rfl) ?_
      rw [(sp_inj e).1, (sp_inj e).2]
      exact eb_rg (p := nrm 0 (nI 0)) rfl (nrm_0 _)
    · replace e := ite_f c63 e
      refine eb_n 2 (229, [.ref a0, .int a1, .int a2], [.int (nI 1)], h61) (rfl) ?_
      rw [(sp_inj e).1, (sp_inj e).2]
      exact eb_rg (p := nrm 0 (nI 1)) rfl (nrm_0 _)
  replace e := ite_f c59 e
  refine eb_1 (f' := (230, [.ref a0, .int a1, .int a2], [], h)) (tsw_d (tsw_out (x := a1) (lo := 2) (n := 33) (by decide) (by decide) (fun k hk => match k, hk with | 0, _ => c1 | 1, _ => c5 | 2, _ => c6 | 3, _ => c7 | 4, _ => c8 | 5, _ => c9 | 6, _ => c10 | 7, _ => c11 | 8, _ => c12 | 9, _ => c13 | 10, _ => c14 | 11, _ => c15 | 12, _ => c16 | 13, _ => c17 | 14, _ => c18 | 15, _ => c19 | 16, _ => c23 | 17, _ => c24 | 18, _ => c25 | 19, _ => c26 | 20, _ => c27 | 21, _ => c28 | 22, _ => c29 | 23, _ => c30 | 24, _ => c31 | 25, _ => c32 | 26, _ => c36 | 27, _ => c38 | 28, _ => c42 | 29, _ => c46 | 30, _ => c50 | 31, _ => c54 | 32, _ => c59 | k + 33, hk => absurd hk (by omega))) rfl rfl) ?_
  refine eb_n 1 (231, [.ref a0, .int a1, .int a2], [.int (nI 0)], h) (rfl) ?_
  rw [(sp_inj e).1, (sp_inj e).2]
  exact eb_rg (p := nrm 0 (nI 0)) rfl (nrm_0 _)
set_option maxRecDepth 100000 in
set_option maxHeartbeats 4000000 in
theorem f_Orders_take_b136_ev {h' : AH} (d : Nat) (hd : 3 ≤ d)  (h : AH)  (s0 : Nat) (s1 : Int32) (d0 : Value) (d1 : Value) (d2 : Value) (d3 : Value) (d4 : Value) (e : f_Orders_take_b136  h s0 s1 = some h') : Eb (Ev tb mL d) 176 (136, [d0, d1, d2, d3, d4], [.int s1, .ref s0], h) h' none := by
  unfold f_Orders_take_b136 at e
  obtain ⟨g1, e⟩ := gd_some e
  obtain ⟨h2, eh2, e⟩ := bv_some e
  refine eb_cg (p := hT h s0 = 2) rfl g1 (f_Orders_push_ev d (Nat.le_trans (by decide) hd) eh2) ?_
  show Eb _ 176 (139, [d0, d1, d2, d3, d4], [], h2) _ _
  refine eb_n 1 (182, [d0, d1, d2, d3, d4], [], h2) (rfl) ?_
  rw [sv_inj e]
  exact eb_r rfl
set_option maxRecDepth 100000 in
set_option maxHeartbeats 4000000 in
theorem f_Orders_take_ev (d0 : Nat) (hd0 : 4 ≤ d0) {h' : AH} {h : AH} {a0 : Nat} {a1 : Int32} {a2 : Int32} {a3 : Nat} (e : f_Orders_take h a0 a1 a2 a3 = some h') : Ev tb mL d0 176 [.ref a0, .int a1, .int a2, .ref a3] h h' none := by
  obtain ⟨d, rfl⟩ : ∃ d, d0 = d + 1 := ⟨d0 - 1, by omega⟩
  have hd : 3 ≤ d := by omega
  refine ⟨Nat.le_of_ble_eq_true rfl, ?_⟩
  show Eb (Ev tb mL d) 176 (0, [.ref a0, .int a1, .int a2, .ref a3, .retAddr 0], [], h) h' none
  unfold f_Orders_take at e
  refine eb_n 1 (1, [.ref a0, .int a1, .int a2, .ref a3, .retAddr 0], [.int a1], h) (rfl) ?_
  by_cases c1 : a1 = nI 22
  · replace e := ite_t c1 e
    refine eb_n 1 (68, [.ref a0, .int a1, .int a2, .ref a3, .retAddr 0], [], h) (by rw [c1]; rfl) ?_
    refine eb_n 3 (71, [.ref a0, .int a1, .int a2, .ref a3, .retAddr 0], [.ref a3, .int a2, .ref a0], h) (rfl) ?_
    obtain ⟨g2, e⟩ := gd_some e
    obtain ⟨h3, eh3, e⟩ := bv_some e
    refine eb_cg (p := hT h a0 = 2) rfl g2 (f_Orders_whetByOrder_ev d (Nat.le_trans (by decide) hd) eh3) ?_
    show Eb _ 176 (74, [.ref a0, .int a1, .int a2, .ref a3, .retAddr 0], [], h3) _ _
    refine eb_n 1 (182, [.ref a0, .int a1, .int a2, .ref a3, .retAddr 0], [], h3) (rfl) ?_
    rw [sv_inj e]
    exact eb_r rfl
  replace e := ite_f c1 e
  by_cases c4 : a1 = nI 23
  · replace e := ite_t c4 e
    refine eb_n 1 (77, [.ref a0, .int a1, .int a2, .ref a3, .retAddr 0], [], h) (by rw [c4]; rfl) ?_
    refine eb_n 3 (80, [.ref a0, .int a1, .int a2, .ref a3, .retAddr 0], [.ref a3, .int a2, .ref a0], h) (rfl) ?_
    obtain ⟨g5, e⟩ := gd_some e
    obtain ⟨h6, eh6, e⟩ := bv_some e
    refine eb_cg (p := hT h a0 = 2) rfl g5 (f_Orders_loadByOrder_ev d (Nat.le_trans (by decide) hd) eh6) ?_
    show Eb _ 176 (83, [.ref a0, .int a1, .int a2, .ref a3, .retAddr 0], [], h6) _ _
    refine eb_n 1 (182, [.ref a0, .int a1, .int a2, .ref a3, .retAddr 0], [], h6) (rfl) ?_
    rw [sv_inj e]
    exact eb_r rfl
  replace e := ite_f c4 e
  by_cases c7 : a1 = nI 25
  · replace e := ite_t c7 e
    refine eb_n 1 (86, [.ref a0, .int a1, .int a2, .ref a3, .retAddr 0], [], h) (by rw [c7]; rfl) ?_
    refine eb_n 3 (89, [.ref a0, .int a1, .int a2, .ref a3, .retAddr 0], [.ref a3, .int a2, .ref a0], h) (rfl) ?_
    obtain ⟨g8, e⟩ := gd_some e
    obtain ⟨h9, eh9, e⟩ := bv_some e
    refine eb_cg (p := hT h a0 = 2) rfl g8 (f_Orders_restByOrder_ev d (Nat.le_trans (by decide) hd) eh9) ?_
    show Eb _ 176 (92, [.ref a0, .int a1, .int a2, .ref a3, .retAddr 0], [], h9) _ _
    refine eb_n 1 (182, [.ref a0, .int a1, .int a2, .ref a3, .retAddr 0], [], h9) (rfl) ?_
    rw [sv_inj e]
    exact eb_r rfl
  replace e := ite_f c7 e
  by_cases c10 : a1 = nI 35
  · replace e := ite_t c10 e
    refine eb_n 1 (123, [.ref a0, .int a1, .int a2, .ref a3, .retAddr 0], [], h) (by rw [c10]; rfl) ?_
    refine eb_n 2 (125, [.ref a0, .int a1, .int a2, .ref a3, .retAddr 0], [.ref a0, .ref a0], h) (rfl) ?_
    obtain ⟨g11, e⟩ := gd_some e
    obtain ⟨h12, r13, eh12, e⟩ := bn_some e
    refine eb_cg (p := hT h a0 = 2) rfl g11 (f_Orders_pop_ev d (Nat.le_trans (by decide) hd) eh12) ?_
    show Eb _ 176 (128, [.ref a0, .int a1, .int a2, .ref a3, .retAddr 0], [.int r13, .ref a0], h12) _ _
    refine eb_b (c := ¬ r13 = 0) (135, [.ref a0, .int a1, .int a2, .ref a3, .retAddr 0], [.ref a0], h12) (131, [.ref a0, .int a1, .int a2, .ref a3, .retAddr 0], [.ref a0], h12) rfl (fun c14 => ?_) (fun c14 => ?_)
    · replace e := ite_t c14 e
      refine eb_n 1 (136, [.ref a0, .int a1, .int a2, .ref a3, .retAddr 0], [.int (nI 0), .ref a0], h12) (rfl) ?_
      exact f_Orders_take_b136_ev d hd   _ _ _ _ _ _ _ _ e
    · replace e := ite_f c14 e
      refine eb_n 2 (136, [.ref a0, .int a1, .int a2, .ref a3, .retAddr 0], [.int (nI 1), .ref a0], h12) (rfl) ?_
      exact f_Orders_take_b136_ev d hd   _ _ _ _ _ _ _ _ e
  replace e := ite_f c10 e
  by_cases c15 : a1 = nI 56
  · replace e := ite_t c15 e
    refine eb_n 1 (95, [.ref a0, .int a1, .int a2, .ref a3, .retAddr 0], [], h) (by rw [c15]; rfl) ?_
    refine eb_n 2 (97, [.ref a0, .int a1, .int a2, .ref a3, .retAddr 0], [.int a2, .ref a0], h) (rfl) ?_
    obtain ⟨g16, e⟩ := gd_some e
    obtain ⟨h17, eh17, e⟩ := bv_some e
    refine eb_cg (p := hT h a0 = 2) rfl g16 (f_Orders_push_ev d (Nat.le_trans (by decide) hd) eh17) ?_
    show Eb _ 176 (100, [.ref a0, .int a1, .int a2, .ref a3, .retAddr 0], [], h17) _ _
    refine eb_n 1 (182, [.ref a0, .int a1, .int a2, .ref a3, .retAddr 0], [], h17) (rfl) ?_
    rw [sv_inj e]
    exact eb_r rfl
  replace e := ite_f c15 e
  by_cases c18 : a1 = nI 59
  · replace e := ite_t c18 e
    refine eb_n 1 (111, [.ref a0, .int a1, .int a2, .ref a3, .retAddr 0], [], h) (by rw [c18]; rfl) ?_
    refine eb_n 2 (113, [.ref a0, .int a1, .int a2, .ref a3, .retAddr 0], [.ref a0, .ref a0], h) (rfl) ?_
    obtain ⟨g19, e⟩ := gd_some e
    obtain ⟨h20, r21, eh20, e⟩ := bn_some e
    refine eb_cg (p := hT h a0 = 2) rfl g19 (f_Orders_pop_ev d (Nat.le_trans (by decide) hd) eh20) ?_
    show Eb _ 176 (116, [.ref a0, .int a1, .int a2, .ref a3, .retAddr 0], [.int r21, .ref a0], h20) _ _
    refine eb_n 1 (117, [.ref a0, .int a1, .int a2, .ref a3, .retAddr 0], [.int (-r21), .ref a0], h20) (rfl) ?_
    obtain ⟨g22, e⟩ := gd_some e
    obtain ⟨h23, eh23, e⟩ := bv_some e
    refine eb_cg (p := hT h20 a0 = 2) rfl g22 (f_Orders_push_ev d (Nat.le_trans (by decide) hd) eh23) ?_
    show Eb _ 176 (120, [.ref a0, .int a1, .int a2, .ref a3, .retAddr 0], [], h23) _ _
    refine eb_n 1 (182, [.ref a0, .int a1, .int a2, .ref a3, .retAddr 0], [], h23) (rfl) ?_
    rw [sv_inj e]
    exact eb_r rfl
  replace e := ite_f c18 e
  by_cases c24 : a1 = nI 60
  · replace e := ite_t c24 e
    refine eb_n 1 (103, [.ref a0, .int a1, .int a2, .ref a3, .retAddr 0], [], h) (by rw [c24]; rfl) ?_
    refine eb_n 2 (105, [.ref a0, .int a1, .int a2, .ref a3, .retAddr 0], [.int (nI 1), .ref a0], h) (rfl) ?_
    obtain ⟨g25, e⟩ := gd_some e
    obtain ⟨h26, eh26, e⟩ := bv_some e
    refine eb_cg (p := hT h a0 = 2) rfl g25 (f_Orders_push_ev d (Nat.le_trans (by decide) hd) eh26) ?_
    show Eb _ 176 (108, [.ref a0, .int a1, .int a2, .ref a3, .retAddr 0], [], h26) _ _
    refine eb_n 1 (182, [.ref a0, .int a1, .int a2, .ref a3, .retAddr 0], [], h26) (rfl) ?_
    rw [sv_inj e]
    exact eb_r rfl
  replace e := ite_f c24 e
  refine eb_1 (f' := (142, [.ref a0, .int a1, .int a2, .ref a3, .retAddr 0], [], h)) (lsw_d (x := a1) rfl (lsw_c (ne_toInt (k := 22) (by decide) c1) (lsw_c (ne_toInt (k := 23) (by decide) c4) (lsw_c (ne_toInt (k := 25) (by decide) c7) (lsw_c (ne_toInt (k := 35) (by decide) c10) (lsw_c (ne_toInt (k := 56) (by decide) c15) (lsw_c (ne_toInt (k := 59) (by decide) c18) (lsw_c (ne_toInt (k := 60) (by decide) c24) lsw_e)))))))) ?_
  refine eb_n 1 (143, [.ref a0, .int a1, .int a2, .ref a3, .retAddr 0], [.int a1], h) (rfl) ?_
  obtain ⟨h27, r28, eh27, e⟩ := bn_some e
  refine eb_c rfl (f_Orders_joinsTwo_ev d (Nat.le_trans (by decide) hd) eh27) ?_
  show Eb _ 176 (146, [.ref a0, .int a1, .int a2, .ref a3, .retAddr 0], [.int r28], h27) _ _
  refine eb_b (c := r28 = 0) (172, [.ref a0, .int a1, .int a2, .ref a3, .retAddr 0], [], h27) (149, [.ref a0, .int a1, .int a2, .ref a3, .retAddr 0], [], h27) rfl (fun c29 => ?_) (fun c29 => ?_)
  · replace e := ite_t c29 e
    refine eb_n 4 (176, [.ref a0, .int a1, .int a2, .ref a3, .retAddr 0], [.int a2, .int a1, .ref a3, .ref a0], h27) (rfl) ?_
    obtain ⟨g30, e⟩ := gd_some e
    obtain ⟨h31, r32, eh31, e⟩ := bn_some e
    refine eb_cg (p := hT h27 a3 = 3) rfl g30 (f_River_told_ev d (Nat.le_trans (by decide) hd) eh31) ?_
    show Eb _ 176 (179, [.ref a0, .int a1, .int a2, .ref a3, .retAddr 0], [.int r32, .ref a0], h31) _ _
    obtain ⟨g33, e⟩ := gd_some e
    obtain ⟨h34, eh34, e⟩ := bv_some e
    refine eb_cg (p := hT h31 a0 = 2) rfl g33 (f_Orders_push_ev d (Nat.le_trans (by decide) hd) eh34) ?_
    show Eb _ 176 (182, [.ref a0, .int a1, .int a2, .ref a3, .retAddr 0], [], h34) _ _
    rw [sv_inj e]
    exact eb_r rfl
  · replace e := ite_f c29 e
    refine eb_n 1 (150, [.ref a0, .int a1, .int a2, .ref a3, .retAddr 0], [.ref a0], h27) (rfl) ?_
    obtain ⟨g35, e⟩ := gd_some e
    obtain ⟨h36, r37, eh36, e⟩ := bn_some e
    refine eb_cg (p := hT h27 a0 = 2) rfl g35 (f_Orders_pop_ev d (Nat.le_trans (by decide) hd) eh36) ?_
    show Eb _ 176 (153, [.ref a0, .int a1, .int a2, .ref a3, .retAddr 0], [.int r37], h36) _ _
    refine eb_n 4 (158, [.ref a0, .int a1, .int a2, .ref a3, .int r37], [.ref a0, .int a1, .ref a0], h36) (rfl) ?_
    obtain ⟨g38, e⟩ := gd_some e
    obtain ⟨h39, r40, eh39, e⟩ := bn_some e
    refine eb_cg (p := hT h36 a0 = 2) rfl g38 (f_Orders_pop_ev d (Nat.le_trans (by decide) hd) eh39) ?_
    show Eb _ 176 (161, [.ref a0, .int a1, .int a2, .ref a3, .int r37], [.int r40, .int a1, .ref a0], h39) _ _
    refine eb_n 1 (163, [.ref a0, .int a1, .int a2, .ref a3, .int r37], [.int r37, .int r40, .int a1, .ref a0], h39) (rfl) ?_
    obtain ⟨h41, r42, eh41, e⟩ := bn_some e
    refine eb_c rfl (f_Orders_join_ev d (Nat.le_trans (by decide) hd) eh41) ?_
    show Eb _ 176 (166, [.ref a0, .int a1, .int a2, .ref a3, .int r37], [.int r42, .ref a0], h41) _ _
    obtain ⟨g43, e⟩ := gd_some e
    obtain ⟨h44, eh44, e⟩ := bv_some e
    refine eb_cg (p := hT h41 a0 = 2) rfl g43 (f_Orders_push_ev d (Nat.le_trans (by decide) hd) eh44) ?_
    show Eb _ 176 (169, [.ref a0, .int a1, .int a2, .ref a3, .int r37], [], h44) _ _
    refine eb_n 1 (182, [.ref a0, .int a1, .int a2, .ref a3, .int r37], [], h44) (rfl) ?_
    rw [sv_inj e]
    exact eb_r rfl
set_option maxRecDepth 100000 in
set_option maxHeartbeats 4000000 in
theorem f_Orders_carryOut_b7_ev {h' : AH} (d : Nat) (hd : 4 ≤ d) (k7 : AH → Nat → Nat → Int32 → Option AH) (hk7 : ∀ (h : AH) (a0 : Nat) (a1 : Nat) (a2 : Int32)  , k7 h a0 a1 a2 = some h' → Eb (Ev tb mL d) 143 (7, [.ref a0, .ref a1, .int a2], [], h) h' none)  (h : AH) (a0 : Nat) (a1 : Nat) (a2 : Int32)   (e : f_Orders_carryOut_b7 k7 h a0 a1 a2 = some h') : Eb (Ev tb mL d) 143 (7, [.ref a0, .ref a1, .int a2], [], h) h' none := by
  unfold f_Orders_carryOut_b7 at e
  refine eb_n 2 (9, [.ref a0, .ref a1, .int a2], [.ref a0, .int a2], h) (rfl) ?_
  obtain ⟨g1, e⟩ := gd_some e
  refine eb_g (p := hT h a0 = 2) (12, [.ref a0, .ref a1, .int a2], [.int (hI h a0 2), .int a2], h) rfl g1 ?_
  refine eb_b (c := (hI h a0 2) ≤ a2) (56, [.ref a0, .ref a1, .int a2], [], h) (15, [.ref a0, .ref a1, .int a2], [], h) rfl (fun c2 => ?_) (fun c2 => ?_)
  · replace e := ite_t c2 e
    rw [sv_inj e]
    exact eb_r rfl
  · replace e := ite_f c2 e
    refine eb_n 2 (17, [.ref a0, .ref a1, .int a2], [.ref a0, .int a2], h) (rfl) ?_
    refine eb_g (p := hT h a0 = 2) (20, [.ref a0, .ref a1, .int a2], [.ref (hR h a0 0), .int a2], h) rfl g1 ?_
    obtain ⟨g3, e⟩ := gd_some e
    refine eb_g (p := hT h (hR h a0 0) = 101) (21, [.ref a0, .ref a1, .int a2], [.int (nI (hL h (hR h a0 0))), .int a2], h) rfl g3 ?_
    refine eb_b (c := (nI (hL h (hR h a0 0))) ≤ a2) (56, [.ref a0, .ref a1, .int a2], [], h) (24, [.ref a0, .ref a1, .int a2], [], h) rfl (fun c4 => ?_) (fun c4 => ?_)
    · replace e := ite_t c4 e
      rw [sv_inj e]
      exact eb_r rfl
    · replace e := ite_f c4 e
      refine eb_n 2 (26, [.ref a0, .ref a1, .int a2], [.ref a0, .int a2], h) (rfl) ?_
      refine eb_g (p := hT h a0 = 2) (29, [.ref a0, .ref a1, .int a2], [.ref (hR h a0 1), .int a2], h) rfl g1 ?_
      obtain ⟨g5, e⟩ := gd_some e
      refine eb_g (p := hT h (hR h a0 1) = 101) (30, [.ref a0, .ref a1, .int a2], [.int (nI (hL h (hR h a0 1))), .int a2], h) rfl g5 ?_
      refine eb_b (c := (nI (hL h (hR h a0 1))) ≤ a2) (56, [.ref a0, .ref a1, .int a2], [], h) (33, [.ref a0, .ref a1, .int a2], [], h) rfl (fun c6 => ?_) (fun c6 => ?_)
      · replace e := ite_t c6 e
        rw [sv_inj e]
        exact eb_r rfl
      · replace e := ite_f c6 e
        refine eb_n 2 (35, [.ref a0, .ref a1, .int a2], [.ref a0, .ref a0], h) (rfl) ?_
        refine eb_g (p := hT h a0 = 2) (38, [.ref a0, .ref a1, .int a2], [.ref (hR h a0 0), .ref a0], h) rfl g1 ?_
        refine eb_n 1 (39, [.ref a0, .ref a1, .int a2], [.int a2, .ref (hR h a0 0), .ref a0], h) (rfl) ?_
        obtain ⟨g7, e⟩ := gd_some e
        refine eb_g (p := hT h (hR h a0 0) = 101 ∧ inb a2 (hL h (hR h a0 0))) (40, [.ref a0, .ref a1, .int a2], [.int (hI h (hR h a0 0) (ix a2)), .ref a0], h) rfl g7 ?_
        refine eb_n 1 (41, [.ref a0, .ref a1, .int a2], [.ref a0, .int (hI h (hR h a0 0) (ix a2)), .ref a0], h) (rfl) ?_
        refine eb_g (p := hT h a0 = 2) (44, [.ref a0, .ref a1, .int a2], [.ref (hR h a0 1), .int (hI h (hR h a0 0) (ix a2)), .ref a0], h) rfl g1 ?_
        refine eb_n 1 (45, [.ref a0, .ref a1, .int a2], [.int a2, .ref (hR h a0 1), .int (hI h (hR h a0 0) (ix a2)), .ref a0], h) (rfl) ?_
        obtain ⟨g8, e⟩ := gd_some e
        refine eb_g (p := hT h (hR h a0 1) = 101 ∧ inb a2 (hL h (hR h a0 1))) (46, [.ref a0, .ref a1, .int a2], [.int (hI h (hR h a0 1) (ix a2)), .int (hI h (hR h a0 0) (ix a2)), .ref a0], h) rfl g8 ?_
        refine eb_n 1 (47, [.ref a0, .ref a1, .int a2], [.ref a1, .int (hI h (hR h a0 1) (ix a2)), .int (hI h (hR h a0 0) (ix a2)), .ref a0], h) (rfl) ?_
        obtain ⟨h9, eh9, e⟩ := bv_some e
        refine eb_cg (p := hT h a0 = 2) rfl g1 (f_Orders_take_ev d (Nat.le_trans (by decide) hd) eh9) ?_
        show Eb _ 143 (50, [.ref a0, .ref a1, .int a2], [], h9) _ _
        obtain ⟨x10, hx10, e⟩ := lq_some e
        refine eb_n 1 (53, [.ref a0, .ref a1, .int x10], [], h9) (by subst hx10; rfl) ?_
        refine eb_n 1 (7, [.ref a0, .ref a1, .int x10], [], h9) (rfl) ?_
        exact hk7 _ _ _ _  e
set_option maxRecDepth 100000 in
set_option maxHeartbeats 4000000 in
theorem f_Orders_carryOut_l7_ev {h' : AH} (d : Nat) (hd : 4 ≤ d)  : ∀ (n : Nat) (h : AH) (a0 : Nat) (a1 : Nat) (a2 : Int32)   (_ : f_Orders_carryOut_l7  n h a0 a1 a2 = some h'), Eb (Ev tb mL d) 143 (7, [.ref a0, .ref a1, .int a2], [], h) h' none := by
  intro n
  induction n with
  | zero => intro h a0 a1 a2  e; exact nomatch e
  | succ n ih =>
    intro h a0 a1 a2  e
    exact f_Orders_carryOut_b7_ev d hd _ (fun h a0 a1 a2  e => ih h a0 a1 a2  e) h a0 a1 a2  e
set_option maxRecDepth 100000 in
set_option maxHeartbeats 4000000 in
theorem f_Orders_carryOut_ev (d0 : Nat) (hd0 : 5 ≤ d0) {h' : AH} {h : AH} {a0 : Nat} {a1 : Nat} (e : f_Orders_carryOut h a0 a1 = some h') : Ev tb mL d0 143 [.ref a0, .ref a1] h h' none := by
  obtain ⟨d, rfl⟩ : ∃ d, d0 = d + 1 := ⟨d0 - 1, by omega⟩
  have hd : 4 ≤ d := by omega
  refine ⟨Nat.le_of_ble_eq_true rfl, ?_⟩
  show Eb (Ev tb mL d) 143 (0, [.ref a0, .ref a1, .retAddr 0], [], h) h' none
  unfold f_Orders_carryOut at e
  refine eb_n 2 (2, [.ref a0, .ref a1, .retAddr 0], [.int (nI 0), .ref a0], h) (rfl) ?_
  obtain ⟨g1, e⟩ := gd_some e
  obtain ⟨h2, eh2, e⟩ := lq_some e
  refine eb_g (p := hT h a0 = 2) (5, [.ref a0, .ref a1, .retAddr 0], [], h2) (by rw [eh2]; rfl) g1 ?_
  refine eb_n 2 (7, [.ref a0, .ref a1, .int (nI 0)], [], h2) (rfl) ?_
  exact f_Orders_carryOut_l7_ev d hd   FU _ _ _ _  e
set_option maxRecDepth 100000 in
set_option maxHeartbeats 4000000 in
theorem f_River_growSticks_b2_ev {h' : AH} (d : Nat) (hd : 1 ≤ d) (k2 : AH → Nat → Int32 → Option AH) (hk2 : ∀ (h : AH) (a0 : Nat) (a1 : Int32)  , k2 h a0 a1 = some h' → Eb (Ev tb mL d) 145 (2, [.ref a0, .int a1], [], h) h' none)  (h : AH) (a0 : Nat) (a1 : Int32)   (e : f_River_growSticks_b2 k2 h a0 a1 = some h') : Eb (Ev tb mL d) 145 (2, [.ref a0, .int a1], [], h) h' none := by
  unfold f_River_growSticks_b2 at e
  refine eb_n 2 (4, [.ref a0, .int a1], [.ref a0, .int a1], h) (rfl) ?_
  obtain ⟨g1, e⟩ := gd_some e
  refine eb_g (p := hT h a0 = 3) (7, [.ref a0, .int a1], [.int (hI h a0 6), .int a1], h) rfl g1 ?_
  refine eb_b (c := (hI h a0 6) ≤ a1) (54, [.ref a0, .int a1], [], h) (10, [.ref a0, .int a1], [], h) rfl (fun c2 => ?_) (fun c2 => ?_)
  · replace e := ite_t c2 e
    rw [sv_inj e]
    exact eb_r rfl
  · replace e := ite_f c2 e
    refine eb_n 2 (12, [.ref a0, .int a1], [.int (nI 4), .int a1], h) (rfl) ?_
    refine eb_b (c := (nI 4) ≤ a1) (54, [.ref a0, .int a1], [], h) (15, [.ref a0, .int a1], [], h) rfl (fun c3 => ?_) (fun c3 => ?_)
    · replace e := ite_t c3 e
      rw [sv_inj e]
      exact eb_r rfl
    · replace e := ite_f c3 e
      refine eb_n 1 (16, [.ref a0, .int a1], [.ref a0], h) (rfl) ?_
      refine eb_g (p := hT h a0 = 3) (19, [.ref a0, .int a1], [.ref (hR h a0 0)], h) rfl g1 ?_
      refine eb_n 1 (20, [.ref a0, .int a1], [.int a1, .ref (hR h a0 0)], h) (rfl) ?_
      obtain ⟨g4, e⟩ := gd_some e
      refine eb_g (p := hT h (hR h a0 0) = 104 ∧ inb a1 (hL h (hR h a0 0))) (21, [.ref a0, .int a1], [.ref (hR h (hR h a0 0) (ix a1))], h) rfl g4 ?_
      refine eb_n 2 (24, [.ref a0, .int a1], [.ref a0, .int (nI 99), .ref (hR h (hR h a0 0) (ix a1))], h) (rfl) ?_
      refine eb_g (p := hT h a0 = 3) (27, [.ref a0, .int a1], [.ref (hR h a0 0), .int (nI 99), .ref (hR h (hR h a0 0) (ix a1))], h) rfl g1 ?_
      refine eb_n 1 (28, [.ref a0, .int a1], [.int a1, .ref (hR h a0 0), .int (nI 99), .ref (hR h (hR h a0 0) (ix a1))], h) (rfl) ?_
      refine eb_g (p := hT h (hR h a0 0) = 104 ∧ inb a1 (hL h (hR h a0 0))) (29, [.ref a0, .int a1], [.ref (hR h (hR h a0 0) (ix a1)), .int (nI 99), .ref (hR h (hR h a0 0) (ix a1))], h) rfl g4 ?_
      obtain ⟨g5, e⟩ := gd_some e
      refine eb_g (p := hT h (hR h (hR h a0 0) (ix a1)) = 4) (32, [.ref a0, .int a1], [.int (hI h (hR h (hR h a0 0) (ix a1)) 0), .int (nI 99), .ref (hR h (hR h a0 0) (ix a1))], h) rfl g5 ?_
      refine eb_n 1 (33, [.ref a0, .int a1], [.ref a0, .int (hI h (hR h (hR h a0 0) (ix a1)) 0), .int (nI 99), .ref (hR h (hR h a0 0) (ix a1))], h) (rfl) ?_
      refine eb_g (p := hT h a0 = 3) (36, [.ref a0, .int a1], [.ref (hR h a0 0), .int (hI h (hR h (hR h a0 0) (ix a1)) 0), .int (nI 99), .ref (hR h (hR h a0 0) (ix a1))], h) rfl g1 ?_
      refine eb_n 1 (37, [.ref a0, .int a1], [.int a1, .ref (hR h a0 0), .int (hI h (hR h (hR h a0 0) (ix a1)) 0), .int (nI 99), .ref (hR h (hR h a0 0) (ix a1))], h) (rfl) ?_
      refine eb_g (p := hT h (hR h a0 0) = 104 ∧ inb a1 (hL h (hR h a0 0))) (38, [.ref a0, .int a1], [.ref (hR h (hR h a0 0) (ix a1)), .int (hI h (hR h (hR h a0 0) (ix a1)) 0), .int (nI 99), .ref (hR h (hR h a0 0) (ix a1))], h) rfl g4 ?_
      refine eb_g (p := hT h (hR h (hR h a0 0) (ix a1)) = 4) (41, [.ref a0, .int a1], [.int (hI h (hR h (hR h a0 0) (ix a1)) 1), .int (hI h (hR h (hR h a0 0) (ix a1)) 0), .int (nI 99), .ref (hR h (hR h a0 0) (ix a1))], h) rfl g5 ?_
      refine eb_n 1 (42, [.ref a0, .int a1], [.int ((hI h (hR h (hR h a0 0) (ix a1)) 0) + (hI h (hR h (hR h a0 0) (ix a1)) 1)), .int (nI 99), .ref (hR h (hR h a0 0) (ix a1))], h) (rfl) ?_
      obtain ⟨h6, r7, eh6, e⟩ := bn_some e
      refine eb_c rfl (f_Math_min_ev d (Nat.le_trans (by decide) hd) eh6) ?_
      show Eb _ 145 (45, [.ref a0, .int a1], [.int r7, .ref (hR h (hR h a0 0) (ix a1))], h6) _ _
      obtain ⟨g8, e⟩ := gd_some e
      obtain ⟨h9, eh9, e⟩ := lq_some e
      refine eb_g (p := hT h6 (hR h (hR h a0 0) (ix a1)) = 4) (48, [.ref a0, .int a1], [], h9) (by rw [eh9]; rfl) g8 ?_
      obtain ⟨x10, hx10, e⟩ := lq_some e
      refine eb_n 1 (51, [.ref a0, .int x10], [], h9) (by subst hx10; rfl) ?_
      refine eb_n 1 (2, [.ref a0, .int x10], [], h9) (rfl) ?_
      exact hk2 _ _ _  e
set_option maxRecDepth 100000 in
set_option maxHeartbeats 4000000 in
theorem f_River_growSticks_l2_ev {h' : AH} (d : Nat) (hd : 1 ≤ d)  : ∀ (n : Nat) (h : AH) (a0 : Nat) (a1 : Int32)   (_ : f_River_growSticks_l2  n h a0 a1 = some h'), Eb (Ev tb mL d) 145 (2, [.ref a0, .int a1], [], h) h' none := by
  intro n
  induction n with
  | zero => intro h a0 a1  e; exact nomatch e
  | succ n ih =>
    intro h a0 a1  e
    exact f_River_growSticks_b2_ev d hd _ (fun h a0 a1  e => ih h a0 a1  e) h a0 a1  e
set_option maxRecDepth 100000 in
set_option maxHeartbeats 4000000 in
theorem f_River_growSticks_ev (d0 : Nat) (hd0 : 2 ≤ d0) {h' : AH} {h : AH} {a0 : Nat} (e : f_River_growSticks h a0 = some h') : Ev tb mL d0 145 [.ref a0] h h' none := by
  obtain ⟨d, rfl⟩ : ∃ d, d0 = d + 1 := ⟨d0 - 1, by omega⟩
  have hd : 1 ≤ d := by omega
  refine ⟨Nat.le_of_ble_eq_true rfl, ?_⟩
  show Eb (Ev tb mL d) 145 (0, [.ref a0, .retAddr 0], [], h) h' none
  unfold f_River_growSticks at e
  refine eb_n 2 (2, [.ref a0, .int (nI 0)], [], h) (rfl) ?_
  exact f_River_growSticks_l2_ev d hd   FU _ _ _  e
set_option maxRecDepth 100000 in
set_option maxHeartbeats 4000000 in
theorem f_Peeler_mostInAnHour_ev (d0 : Nat) (hd0 : 1 ≤ d0) {h' : AH} {r : Int32} {h : AH} {a0 : Nat} (e : f_Peeler_mostInAnHour h a0 = some (h', r)) : Ev tb mL d0 177 [.ref a0] h h' (some (.int r)) := by
  obtain ⟨d, rfl⟩ : ∃ d, d0 = d + 1 := ⟨d0 - 1, by omega⟩
  have hd : 0 ≤ d := by omega
  refine ⟨Nat.le_of_ble_eq_true rfl, ?_⟩
  show Eb (Ev tb mL d) 177 (0, [.ref a0], [], h) h' (some (.int r))
  unfold f_Peeler_mostInAnHour at e
  refine eb_n 1 (1, [.ref a0], [.ref a0], h) (rfl) ?_
  obtain ⟨g1, e⟩ := gd_some e
  refine eb_g (p := hT h a0 = 6) (4, [.ref a0], [.int (hI h a0 3)], h) rfl g1 ?_
  refine eb_n 1 (5, [.ref a0], [.int (nI 1), .int (hI h a0 3)], h) (rfl) ?_
  refine eb_b (c := (nI 1) ≤ (hI h a0 3)) (10, [.ref a0], [], h) (8, [.ref a0], [], h) rfl (fun c2 => ?_) (fun c2 => ?_)
  · replace e := ite_t c2 e
    refine eb_n 1 (11, [.ref a0], [.ref a0], h) (rfl) ?_
    refine eb_g (p := hT h a0 = 6) (14, [.ref a0], [.int (hI h a0 3)], h) rfl g1 ?_
    refine eb_n 1 (16, [.ref a0], [.int (nI 10), .int (hI h a0 3)], h) (rfl) ?_
    refine eb_b (c := (hI h a0 3) < (nI 10)) (26, [.ref a0], [], h) (19, [.ref a0], [], h) rfl (fun c3 => ?_) (fun c3 => ?_)
    · replace e := ite_t c3 e
      refine eb_n 1 (27, [.ref a0], [.ref a0], h) (rfl) ?_
      refine eb_g (p := hT h a0 = 6) (30, [.ref a0], [.int (hI h a0 2)], h) rfl g1 ?_
      refine eb_n 1 (31, [.ref a0], [.int (nI 2), .int (hI h a0 2)], h) (rfl) ?_
      refine eb_g (p := ¬ (nI 2) = 0) (32, [.ref a0], [.int ((hI h a0 2) / (nI 2))], h) rfl (by decide) ?_
      rw [(sp_inj e).1, (sp_inj e).2]
      exact eb_rg (p := nrm 0 ((hI h a0 2) / (nI 2))) rfl (nrm_0 _)
    · replace e := ite_f c3 e
      refine eb_n 1 (20, [.ref a0], [.ref a0], h) (rfl) ?_
      refine eb_g (p := hT h a0 = 6) (23, [.ref a0], [.int (hI h a0 2)], h) rfl g1 ?_
      refine eb_n 1 (32, [.ref a0], [.int (hI h a0 2)], h) (rfl) ?_
      rw [(sp_inj e).1, (sp_inj e).2]
      exact eb_rg (p := nrm 0 (hI h a0 2)) rfl (nrm_0 _)
  · replace e := ite_f c2 e
    refine eb_n 1 (9, [.ref a0], [.int (nI 0)], h) (rfl) ?_
    rw [(sp_inj e).1, (sp_inj e).2]
    exact eb_rg (p := nrm 0 (nI 0)) rfl (nrm_0 _)
set_option maxRecDepth 100000 in
set_option maxHeartbeats 4000000 in
theorem f_Rack_lay_ev (d0 : Nat) (hd0 : 1 ≤ d0) {h' : AH} {h : AH} {a0 : Nat} {a1 : Int32} {a2 : Int32} (e : f_Rack_lay h a0 a1 a2 = some h') : Ev tb mL d0 178 [.ref a0, .int a1, .int a2] h h' none := by
  obtain ⟨d, rfl⟩ : ∃ d, d0 = d + 1 := ⟨d0 - 1, by omega⟩
  have hd : 0 ≤ d := by omega
  refine ⟨Nat.le_of_ble_eq_true rfl, ?_⟩
  show Eb (Ev tb mL d) 178 (0, [.ref a0, .int a1, .int a2], [], h) h' none
  unfold f_Rack_lay at e
  refine eb_n 1 (1, [.ref a0, .int a1, .int a2], [.ref a0], h) (rfl) ?_
  obtain ⟨g1, e⟩ := gd_some e
  refine eb_g (p := hT h a0 = 5) (4, [.ref a0, .int a1, .int a2], [.int (hI h a0 2)], h) rfl g1 ?_
  refine eb_b (c := (hI h a0 2) < 0) (16, [.ref a0, .int a1, .int a2], [], h) (7, [.ref a0, .int a1, .int a2], [], h) rfl (fun c2 => ?_) (fun c2 => ?_)
  · replace e := ite_t c2 e
    rw [sv_inj e]
    exact eb_r rfl
  · replace e := ite_f c2 e
    refine eb_n 1 (8, [.ref a0, .int a1, .int a2], [.ref a0], h) (rfl) ?_
    refine eb_g (p := hT h a0 = 5) (11, [.ref a0, .int a1, .int a2], [.int (hI h a0 2)], h) rfl g1 ?_
    refine eb_n 1 (13, [.ref a0, .int a1, .int a2], [.int (nI 60), .int (hI h a0 2)], h) (rfl) ?_
    refine eb_b (c := (hI h a0 2) < (nI 60)) (17, [.ref a0, .int a1, .int a2], [], h) (16, [.ref a0, .int a1, .int a2], [], h) rfl (fun c3 => ?_) (fun c3 => ?_)
    · replace e := ite_t c3 e
      refine eb_n 1 (18, [.ref a0, .int a1, .int a2], [.ref a0], h) (rfl) ?_
      refine eb_g (p := hT h a0 = 5) (21, [.ref a0, .int a1, .int a2], [.ref (hR h a0 3)], h) rfl g1 ?_
      refine eb_n 1 (22, [.ref a0, .int a1, .int a2], [.ref a0, .ref (hR h a0 3)], h) (rfl) ?_
      refine eb_g (p := hT h a0 = 5) (25, [.ref a0, .int a1, .int a2], [.int (hI h a0 2), .ref (hR h a0 3)], h) rfl g1 ?_
      refine eb_n 1 (26, [.ref a0, .int a1, .int a2], [.int a1, .int (hI h a0 2), .ref (hR h a0 3)], h) (rfl) ?_
      obtain ⟨g4, e⟩ := gd_some e
      obtain ⟨h5, eh5, e⟩ := lq_some e
      refine eb_g (p := hT h (hR h a0 3) = 101 ∧ inb (hI h a0 2) (hL h (hR h a0 3))) (27, [.ref a0, .int a1, .int a2], [], h5) (by rw [eh5]; rfl) g4 ?_
      refine eb_n 1 (28, [.ref a0, .int a1, .int a2], [.ref a0], h5) (rfl) ?_
      obtain ⟨g6, e⟩ := gd_some e
      refine eb_g (p := hT h5 a0 = 5) (31, [.ref a0, .int a1, .int a2], [.ref (hR h5 a0 4)], h5) rfl g6 ?_
      refine eb_n 1 (32, [.ref a0, .int a1, .int a2], [.ref a0, .ref (hR h5 a0 4)], h5) (rfl) ?_
      refine eb_g (p := hT h5 a0 = 5) (35, [.ref a0, .int a1, .int a2], [.int (hI h5 a0 2), .ref (hR h5 a0 4)], h5) rfl g6 ?_
      refine eb_n 1 (36, [.ref a0, .int a1, .int a2], [.int a2, .int (hI h5 a0 2), .ref (hR h5 a0 4)], h5) (rfl) ?_
      obtain ⟨g7, e⟩ := gd_some e
      obtain ⟨h8, eh8, e⟩ := lq_some e
      refine eb_g (p := hT h5 (hR h5 a0 4) = 101 ∧ inb (hI h5 a0 2) (hL h5 (hR h5 a0 4))) (37, [.ref a0, .int a1, .int a2], [], h8) (by rw [eh8]; rfl) g7 ?_
      refine eb_n 1 (38, [.ref a0, .int a1, .int a2], [.ref a0], h8) (rfl) ?_
      obtain ⟨g9, e⟩ := gd_some e
      refine eb_g (p := hT h8 a0 = 5) (41, [.ref a0, .int a1, .int a2], [.ref (hR h8 a0 5)], h8) rfl g9 ?_
      refine eb_n 1 (42, [.ref a0, .int a1, .int a2], [.ref a0, .ref (hR h8 a0 5)], h8) (rfl) ?_
      refine eb_g (p := hT h8 a0 = 5) (45, [.ref a0, .int a1, .int a2], [.int (hI h8 a0 2), .ref (hR h8 a0 5)], h8) rfl g9 ?_
      refine eb_n 1 (46, [.ref a0, .int a1, .int a2], [.int (nI 0), .int (hI h8 a0 2), .ref (hR h8 a0 5)], h8) (rfl) ?_
      obtain ⟨g10, e⟩ := gd_some e
      obtain ⟨h11, eh11, e⟩ := lq_some e
      refine eb_g (p := hT h8 (hR h8 a0 5) = 101 ∧ inb (hI h8 a0 2) (hL h8 (hR h8 a0 5))) (47, [.ref a0, .int a1, .int a2], [], h11) (by rw [eh11]; rfl) g10 ?_
      refine eb_n 1 (48, [.ref a0, .int a1, .int a2], [.ref a0], h11) (rfl) ?_
      obtain ⟨g12, e⟩ := gd_some e
      refine eb_g (p := hT h11 a0 = 5) (51, [.ref a0, .int a1, .int a2], [.ref (hR h11 a0 6)], h11) rfl g12 ?_
      refine eb_n 1 (52, [.ref a0, .int a1, .int a2], [.ref a0, .ref (hR h11 a0 6)], h11) (rfl) ?_
      refine eb_g (p := hT h11 a0 = 5) (55, [.ref a0, .int a1, .int a2], [.int (hI h11 a0 2), .ref (hR h11 a0 6)], h11) rfl g12 ?_
      refine eb_n 1 (56, [.ref a0, .int a1, .int a2], [.int (nI 0), .int (hI h11 a0 2), .ref (hR h11 a0 6)], h11) (rfl) ?_
      obtain ⟨g13, e⟩ := gd_some e
      obtain ⟨h14, eh14, e⟩ := lq_some e
      refine eb_g (p := hT h11 (hR h11 a0 6) = 101 ∧ inb (hI h11 a0 2) (hL h11 (hR h11 a0 6))) (57, [.ref a0, .int a1, .int a2], [], h14) (by rw [eh14]; rfl) g13 ?_
      refine eb_n 2 (59, [.ref a0, .int a1, .int a2], [.ref a0, .ref a0], h14) (rfl) ?_
      obtain ⟨g15, e⟩ := gd_some e
      refine eb_g (p := hT h14 a0 = 5) (62, [.ref a0, .int a1, .int a2], [.int (hI h14 a0 2), .ref a0], h14) rfl g15 ?_
      refine eb_n 2 (64, [.ref a0, .int a1, .int a2], [.int ((hI h14 a0 2) + (nI 1)), .ref a0], h14) (rfl) ?_
      obtain ⟨h16, eh16, e⟩ := lq_some e
      refine eb_g (p := hT h14 a0 = 5) (67, [.ref a0, .int a1, .int a2], [], h16) (by rw [eh16]; rfl) g15 ?_
      refine eb_n 2 (69, [.ref a0, .int a1, .int a2], [.ref a0, .ref a0], h16) (rfl) ?_
      obtain ⟨g17, e⟩ := gd_some e
      refine eb_g (p := hT h16 a0 = 5) (72, [.ref a0, .int a1, .int a2], [.int (hI h16 a0 1), .ref a0], h16) rfl g17 ?_
      refine eb_n 2 (74, [.ref a0, .int a1, .int a2], [.int ((hI h16 a0 1) + a1), .ref a0], h16) (rfl) ?_
      obtain ⟨h18, eh18, e⟩ := lq_some e
      refine eb_g (p := hT h16 a0 = 5) (77, [.ref a0, .int a1, .int a2], [], h18) (by rw [eh18]; rfl) g17 ?_
      rw [sv_inj e]
      exact eb_r rfl
    · replace e := ite_f c3 e
      rw [sv_inj e]
      exact eb_r rfl
set_option maxRecDepth 100000 in
set_option maxHeartbeats 4000000 in
theorem f_River_letPeel_ev (d0 : Nat) (hd0 : 2 ≤ d0) {h' : AH} {h : AH} {a0 : Nat} {a1 : Nat} (e : f_River_letPeel h a0 a1 = some h') : Ev tb mL d0 146 [.ref a0, .ref a1] h h' none := by
  obtain ⟨d, rfl⟩ : ∃ d, d0 = d + 1 := ⟨d0 - 1, by omega⟩
  have hd : 1 ≤ d := by omega
  refine ⟨Nat.le_of_ble_eq_true rfl, ?_⟩
  show Eb (Ev tb mL d) 146 (0, [.ref a0, .ref a1, .retAddr 0, .retAddr 0, .retAddr 0], [], h) h' none
  unfold f_River_letPeel at e
  refine eb_n 1 (1, [.ref a0, .ref a1, .retAddr 0, .retAddr 0, .retAddr 0], [.ref a1], h) (rfl) ?_
  obtain ⟨g1, e⟩ := gd_some e
  refine eb_g (p := hT h a1 = 6) (4, [.ref a0, .ref a1, .retAddr 0, .retAddr 0, .retAddr 0], [.int (hI h a1 6)], h) rfl g1 ?_
  refine eb_b (c := ¬ (hI h a1 6) = 0) (29, [.ref a0, .ref a1, .retAddr 0, .retAddr 0, .retAddr 0], [], h) (7, [.ref a0, .ref a1, .retAddr 0, .retAddr 0, .retAddr 0], [], h) rfl (fun c2 => ?_) (fun c2 => ?_)
  · replace e := ite_t c2 e
    rw [sv_inj e]
    exact eb_r rfl
  · replace e := ite_f c2 e
    refine eb_n 2 (9, [.ref a0, .ref a1, .retAddr 0, .retAddr 0, .retAddr 0], [.ref a1, .ref a0], h) (rfl) ?_
    refine eb_g (p := hT h a1 = 6) (12, [.ref a0, .ref a1, .retAddr 0, .retAddr 0, .retAddr 0], [.int (hI h a1 0), .ref a0], h) rfl g1 ?_
    obtain ⟨g3, e⟩ := gd_some e
    obtain ⟨h4, r5, eh4, e⟩ := bn_some e
    refine eb_cg (p := hT h a0 = 3) rfl g3 (f_River_hasGarden_ev d (Nat.le_trans (by decide) hd) eh4) ?_
    show Eb _ 146 (15, [.ref a0, .ref a1, .retAddr 0, .retAddr 0, .retAddr 0], [.int r5], h4) _ _
    refine eb_b (c := r5 = 0) (29, [.ref a0, .ref a1, .retAddr 0, .retAddr 0, .retAddr 0], [], h4) (18, [.ref a0, .ref a1, .retAddr 0, .retAddr 0, .retAddr 0], [], h4) rfl (fun c6 => ?_) (fun c6 => ?_)
    · replace e := ite_t c6 e
      rw [sv_inj e]
      exact eb_r rfl
    · replace e := ite_f c6 e
      refine eb_n 2 (20, [.ref a0, .ref a1, .retAddr 0, .retAddr 0, .retAddr 0], [.ref a1, .ref a0], h4) (rfl) ?_
      obtain ⟨g7, e⟩ := gd_some e
      refine eb_g (p := hT h4 a1 = 6) (23, [.ref a0, .ref a1, .retAddr 0, .retAddr 0, .retAddr 0], [.int (hI h4 a1 1), .ref a0], h4) rfl g7 ?_
      obtain ⟨g8, e⟩ := gd_some e
      obtain ⟨h9, r10, eh9, e⟩ := bn_some e
      refine eb_cg (p := hT h4 a0 = 3) rfl g8 (f_River_hasRack_ev d (Nat.le_trans (by decide) hd) eh9) ?_
      show Eb _ 146 (26, [.ref a0, .ref a1, .retAddr 0, .retAddr 0, .retAddr 0], [.int r10], h9) _ _
      refine eb_b (c := ¬ r10 = 0) (30, [.ref a0, .ref a1, .retAddr 0, .retAddr 0, .retAddr 0], [], h9) (29, [.ref a0, .ref a1, .retAddr 0, .retAddr 0, .retAddr 0], [], h9) rfl (fun c11 => ?_) (fun c11 => ?_)
      · replace e := ite_t c11 e
        refine eb_n 1 (31, [.ref a0, .ref a1, .retAddr 0, .retAddr 0, .retAddr 0], [.ref a0], h9) (rfl) ?_
        obtain ⟨g12, e⟩ := gd_some e
        refine eb_g (p := hT h9 a0 = 3) (34, [.ref a0, .ref a1, .retAddr 0, .retAddr 0, .retAddr 0], [.ref (hR h9 a0 0)], h9) rfl g12 ?_
        refine eb_n 1 (35, [.ref a0, .ref a1, .retAddr 0, .retAddr 0, .retAddr 0], [.ref a1, .ref (hR h9 a0 0)], h9) (rfl) ?_
        obtain ⟨g13, e⟩ := gd_some e
        refine eb_g (p := hT h9 a1 = 6) (38, [.ref a0, .ref a1, .retAddr 0, .retAddr 0, .retAddr 0], [.int (hI h9 a1 0), .ref (hR h9 a0 0)], h9) rfl g13 ?_
        obtain ⟨g14, e⟩ := gd_some e
        refine eb_g (p := hT h9 (hR h9 a0 0) = 104 ∧ inb (hI h9 a1 0) (hL h9 (hR h9 a0 0))) (39, [.ref a0, .ref a1, .retAddr 0, .retAddr 0, .retAddr 0], [.ref (hR h9 (hR h9 a0 0) (ix (hI h9 a1 0)))], h9) rfl g14 ?_
        obtain ⟨x15, hx15, e⟩ := lq_some e
        refine eb_n 1 (40, [.ref a0, .ref a1, .ref x15, .retAddr 0, .retAddr 0], [], h9) (by subst hx15; rfl) ?_
        refine eb_n 1 (41, [.ref a0, .ref a1, .ref x15, .retAddr 0, .retAddr 0], [.ref a0], h9) (rfl) ?_
        refine eb_g (p := hT h9 a0 = 3) (44, [.ref a0, .ref a1, .ref x15, .retAddr 0, .retAddr 0], [.ref (hR h9 a0 1)], h9) rfl g12 ?_
        refine eb_n 1 (45, [.ref a0, .ref a1, .ref x15, .retAddr 0, .retAddr 0], [.ref a1, .ref (hR h9 a0 1)], h9) (rfl) ?_
        refine eb_g (p := hT h9 a1 = 6) (48, [.ref a0, .ref a1, .ref x15, .retAddr 0, .retAddr 0], [.int (hI h9 a1 1), .ref (hR h9 a0 1)], h9) rfl g13 ?_
        obtain ⟨g16, e⟩ := gd_some e
        refine eb_g (p := hT h9 (hR h9 a0 1) = 105 ∧ inb (hI h9 a1 1) (hL h9 (hR h9 a0 1))) (49, [.ref a0, .ref a1, .ref x15, .retAddr 0, .retAddr 0], [.ref (hR h9 (hR h9 a0 1) (ix (hI h9 a1 1)))], h9) rfl g16 ?_
        obtain ⟨x17, hx17, e⟩ := lq_some e
        refine eb_n 1 (50, [.ref a0, .ref a1, .ref x15, .ref x17, .retAddr 0], [], h9) (by subst hx17; rfl) ?_
        refine eb_n 1 (51, [.ref a0, .ref a1, .ref x15, .ref x17, .retAddr 0], [.ref a1], h9) (rfl) ?_
        obtain ⟨h18, r19, eh18, e⟩ := bn_some e
        refine eb_cg (p := hT h9 a1 = 6) rfl g13 (f_Peeler_mostInAnHour_ev d (Nat.le_trans (by decide) hd) eh18) ?_
        show Eb _ 146 (54, [.ref a0, .ref a1, .ref x15, .ref x17, .retAddr 0], [.int r19], h18) _ _
        refine eb_n 1 (55, [.ref a0, .ref a1, .ref x15, .ref x17, .retAddr 0], [.ref x15, .int r19], h18) (rfl) ?_
        obtain ⟨g20, e⟩ := gd_some e
        refine eb_g (p := hT h18 x15 = 4) (58, [.ref a0, .ref a1, .ref x15, .ref x17, .retAddr 0], [.int (hI h18 x15 0), .int r19], h18) rfl g20 ?_
        refine eb_n 1 (59, [.ref a0, .ref a1, .ref x15, .ref x17, .retAddr 0], [.ref x17, .int (hI h18 x15 0), .int r19], h18) (rfl) ?_
        obtain ⟨g21, e⟩ := gd_some e
        obtain ⟨h22, r23, eh22, e⟩ := bn_some e
        refine eb_cg (p := hT h18 x17 = 5) rfl g21 (f_Rack_free_ev d (Nat.le_trans (by decide) hd) eh22) ?_
        show Eb _ 146 (62, [.ref a0, .ref a1, .ref x15, .ref x17, .retAddr 0], [.int r23, .int (hI h18 x15 0), .int r19], h22) _ _
        obtain ⟨h24, r25, eh24, e⟩ := bn_some e
        refine eb_c rfl (f_Math_min_ev d (Nat.le_trans (by decide) hd) eh24) ?_
        show Eb _ 146 (65, [.ref a0, .ref a1, .ref x15, .ref x17, .retAddr 0], [.int r25, .int r19], h24) _ _
        obtain ⟨h26, r27, eh26, e⟩ := bn_some e
        refine eb_c rfl (f_Math_min_ev d (Nat.le_trans (by decide) hd) eh26) ?_
        show Eb _ 146 (68, [.ref a0, .ref a1, .ref x15, .ref x17, .retAddr 0], [.int r27], h26) _ _
        refine eb_n 3 (73, [.ref a0, .ref a1, .ref x15, .ref x17, .int r27], [.int (nI 1), .int r27], h26) (rfl) ?_
        refine eb_b (c := (nI 1) ≤ r27) (77, [.ref a0, .ref a1, .ref x15, .ref x17, .int r27], [], h26) (76, [.ref a0, .ref a1, .ref x15, .ref x17, .int r27], [], h26) rfl (fun c28 => ?_) (fun c28 => ?_)
        · replace e := ite_t c28 e
          refine eb_n 2 (79, [.ref a0, .ref a1, .ref x15, .ref x17, .int r27], [.ref x15, .ref x15], h26) (rfl) ?_
          obtain ⟨g29, e⟩ := gd_some e
          refine eb_g (p := hT h26 x15 = 4) (82, [.ref a0, .ref a1, .ref x15, .ref x17, .int r27], [.int (hI h26 x15 0), .ref x15], h26) rfl g29 ?_
          refine eb_n 2 (85, [.ref a0, .ref a1, .ref x15, .ref x17, .int r27], [.int ((hI h26 x15 0) - r27), .ref x15], h26) (rfl) ?_
          obtain ⟨h30, eh30, e⟩ := lq_some e
          refine eb_g (p := hT h26 x15 = 4) (88, [.ref a0, .ref a1, .ref x15, .ref x17, .int r27], [], h30) (by rw [eh30]; rfl) g29 ?_
          refine eb_n 3 (92, [.ref a0, .ref a1, .ref x15, .ref x17, .int r27], [.ref x15, .int r27, .ref x17], h30) (rfl) ?_
          obtain ⟨g31, e⟩ := gd_some e
          refine eb_g (p := hT h30 x15 = 4) (95, [.ref a0, .ref a1, .ref x15, .ref x17, .int r27], [.int (hI h30 x15 2), .int r27, .ref x17], h30) rfl g31 ?_
          obtain ⟨g32, e⟩ := gd_some e
          obtain ⟨h33, eh33, e⟩ := bv_some e
          refine eb_cg (p := hT h30 x17 = 5) rfl g32 (f_Rack_lay_ev d (Nat.le_trans (by decide) hd) eh33) ?_
          show Eb _ 146 (98, [.ref a0, .ref a1, .ref x15, .ref x17, .int r27], [], h33) _ _
          refine eb_n 2 (100, [.ref a0, .ref a1, .ref x15, .ref x17, .int r27], [.ref a1, .ref a1], h33) (rfl) ?_
          obtain ⟨g34, e⟩ := gd_some e
          refine eb_g (p := hT h33 a1 = 6) (103, [.ref a0, .ref a1, .ref x15, .ref x17, .int r27], [.int (hI h33 a1 3), .ref a1], h33) rfl g34 ?_
          refine eb_n 2 (105, [.ref a0, .ref a1, .ref x15, .ref x17, .int r27], [.int ((hI h33 a1 3) - (nI 1)), .ref a1], h33) (rfl) ?_
          obtain ⟨h35, eh35, e⟩ := lq_some e
          refine eb_g (p := hT h33 a1 = 6) (108, [.ref a0, .ref a1, .ref x15, .ref x17, .int r27], [], h35) (by rw [eh35]; rfl) g34 ?_
          refine eb_n 2 (110, [.ref a0, .ref a1, .ref x15, .ref x17, .int r27], [.ref a1, .ref a1], h35) (rfl) ?_
          obtain ⟨g36, e⟩ := gd_some e
          refine eb_g (p := hT h35 a1 = 6) (113, [.ref a0, .ref a1, .ref x15, .ref x17, .int r27], [.int (hI h35 a1 4), .ref a1], h35) rfl g36 ?_
          refine eb_n 2 (116, [.ref a0, .ref a1, .ref x15, .ref x17, .int r27], [.int ((hI h35 a1 4) + r27), .ref a1], h35) (rfl) ?_
          obtain ⟨h37, eh37, e⟩ := lq_some e
          refine eb_g (p := hT h35 a1 = 6) (119, [.ref a0, .ref a1, .ref x15, .ref x17, .int r27], [], h37) (by rw [eh37]; rfl) g36 ?_
          refine eb_n 2 (121, [.ref a0, .ref a1, .ref x15, .ref x17, .int r27], [.ref a0, .ref a0], h37) (rfl) ?_
          obtain ⟨g38, e⟩ := gd_some e
          refine eb_g (p := hT h37 a0 = 3) (124, [.ref a0, .ref a1, .ref x15, .ref x17, .int r27], [.int (hI h37 a0 15), .ref a0], h37) rfl g38 ?_
          refine eb_n 2 (127, [.ref a0, .ref a1, .ref x15, .ref x17, .int r27], [.int ((hI h37 a0 15) + r27), .ref a0], h37) (rfl) ?_
          obtain ⟨h39, eh39, e⟩ := lq_some e
          refine eb_g (p := hT h37 a0 = 3) (130, [.ref a0, .ref a1, .ref x15, .ref x17, .int r27], [], h39) (by rw [eh39]; rfl) g38 ?_
          rw [sv_inj e]
          exact eb_r rfl
        · replace e := ite_f c28 e
          rw [sv_inj e]
          exact eb_r rfl
      · replace e := ite_f c11 e
        rw [sv_inj e]
        exact eb_r rfl
set_option maxRecDepth 100000 in
set_option maxHeartbeats 4000000 in
theorem f_Rack_isDry_ev (d0 : Nat) (hd0 : 1 ≤ d0) {h' : AH} {r : Int32} {h : AH} {a0 : Int32} {a1 : Int32} (e : f_Rack_isDry h a0 a1 = some (h', r)) : Ev tb mL d0 110 [.int a0, .int a1] h h' (some (.int r)) := by
  obtain ⟨d, rfl⟩ : ∃ d, d0 = d + 1 := ⟨d0 - 1, by omega⟩
  have hd : 0 ≤ d := by omega
  refine ⟨Nat.le_of_ble_eq_true rfl, ?_⟩
  show Eb (Ev tb mL d) 110 (0, [.int a0, .int a1], [], h) h' (some (.int r))
  unfold f_Rack_isDry at e
  refine eb_n 4 (4, [.int a0, .int a1], [.int ((nI 3) * a0), .int a1], h) (rfl) ?_
  refine eb_b (c := a1 < ((nI 3) * a0)) (11, [.int a0, .int a1], [], h) (7, [.int a0, .int a1], [], h) rfl (fun c1 => ?_) (fun c1 => ?_)
  · replace e := ite_t c1 e
    refine eb_n 1 (12, [.int a0, .int a1], [.int (nI 0)], h) (rfl) ?_
    rw [(sp_inj e).1, (sp_inj e).2]
    exact eb_rg (p := nrm 3 (nI 0)) rfl nrm_30
  · replace e := ite_f c1 e
    refine eb_n 2 (12, [.int a0, .int a1], [.int (nI 1)], h) (rfl) ?_
    rw [(sp_inj e).1, (sp_inj e).2]
    exact eb_rg (p := nrm 3 (nI 1)) rfl nrm_31
set_option maxRecDepth 100000 in
set_option maxHeartbeats 4000000 in
theorem f_Rack_gradeOf_ev (d0 : Nat) (hd0 : 2 ≤ d0) {h' : AH} {r : Int32} {h : AH} {a0 : Int32} {a1 : Int32} (e : f_Rack_gradeOf h a0 a1 = some (h', r)) : Ev tb mL d0 111 [.int a0, .int a1] h h' (some (.int r)) := by
  obtain ⟨d, rfl⟩ : ∃ d, d0 = d + 1 := ⟨d0 - 1, by omega⟩
  have hd : 1 ≤ d := by omega
  refine ⟨Nat.le_of_ble_eq_true rfl, ?_⟩
  show Eb (Ev tb mL d) 111 (0, [.int a0, .int a1], [], h) h' (some (.int r))
  unfold f_Rack_gradeOf at e
  refine eb_n 6 (6, [.int a0, .int a1], [.int (nI 3), .int (a0 - (nI 1)), .int (nI 0), .int (nI 3)], h) (rfl) ?_
  refine eb_g (p := ¬ (nI 3) = 0) (7, [.int a0, .int a1], [.int ((a0 - (nI 1)) / (nI 3)), .int (nI 0), .int (nI 3)], h) rfl (by decide) ?_
  refine eb_n 2 (9, [.int a0, .int a1], [.int (nI 3), .int a1, .int ((a0 - (nI 1)) / (nI 3)), .int (nI 0), .int (nI 3)], h) (rfl) ?_
  refine eb_g (p := ¬ (nI 3) = 0) (10, [.int a0, .int a1], [.int (a1 / (nI 3)), .int ((a0 - (nI 1)) / (nI 3)), .int (nI 0), .int (nI 3)], h) rfl (by decide) ?_
  refine eb_n 1 (11, [.int a0, .int a1], [.int (((a0 - (nI 1)) / (nI 3)) + (a1 / (nI 3))), .int (nI 0), .int (nI 3)], h) (rfl) ?_
  obtain ⟨h1, r2, eh1, e⟩ := bn_some e
  refine eb_c rfl (f_Math_max_ev d (Nat.le_trans (by decide) hd) eh1) ?_
  show Eb _ 111 (14, [.int a0, .int a1], [.int r2, .int (nI 3)], h1) _ _
  obtain ⟨h3, r4, eh3, e⟩ := bn_some e
  refine eb_c rfl (f_Math_min_ev d (Nat.le_trans (by decide) hd) eh3) ?_
  show Eb _ 111 (17, [.int a0, .int a1], [.int r4], h3) _ _
  rw [(sp_inj e).1, (sp_inj e).2]
  exact eb_rg (p := nrm 0 r4) rfl (nrm_0 _)
set_option maxRecDepth 100000 in
set_option maxHeartbeats 4000000 in
theorem f_Rack_storeAt_b43_ev {h' : AH} (d : Nat) (hd : 2 ≤ d)  (h : AH) (a0 : Nat) (a1 : Int32)  (d2 : Value) (d3 : Value) (e : f_Rack_storeAt_b43  h a0 a1 = some h') : Eb (Ev tb mL d) 179 (43, [.ref a0, .int a1, d2, d3], [], h) h' none := by
  unfold f_Rack_storeAt_b43 at e
  refine eb_n 2 (45, [.ref a0, .int a1, d2, d3], [.ref a0, .ref a0], h) (rfl) ?_
  obtain ⟨g1, e⟩ := gd_some e
  refine eb_g (p := hT h a0 = 5) (48, [.ref a0, .int a1, d2, d3], [.int (hI h a0 1), .ref a0], h) rfl g1 ?_
  refine eb_n 1 (49, [.ref a0, .int a1, d2, d3], [.ref a0, .int (hI h a0 1), .ref a0], h) (rfl) ?_
  refine eb_g (p := hT h a0 = 5) (52, [.ref a0, .int a1, d2, d3], [.ref (hR h a0 3), .int (hI h a0 1), .ref a0], h) rfl g1 ?_
  refine eb_n 1 (53, [.ref a0, .int a1, d2, d3], [.int a1, .ref (hR h a0 3), .int (hI h a0 1), .ref a0], h) (rfl) ?_
  obtain ⟨g2, e⟩ := gd_some e
  refine eb_g (p := hT h (hR h a0 3) = 101 ∧ inb a1 (hL h (hR h a0 3))) (54, [.ref a0, .int a1, d2, d3], [.int (hI h (hR h a0 3) (ix a1)), .int (hI h a0 1), .ref a0], h) rfl g2 ?_
  refine eb_n 1 (55, [.ref a0, .int a1, d2, d3], [.int ((hI h a0 1) - (hI h (hR h a0 3) (ix a1))), .ref a0], h) (rfl) ?_
  obtain ⟨h3, eh3, e⟩ := lq_some e
  refine eb_g (p := hT h a0 = 5) (58, [.ref a0, .int a1, d2, d3], [], h3) (by rw [eh3]; rfl) g1 ?_
  rw [sv_inj e]
  exact eb_r rfl
set_option maxRecDepth 100000 in
set_option maxHeartbeats 4000000 in
theorem f_Rack_storeAt_ev (d0 : Nat) (hd0 : 3 ≤ d0) {h' : AH} {h : AH} {a0 : Nat} {a1 : Int32} {a2 : Nat} (e : f_Rack_storeAt h a0 a1 a2 = some h') : Ev tb mL d0 179 [.ref a0, .int a1, .ref a2] h h' none := by
  obtain ⟨d, rfl⟩ : ∃ d, d0 = d + 1 := ⟨d0 - 1, by omega⟩
  have hd : 2 ≤ d := by omega
  refine ⟨Nat.le_of_ble_eq_true rfl, ?_⟩
  show Eb (Ev tb mL d) 179 (0, [.ref a0, .int a1, .ref a2, .retAddr 0], [], h) h' none
  unfold f_Rack_storeAt at e
  refine eb_n 1 (1, [.ref a0, .int a1, .ref a2, .retAddr 0], [.ref a0], h) (rfl) ?_
  obtain ⟨g1, e⟩ := gd_some e
  refine eb_g (p := hT h a0 = 5) (4, [.ref a0, .int a1, .ref a2, .retAddr 0], [.ref (hR h a0 4)], h) rfl g1 ?_
  refine eb_n 1 (5, [.ref a0, .int a1, .ref a2, .retAddr 0], [.int a1, .ref (hR h a0 4)], h) (rfl) ?_
  obtain ⟨g2, e⟩ := gd_some e
  refine eb_g (p := hT h (hR h a0 4) = 101 ∧ inb a1 (hL h (hR h a0 4))) (6, [.ref a0, .int a1, .ref a2, .retAddr 0], [.int (hI h (hR h a0 4) (ix a1))], h) rfl g2 ?_
  refine eb_n 1 (7, [.ref a0, .int a1, .ref a2, .retAddr 0], [.ref a0, .int (hI h (hR h a0 4) (ix a1))], h) (rfl) ?_
  refine eb_g (p := hT h a0 = 5) (10, [.ref a0, .int a1, .ref a2, .retAddr 0], [.ref (hR h a0 6), .int (hI h (hR h a0 4) (ix a1))], h) rfl g1 ?_
  refine eb_n 1 (11, [.ref a0, .int a1, .ref a2, .retAddr 0], [.int a1, .ref (hR h a0 6), .int (hI h (hR h a0 4) (ix a1))], h) (rfl) ?_
  obtain ⟨g3, e⟩ := gd_some e
  refine eb_g (p := hT h (hR h a0 6) = 101 ∧ inb a1 (hL h (hR h a0 6))) (12, [.ref a0, .int a1, .ref a2, .retAddr 0], [.int (hI h (hR h a0 6) (ix a1)), .int (hI h (hR h a0 4) (ix a1))], h) rfl g3 ?_
  obtain ⟨h4, r5, eh4, e⟩ := bn_some e
  refine eb_c rfl (f_Rack_gradeOf_ev d (Nat.le_trans (by decide) hd) eh4) ?_
  show Eb _ 179 (15, [.ref a0, .int a1, .ref a2, .retAddr 0], [.int r5], h4) _ _
  refine eb_n 2 (17, [.ref a0, .int a1, .ref a2, .int r5], [.int r5], h4) (rfl) ?_
  refine eb_b (c := r5 < 0) (43, [.ref a0, .int a1, .ref a2, .int r5], [], h4) (20, [.ref a0, .int a1, .ref a2, .int r5], [], h4) rfl (fun c6 => ?_) (fun c6 => ?_)
  · replace e := ite_t c6 e
    exact f_Rack_storeAt_b43_ev d hd   _ _ _ _ _ e
  · replace e := ite_f c6 e
    refine eb_n 2 (22, [.ref a0, .int a1, .ref a2, .int r5], [.ref a2, .int r5], h4) (rfl) ?_
    obtain ⟨g7, e⟩ := gd_some e
    refine eb_g (p := hT h4 a2 = 108) (23, [.ref a0, .int a1, .ref a2, .int r5], [.int (nI (hL h4 a2)), .int r5], h4) rfl g7 ?_
    refine eb_b (c := (nI (hL h4 a2)) ≤ r5) (43, [.ref a0, .int a1, .ref a2, .int r5], [], h4) (26, [.ref a0, .int a1, .ref a2, .int r5], [], h4) rfl (fun c8 => ?_) (fun c8 => ?_)
    · replace e := ite_t c8 e
      exact f_Rack_storeAt_b43_ev d hd   _ _ _ _ _ e
    · replace e := ite_f c8 e
      refine eb_n 2 (28, [.ref a0, .int a1, .ref a2, .int r5], [.int r5, .ref a2], h4) (rfl) ?_
      obtain ⟨g9, e⟩ := gd_some e
      refine eb_g (p := hT h4 a2 = 108 ∧ inb r5 (hL h4 a2)) (29, [.ref a0, .int a1, .ref a2, .int r5], [.ref (hR h4 a2 (ix r5))], h4) rfl g9 ?_
      refine eb_n 1 (30, [.ref a0, .int a1, .ref a2, .int r5], [.ref (hR h4 a2 (ix r5)), .ref (hR h4 a2 (ix r5))], h4) (rfl) ?_
      obtain ⟨g10, e⟩ := gd_some e
      refine eb_g (p := hT h4 (hR h4 a2 (ix r5)) = 8) (33, [.ref a0, .int a1, .ref a2, .int r5], [.int (hI h4 (hR h4 a2 (ix r5)) 0), .ref (hR h4 a2 (ix r5))], h4) rfl g10 ?_
      refine eb_n 1 (34, [.ref a0, .int a1, .ref a2, .int r5], [.ref a0, .int (hI h4 (hR h4 a2 (ix r5)) 0), .ref (hR h4 a2 (ix r5))], h4) (rfl) ?_
      obtain ⟨g11, e⟩ := gd_some e
      refine eb_g (p := hT h4 a0 = 5) (37, [.ref a0, .int a1, .ref a2, .int r5], [.ref (hR h4 a0 3), .int (hI h4 (hR h4 a2 (ix r5)) 0), .ref (hR h4 a2 (ix r5))], h4) rfl g11 ?_
      refine eb_n 1 (38, [.ref a0, .int a1, .ref a2, .int r5], [.int a1, .ref (hR h4 a0 3), .int (hI h4 (hR h4 a2 (ix r5)) 0), .ref (hR h4 a2 (ix r5))], h4) (rfl) ?_
      obtain ⟨g12, e⟩ := gd_some e
      refine eb_g (p := hT h4 (hR h4 a0 3) = 101 ∧ inb a1 (hL h4 (hR h4 a0 3))) (39, [.ref a0, .int a1, .ref a2, .int r5], [.int (hI h4 (hR h4 a0 3) (ix a1)), .int (hI h4 (hR h4 a2 (ix r5)) 0), .ref (hR h4 a2 (ix r5))], h4) rfl g12 ?_
      refine eb_n 1 (40, [.ref a0, .int a1, .ref a2, .int r5], [.int ((hI h4 (hR h4 a2 (ix r5)) 0) + (hI h4 (hR h4 a0 3) (ix a1))), .ref (hR h4 a2 (ix r5))], h4) (rfl) ?_
      obtain ⟨h13, eh13, e⟩ := lq_some e
      refine eb_g (p := hT h4 (hR h4 a2 (ix r5)) = 8) (43, [.ref a0, .int a1, .ref a2, .int r5], [], h13) (by rw [eh13]; rfl) g10 ?_
      exact f_Rack_storeAt_b43_ev d hd   _ _ _ _ _ e
set_option maxRecDepth 100000 in
set_option maxHeartbeats 4000000 in
theorem f_Rack_moveTo_ev (d0 : Nat) (hd0 : 1 ≤ d0) {h' : AH} {h : AH} {a0 : Nat} {a1 : Int32} {a2 : Int32} (e : f_Rack_moveTo h a0 a1 a2 = some h') : Ev tb mL d0 180 [.ref a0, .int a1, .int a2] h h' none := by
  obtain ⟨d, rfl⟩ : ∃ d, d0 = d + 1 := ⟨d0 - 1, by omega⟩
  have hd : 0 ≤ d := by omega
  refine ⟨Nat.le_of_ble_eq_true rfl, ?_⟩
  show Eb (Ev tb mL d) 180 (0, [.ref a0, .int a1, .int a2], [], h) h' none
  unfold f_Rack_moveTo at e
  refine eb_n 1 (1, [.ref a0, .int a1, .int a2], [.ref a0], h) (rfl) ?_
  obtain ⟨g1, e⟩ := gd_some e
  refine eb_g (p := hT h a0 = 5) (4, [.ref a0, .int a1, .int a2], [.ref (hR h a0 3)], h) rfl g1 ?_
  refine eb_n 2 (6, [.ref a0, .int a1, .int a2], [.ref a0, .int a1, .ref (hR h a0 3)], h) (rfl) ?_
  refine eb_g (p := hT h a0 = 5) (9, [.ref a0, .int a1, .int a2], [.ref (hR h a0 3), .int a1, .ref (hR h a0 3)], h) rfl g1 ?_
  refine eb_n 1 (10, [.ref a0, .int a1, .int a2], [.int a2, .ref (hR h a0 3), .int a1, .ref (hR h a0 3)], h) (rfl) ?_
  obtain ⟨g2, e⟩ := gd_some e
  refine eb_g (p := hT h (hR h a0 3) = 101 ∧ inb a2 (hL h (hR h a0 3))) (11, [.ref a0, .int a1, .int a2], [.int (hI h (hR h a0 3) (ix a2)), .int a1, .ref (hR h a0 3)], h) rfl g2 ?_
  obtain ⟨g3, e⟩ := gd_some e
  obtain ⟨h4, eh4, e⟩ := lq_some e
  refine eb_g (p := hT h (hR h a0 3) = 101 ∧ inb a1 (hL h (hR h a0 3))) (12, [.ref a0, .int a1, .int a2], [], h4) (by rw [eh4]; rfl) g3 ?_
  refine eb_n 1 (13, [.ref a0, .int a1, .int a2], [.ref a0], h4) (rfl) ?_
  obtain ⟨g5, e⟩ := gd_some e
  refine eb_g (p := hT h4 a0 = 5) (16, [.ref a0, .int a1, .int a2], [.ref (hR h4 a0 4)], h4) rfl g5 ?_
  refine eb_n 2 (18, [.ref a0, .int a1, .int a2], [.ref a0, .int a1, .ref (hR h4 a0 4)], h4) (rfl) ?_
  refine eb_g (p := hT h4 a0 = 5) (21, [.ref a0, .int a1, .int a2], [.ref (hR h4 a0 4), .int a1, .ref (hR h4 a0 4)], h4) rfl g5 ?_
  refine eb_n 1 (22, [.ref a0, .int a1, .int a2], [.int a2, .ref (hR h4 a0 4), .int a1, .ref (hR h4 a0 4)], h4) (rfl) ?_
  obtain ⟨g6, e⟩ := gd_some e
  refine eb_g (p := hT h4 (hR h4 a0 4) = 101 ∧ inb a2 (hL h4 (hR h4 a0 4))) (23, [.ref a0, .int a1, .int a2], [.int (hI h4 (hR h4 a0 4) (ix a2)), .int a1, .ref (hR h4 a0 4)], h4) rfl g6 ?_
  obtain ⟨g7, e⟩ := gd_some e
  obtain ⟨h8, eh8, e⟩ := lq_some e
  refine eb_g (p := hT h4 (hR h4 a0 4) = 101 ∧ inb a1 (hL h4 (hR h4 a0 4))) (24, [.ref a0, .int a1, .int a2], [], h8) (by rw [eh8]; rfl) g7 ?_
  refine eb_n 1 (25, [.ref a0, .int a1, .int a2], [.ref a0], h8) (rfl) ?_
  obtain ⟨g9, e⟩ := gd_some e
  refine eb_g (p := hT h8 a0 = 5) (28, [.ref a0, .int a1, .int a2], [.ref (hR h8 a0 5)], h8) rfl g9 ?_
  refine eb_n 2 (30, [.ref a0, .int a1, .int a2], [.ref a0, .int a1, .ref (hR h8 a0 5)], h8) (rfl) ?_
  refine eb_g (p := hT h8 a0 = 5) (33, [.ref a0, .int a1, .int a2], [.ref (hR h8 a0 5), .int a1, .ref (hR h8 a0 5)], h8) rfl g9 ?_
  refine eb_n 1 (34, [.ref a0, .int a1, .int a2], [.int a2, .ref (hR h8 a0 5), .int a1, .ref (hR h8 a0 5)], h8) (rfl) ?_
  obtain ⟨g10, e⟩ := gd_some e
  refine eb_g (p := hT h8 (hR h8 a0 5) = 101 ∧ inb a2 (hL h8 (hR h8 a0 5))) (35, [.ref a0, .int a1, .int a2], [.int (hI h8 (hR h8 a0 5) (ix a2)), .int a1, .ref (hR h8 a0 5)], h8) rfl g10 ?_
  obtain ⟨g11, e⟩ := gd_some e
  obtain ⟨h12, eh12, e⟩ := lq_some e
  refine eb_g (p := hT h8 (hR h8 a0 5) = 101 ∧ inb a1 (hL h8 (hR h8 a0 5))) (36, [.ref a0, .int a1, .int a2], [], h12) (by rw [eh12]; rfl) g11 ?_
  refine eb_n 1 (37, [.ref a0, .int a1, .int a2], [.ref a0], h12) (rfl) ?_
  obtain ⟨g13, e⟩ := gd_some e
  refine eb_g (p := hT h12 a0 = 5) (40, [.ref a0, .int a1, .int a2], [.ref (hR h12 a0 6)], h12) rfl g13 ?_
  refine eb_n 2 (42, [.ref a0, .int a1, .int a2], [.ref a0, .int a1, .ref (hR h12 a0 6)], h12) (rfl) ?_
  refine eb_g (p := hT h12 a0 = 5) (45, [.ref a0, .int a1, .int a2], [.ref (hR h12 a0 6), .int a1, .ref (hR h12 a0 6)], h12) rfl g13 ?_
  refine eb_n 1 (46, [.ref a0, .int a1, .int a2], [.int a2, .ref (hR h12 a0 6), .int a1, .ref (hR h12 a0 6)], h12) (rfl) ?_
  obtain ⟨g14, e⟩ := gd_some e
  refine eb_g (p := hT h12 (hR h12 a0 6) = 101 ∧ inb a2 (hL h12 (hR h12 a0 6))) (47, [.ref a0, .int a1, .int a2], [.int (hI h12 (hR h12 a0 6) (ix a2)), .int a1, .ref (hR h12 a0 6)], h12) rfl g14 ?_
  obtain ⟨g15, e⟩ := gd_some e
  obtain ⟨h16, eh16, e⟩ := lq_some e
  refine eb_g (p := hT h12 (hR h12 a0 6) = 101 ∧ inb a1 (hL h12 (hR h12 a0 6))) (48, [.ref a0, .int a1, .int a2], [], h16) (by rw [eh16]; rfl) g15 ?_
  rw [sv_inj e]
  exact eb_r rfl
set_option maxRecDepth 100000 in
set_option maxHeartbeats 4000000 in
theorem f_Rack_letDry_b96_ev {h' : AH} (d : Nat) (hd : 3 ≤ d)  (h : AH) (a0 : Nat) (a3 : Int32)  (d1 : Value) (d2 : Value) (d4 : Value) (e : f_Rack_letDry_b96  h a0 a3 = some h') : Eb (Ev tb mL d) 147 (96, [.ref a0, d1, d2, .int a3, d4], [], h) h' none := by
  unfold f_Rack_letDry_b96 at e
  refine eb_n 2 (98, [.ref a0, d1, d2, .int a3, d4], [.int a3, .ref a0], h) (rfl) ?_
  obtain ⟨g1, e⟩ := gd_some e
  obtain ⟨h2, eh2, e⟩ := lq_some e
  refine eb_g (p := hT h a0 = 5) (101, [.ref a0, d1, d2, .int a3, d4], [], h2) (by rw [eh2]; rfl) g1 ?_
  rw [sv_inj e]
  exact eb_r rfl
set_option maxRecDepth 100000 in
set_option maxHeartbeats 4000000 in
theorem f_Rack_letDry_b90_ev {h' : AH} (d : Nat) (hd : 3 ≤ d) (k5 : AH → Nat → Int32 → Nat → Int32 → Int32 → Option AH) (hk5 : ∀ (h : AH) (a0 : Nat) (a1 : Int32) (a2 : Nat) (a3 : Int32) (a4 : Int32)  , k5 h a0 a1 a2 a3 a4 = some h' → Eb (Ev tb mL d) 147 (5, [.ref a0, .int a1, .ref a2, .int a3, .int a4], [], h) h' none)  (h : AH) (a0 : Nat) (a1 : Int32) (a2 : Nat) (a3 : Int32) (a4 : Int32)   (e : f_Rack_letDry_b90 k5 h a0 a1 a2 a3 a4 = some h') : Eb (Ev tb mL d) 147 (90, [.ref a0, .int a1, .ref a2, .int a3, .int a4], [], h) h' none := by
  unfold f_Rack_letDry_b90 at e
  obtain ⟨x1, hx1, e⟩ := lq_some e
  refine eb_n 1 (93, [.ref a0, .int a1, .ref a2, .int a3, .int x1], [], h) (by subst hx1; rfl) ?_
  refine eb_n 1 (5, [.ref a0, .int a1, .ref a2, .int a3, .int x1], [], h) (rfl) ?_
  exact hk5 _ _ _ _ _ _  e
set_option maxRecDepth 100000 in
set_option maxHeartbeats 4000000 in
theorem f_Rack_letDry_b50_ev {h' : AH} (d : Nat) (hd : 3 ≤ d) (k5 : AH → Nat → Int32 → Nat → Int32 → Int32 → Option AH) (hk5 : ∀ (h : AH) (a0 : Nat) (a1 : Int32) (a2 : Nat) (a3 : Int32) (a4 : Int32)  , k5 h a0 a1 a2 a3 a4 = some h' → Eb (Ev tb mL d) 147 (5, [.ref a0, .int a1, .ref a2, .int a3, .int a4], [], h) h' none)  (h : AH) (a0 : Nat) (a1 : Int32) (a2 : Nat) (a3 : Int32) (a4 : Int32)   (e : f_Rack_letDry_b50 k5 h a0 a1 a2 a3 a4 = some h') : Eb (Ev tb mL d) 147 (50, [.ref a0, .int a1, .ref a2, .int a3, .int a4], [], h) h' none := by
  unfold f_Rack_letDry_b50 at e
  refine eb_n 1 (51, [.ref a0, .int a1, .ref a2, .int a3, .int a4], [.ref a0], h) (rfl) ?_
  obtain ⟨g1, e⟩ := gd_some e
  refine eb_g (p := hT h a0 = 5) (54, [.ref a0, .int a1, .ref a2, .int a3, .int a4], [.ref (hR h a0 4)], h) rfl g1 ?_
  refine eb_n 1 (56, [.ref a0, .int a1, .ref a2, .int a3, .int a4], [.int a4, .ref (hR h a0 4)], h) (rfl) ?_
  obtain ⟨g2, e⟩ := gd_some e
  refine eb_g (p := hT h (hR h a0 4) = 101 ∧ inb a4 (hL h (hR h a0 4))) (57, [.ref a0, .int a1, .ref a2, .int a3, .int a4], [.int (hI h (hR h a0 4) (ix a4))], h) rfl g2 ?_
  refine eb_n 1 (58, [.ref a0, .int a1, .ref a2, .int a3, .int a4], [.ref a0, .int (hI h (hR h a0 4) (ix a4))], h) (rfl) ?_
  refine eb_g (p := hT h a0 = 5) (61, [.ref a0, .int a1, .ref a2, .int a3, .int a4], [.ref (hR h a0 5), .int (hI h (hR h a0 4) (ix a4))], h) rfl g1 ?_
  refine eb_n 1 (63, [.ref a0, .int a1, .ref a2, .int a3, .int a4], [.int a4, .ref (hR h a0 5), .int (hI h (hR h a0 4) (ix a4))], h) (rfl) ?_
  obtain ⟨g3, e⟩ := gd_some e
  refine eb_g (p := hT h (hR h a0 5) = 101 ∧ inb a4 (hL h (hR h a0 5))) (64, [.ref a0, .int a1, .ref a2, .int a3, .int a4], [.int (hI h (hR h a0 5) (ix a4)), .int (hI h (hR h a0 4) (ix a4))], h) rfl g3 ?_
  obtain ⟨h4, r5, eh4, e⟩ := bn_some e
  refine eb_c rfl (f_Rack_isDry_ev d (Nat.le_trans (by decide) hd) eh4) ?_
  show Eb _ 147 (67, [.ref a0, .int a1, .ref a2, .int a3, .int a4], [.int r5], h4) _ _
  refine eb_b (c := r5 = 0) (80, [.ref a0, .int a1, .ref a2, .int a3, .int a4], [], h4) (70, [.ref a0, .int a1, .ref a2, .int a3, .int a4], [], h4) rfl (fun c6 => ?_) (fun c6 => ?_)
  · replace e := ite_t c6 e
    refine eb_n 3 (84, [.ref a0, .int a1, .ref a2, .int a3, .int a4], [.int a4, .int a3, .ref a0], h4) (rfl) ?_
    obtain ⟨g7, e⟩ := gd_some e
    obtain ⟨h8, eh8, e⟩ := bv_some e
    refine eb_cg (p := hT h4 a0 = 5) rfl g7 (f_Rack_moveTo_ev d (Nat.le_trans (by decide) hd) eh8) ?_
    show Eb _ 147 (87, [.ref a0, .int a1, .ref a2, .int a3, .int a4], [], h8) _ _
    obtain ⟨x9, hx9, e⟩ := lq_some e
    refine eb_n 1 (90, [.ref a0, .int a1, .ref a2, .int x9, .int a4], [], h8) (by subst hx9; rfl) ?_
    exact f_Rack_letDry_b90_ev d hd k5 hk5 _ _ _ _ _ _  e
  · replace e := ite_f c6 e
    refine eb_n 3 (74, [.ref a0, .int a1, .ref a2, .int a3, .int a4], [.ref a2, .int a4, .ref a0], h4) (rfl) ?_
    obtain ⟨g10, e⟩ := gd_some e
    obtain ⟨h11, eh11, e⟩ := bv_some e
    refine eb_cg (p := hT h4 a0 = 5) rfl g10 (f_Rack_storeAt_ev d (Nat.le_trans (by decide) hd) eh11) ?_
    show Eb _ 147 (77, [.ref a0, .int a1, .ref a2, .int a3, .int a4], [], h11) _ _
    refine eb_n 1 (90, [.ref a0, .int a1, .ref a2, .int a3, .int a4], [], h11) (rfl) ?_
    exact f_Rack_letDry_b90_ev d hd k5 hk5 _ _ _ _ _ _  e
set_option maxRecDepth 100000 in
set_option maxHeartbeats 4000000 in
theorem f_Rack_letDry_b5_ev {h' : AH} (d : Nat) (hd : 3 ≤ d) (k5 : AH → Nat → Int32 → Nat → Int32 → Int32 → Option AH) (hk5 : ∀ (h : AH) (a0 : Nat) (a1 : Int32) (a2 : Nat) (a3 : Int32) (a4 : Int32)  , k5 h a0 a1 a2 a3 a4 = some h' → Eb (Ev tb mL d) 147 (5, [.ref a0, .int a1, .ref a2, .int a3, .int a4], [], h) h' none)  (h : AH) (a0 : Nat) (a1 : Int32) (a2 : Nat) (a3 : Int32) (a4 : Int32)   (e : f_Rack_letDry_b5 k5 h a0 a1 a2 a3 a4 = some h') : Eb (Ev tb mL d) 147 (5, [.ref a0, .int a1, .ref a2, .int a3, .int a4], [], h) h' none := by
  unfold f_Rack_letDry_b5 at e
  refine eb_n 2 (8, [.ref a0, .int a1, .ref a2, .int a3, .int a4], [.ref a0, .int a4], h) (rfl) ?_
  obtain ⟨g1, e⟩ := gd_some e
  refine eb_g (p := hT h a0 = 5) (11, [.ref a0, .int a1, .ref a2, .int a3, .int a4], [.int (hI h a0 2), .int a4], h) rfl g1 ?_
  refine eb_b (c := (hI h a0 2) ≤ a4) (96, [.ref a0, .int a1, .ref a2, .int a3, .int a4], [], h) (14, [.ref a0, .int a1, .ref a2, .int a3, .int a4], [], h) rfl (fun c2 => ?_) (fun c2 => ?_)
  · replace e := ite_t c2 e
    exact f_Rack_letDry_b96_ev d hd   _ _ _ _ _ _ e
  · replace e := ite_f c2 e
    refine eb_n 2 (18, [.ref a0, .int a1, .ref a2, .int a3, .int a4], [.int (nI 60), .int a4], h) (rfl) ?_
    refine eb_b (c := (nI 60) ≤ a4) (96, [.ref a0, .int a1, .ref a2, .int a3, .int a4], [], h) (21, [.ref a0, .int a1, .ref a2, .int a3, .int a4], [], h) rfl (fun c3 => ?_) (fun c3 => ?_)
    · replace e := ite_t c3 e
      exact f_Rack_letDry_b96_ev d hd   _ _ _ _ _ _ e
    · replace e := ite_f c3 e
      refine eb_n 1 (22, [.ref a0, .int a1, .ref a2, .int a3, .int a4], [.int a1], h) (rfl) ?_
      refine eb_b (c := ¬ a1 = 0) (39, [.ref a0, .int a1, .ref a2, .int a3, .int a4], [], h) (25, [.ref a0, .int a1, .ref a2, .int a3, .int a4], [], h) rfl (fun c4 => ?_) (fun c4 => ?_)
      · replace e := ite_t c4 e
        refine eb_n 1 (40, [.ref a0, .int a1, .ref a2, .int a3, .int a4], [.ref a0], h) (rfl) ?_
        refine eb_g (p := hT h a0 = 5) (43, [.ref a0, .int a1, .ref a2, .int a3, .int a4], [.ref (hR h a0 5)], h) rfl g1 ?_
        refine eb_n 2 (46, [.ref a0, .int a1, .ref a2, .int a3, .int a4], [.int a4, .ref (hR h a0 5), .int a4, .ref (hR h a0 5)], h) (rfl) ?_
        obtain ⟨g5, e⟩ := gd_some e
        refine eb_g (p := hT h (hR h a0 5) = 101 ∧ inb a4 (hL h (hR h a0 5))) (47, [.ref a0, .int a1, .ref a2, .int a3, .int a4], [.int (hI h (hR h a0 5) (ix a4)), .int a4, .ref (hR h a0 5)], h) rfl g5 ?_
        refine eb_n 2 (49, [.ref a0, .int a1, .ref a2, .int a3, .int a4], [.int ((hI h (hR h a0 5) (ix a4)) + a1), .int a4, .ref (hR h a0 5)], h) (rfl) ?_
        obtain ⟨h6, eh6, e⟩ := lq_some e
        refine eb_g (p := hT h (hR h a0 5) = 101 ∧ inb a4 (hL h (hR h a0 5))) (50, [.ref a0, .int a1, .ref a2, .int a3, .int a4], [], h6) (by rw [eh6]; rfl) g5 ?_
        exact f_Rack_letDry_b50_ev d hd k5 hk5 _ _ _ _ _ _  e
      · replace e := ite_f c4 e
        refine eb_n 1 (26, [.ref a0, .int a1, .ref a2, .int a3, .int a4], [.ref a0], h) (rfl) ?_
        refine eb_g (p := hT h a0 = 5) (29, [.ref a0, .int a1, .ref a2, .int a3, .int a4], [.ref (hR h a0 6)], h) rfl g1 ?_
        refine eb_n 2 (32, [.ref a0, .int a1, .ref a2, .int a3, .int a4], [.int a4, .ref (hR h a0 6), .int a4, .ref (hR h a0 6)], h) (rfl) ?_
        obtain ⟨g7, e⟩ := gd_some e
        refine eb_g (p := hT h (hR h a0 6) = 101 ∧ inb a4 (hL h (hR h a0 6))) (33, [.ref a0, .int a1, .ref a2, .int a3, .int a4], [.int (hI h (hR h a0 6) (ix a4)), .int a4, .ref (hR h a0 6)], h) rfl g7 ?_
        refine eb_n 2 (35, [.ref a0, .int a1, .ref a2, .int a3, .int a4], [.int ((hI h (hR h a0 6) (ix a4)) + (nI 1)), .int a4, .ref (hR h a0 6)], h) (rfl) ?_
        obtain ⟨h8, eh8, e⟩ := lq_some e
        refine eb_g (p := hT h (hR h a0 6) = 101 ∧ inb a4 (hL h (hR h a0 6))) (36, [.ref a0, .int a1, .ref a2, .int a3, .int a4], [], h8) (by rw [eh8]; rfl) g7 ?_
        refine eb_n 1 (50, [.ref a0, .int a1, .ref a2, .int a3, .int a4], [], h8) (rfl) ?_
        exact f_Rack_letDry_b50_ev d hd k5 hk5 _ _ _ _ _ _  e
set_option maxRecDepth 100000 in
set_option maxHeartbeats 4000000 in
theorem f_Rack_letDry_l5_ev {h' : AH} (d : Nat) (hd : 3 ≤ d)  : ∀ (n : Nat) (h : AH) (a0 : Nat) (a1 : Int32) (a2 : Nat) (a3 : Int32) (a4 : Int32)   (_ : f_Rack_letDry_l5  n h a0 a1 a2 a3 a4 = some h'), Eb (Ev tb mL d) 147 (5, [.ref a0, .int a1, .ref a2, .int a3, .int a4], [], h) h' none := by
  intro n
  induction n with
  | zero => intro h a0 a1 a2 a3 a4  e; exact nomatch e
  | succ n ih =>
    intro h a0 a1 a2 a3 a4  e
    exact f_Rack_letDry_b5_ev d hd _ (fun h a0 a1 a2 a3 a4  e => ih h a0 a1 a2 a3 a4  e) h a0 a1 a2 a3 a4  e
set_option maxRecDepth 100000 in
set_option maxHeartbeats 4000000 in
theorem f_Rack_letDry_ev (d0 : Nat) (hd0 : 4 ≤ d0) {h' : AH} {h : AH} {a0 : Nat} {a1 : Int32} {a2 : Nat} (e : f_Rack_letDry h a0 a1 a2 = some h') : Ev tb mL d0 147 [.ref a0, .int a1, .ref a2] h h' none := by
  obtain ⟨d, rfl⟩ : ∃ d, d0 = d + 1 := ⟨d0 - 1, by omega⟩
  have hd : 3 ≤ d := by omega
  refine ⟨Nat.le_of_ble_eq_true rfl, ?_⟩
  show Eb (Ev tb mL d) 147 (0, [.ref a0, .int a1, .ref a2, .retAddr 0, .retAddr 0], [], h) h' none
  unfold f_Rack_letDry at e
  refine eb_n 4 (5, [.ref a0, .int a1, .ref a2, .int (nI 0), .int (nI 0)], [], h) (rfl) ?_
  exact f_Rack_letDry_l5_ev d hd   FU _ _ _ _ _ _  e
set_option maxRecDepth 100000 in
set_option maxHeartbeats 4000000 in
theorem f_Boat_comesToMarket_b91_ev {h' : AH} {r : Int32} (d : Nat) (hd : 1 ≤ d)  (h : AH) (a0 : Nat) (s0 : Nat) (s1 : Int32) (d1 : Value) (d2 : Value) (e : f_Boat_comesToMarket_b91  h a0 s0 s1 = some (h', r)) : Eb (Ev tb mL d) 63 (91, [.ref a0, d1, d2], [.int s1, .ref s0], h) h' (some (.int r)) := by
  unfold f_Boat_comesToMarket_b91 at e
  obtain ⟨g1, e⟩ := gd_some e
  obtain ⟨h2, eh2, e⟩ := lq_some e
  refine eb_g (p := hT h s0 = 7) (94, [.ref a0, d1, d2], [], h2) (by rw [eh2]; rfl) g1 ?_
  refine eb_n 1 (95, [.ref a0, d1, d2], [.ref a0], h2) (rfl) ?_
  obtain ⟨g3, e⟩ := gd_some e
  refine eb_g (p := hT h2 a0 = 7) (98, [.ref a0, d1, d2], [.int (hI h2 a0 3)], h2) rfl g3 ?_
  refine eb_n 1 (99, [.ref a0, d1, d2], [.int (nI 2), .int (hI h2 a0 3)], h2) (rfl) ?_
  refine eb_b (c := ¬ (hI h2 a0 3) = (nI 2)) (106, [.ref a0, d1, d2], [], h2) (102, [.ref a0, d1, d2], [], h2) rfl (fun c4 => ?_) (fun c4 => ?_)
  · replace e := ite_t c4 e
    refine eb_n 1 (107, [.ref a0, d1, d2], [.int (nI 0)], h2) (rfl) ?_
    rw [(sp_inj e).1, (sp_inj e).2]
    exact eb_rg (p := nrm 3 (nI 0)) rfl nrm_30
  · replace e := ite_f c4 e
    refine eb_n 2 (107, [.ref a0, d1, d2], [.int (nI 1)], h2) (rfl) ?_
    rw [(sp_inj e).1, (sp_inj e).2]
    exact eb_rg (p := nrm 3 (nI 1)) rfl nrm_31
set_option maxRecDepth 100000 in
set_option maxHeartbeats 4000000 in
theorem f_Boat_comesToMarket_b40_ev {h' : AH} {r : Int32} (d : Nat) (hd : 1 ≤ d)  (h : AH)  (s0 : Nat) (s1 : Int32) (d0 : Value) (d1 : Value) (d2 : Value) (e : f_Boat_comesToMarket_b40  h s0 s1 = some (h', r)) : Eb (Ev tb mL d) 63 (40, [d0, d1, d2], [.int s1, .ref s0], h) h' (some (.int r)) := by
  unfold f_Boat_comesToMarket_b40 at e
  obtain ⟨g1, e⟩ := gd_some e
  obtain ⟨h2, eh2, e⟩ := lq_some e
  refine eb_g (p := hT h s0 = 7) (43, [d0, d1, d2], [], h2) (by rw [eh2]; rfl) g1 ?_
  refine eb_n 1 (44, [d0, d1, d2], [.int (nI 0)], h2) (rfl) ?_
  rw [(sp_inj e).1, (sp_inj e).2]
  exact eb_rg (p := nrm 3 (nI 0)) rfl nrm_30
set_option maxRecDepth 100000 in
set_option maxHeartbeats 4000000 in
theorem f_Boat_comesToMarket_ev (d0 : Nat) (hd0 : 2 ≤ d0) {h' : AH} {r : Int32} {h : AH} {a0 : Nat} {a1 : Int32} {a2 : Int32} (e : f_Boat_comesToMarket h a0 a1 a2 = some (h', r)) : Ev tb mL d0 63 [.ref a0, .int a1, .int a2] h h' (some (.int r)) := by
  obtain ⟨d, rfl⟩ : ∃ d, d0 = d + 1 := ⟨d0 - 1, by omega⟩
  have hd : 1 ≤ d := by omega
  refine ⟨Nat.le_of_ble_eq_true rfl, ?_⟩
  show Eb (Ev tb mL d) 63 (0, [.ref a0, .int a1, .int a2], [], h) h' (some (.int r))
  unfold f_Boat_comesToMarket at e
  refine eb_n 1 (1, [.ref a0, .int a1, .int a2], [.ref a0], h) (rfl) ?_
  obtain ⟨g1, e⟩ := gd_some e
  refine eb_g (p := hT h a0 = 7) (4, [.ref a0, .int a1, .int a2], [.int (hI h a0 3)], h) rfl g1 ?_
  refine eb_n 1 (5, [.ref a0, .int a1, .int a2], [.int (nI 2), .int (hI h a0 3)], h) (rfl) ?_
  refine eb_b (c := ¬ (hI h a0 3) = (nI 2)) (45, [.ref a0, .int a1, .int a2], [], h) (8, [.ref a0, .int a1, .int a2], [], h) rfl (fun c2 => ?_) (fun c2 => ?_)
  · replace e := ite_t c2 e
    refine eb_n 1 (46, [.ref a0, .int a1, .int a2], [.ref a0], h) (rfl) ?_
    refine eb_g (p := hT h a0 = 7) (49, [.ref a0, .int a1, .int a2], [.int (hI h a0 3)], h) rfl g1 ?_
    refine eb_b (c := ¬ (hI h a0 3) = 0) (54, [.ref a0, .int a1, .int a2], [], h) (52, [.ref a0, .int a1, .int a2], [], h) rfl (fun c3 => ?_) (fun c3 => ?_)
    · replace e := ite_t c3 e
      refine eb_n 3 (57, [.ref a0, .int a1, .int a2], [.ref a0, .int a1, .ref a0], h) (rfl) ?_
      refine eb_g (p := hT h a0 = 7) (60, [.ref a0, .int a1, .int a2], [.int (hI h a0 2), .int a1, .ref a0], h) rfl g1 ?_
      refine eb_n 2 (62, [.ref a0, .int a1, .int a2], [.ref a0, .int (nI 1), .int (hI h a0 2), .int a1, .ref a0], h) (rfl) ?_
      refine eb_g (p := hT h a0 = 7) (65, [.ref a0, .int a1, .int a2], [.int (hI h a0 1), .int (nI 1), .int (hI h a0 2), .int a1, .ref a0], h) rfl g1 ?_
      refine eb_n 2 (67, [.ref a0, .int a1, .int a2], [.int ((hI h a0 1) - a2), .int (nI 1), .int (hI h a0 2), .int a1, .ref a0], h) (rfl) ?_
      obtain ⟨h4, r5, eh4, e⟩ := bn_some e
      refine eb_c rfl (f_Math_max_ev d (Nat.le_trans (by decide) hd) eh4) ?_
      show Eb _ 63 (70, [.ref a0, .int a1, .int a2], [.int r5, .int (hI h a0 2), .int a1, .ref a0], h4) _ _
      refine eb_n 1 (71, [.ref a0, .int a1, .int a2], [.int ((hI h a0 2) + r5), .int a1, .ref a0], h4) (rfl) ?_
      obtain ⟨h6, r7, eh6, e⟩ := bn_some e
      refine eb_c rfl (f_Math_min_ev d (Nat.le_trans (by decide) hd) eh6) ?_
      show Eb _ 63 (74, [.ref a0, .int a1, .int a2], [.int r7, .ref a0], h6) _ _
      obtain ⟨g8, e⟩ := gd_some e
      obtain ⟨h9, eh9, e⟩ := lq_some e
      refine eb_g (p := hT h6 a0 = 7) (77, [.ref a0, .int a1, .int a2], [], h9) (by rw [eh9]; rfl) g8 ?_
      refine eb_n 2 (79, [.ref a0, .int a1, .int a2], [.ref a0, .ref a0], h9) (rfl) ?_
      obtain ⟨g10, e⟩ := gd_some e
      refine eb_g (p := hT h9 a0 = 7) (82, [.ref a0, .int a1, .int a2], [.int (hI h9 a0 2), .ref a0], h9) rfl g10 ?_
      refine eb_n 1 (83, [.ref a0, .int a1, .int a2], [.int a1, .int (hI h9 a0 2), .ref a0], h9) (rfl) ?_
      refine eb_b (c := ¬ (hI h9 a0 2) = a1) (90, [.ref a0, .int a1, .int a2], [.ref a0], h9) (86, [.ref a0, .int a1, .int a2], [.ref a0], h9) rfl (fun c11 => ?_) (fun c11 => ?_)
      · replace e := ite_t c11 e
        refine eb_n 1 (91, [.ref a0, .int a1, .int a2], [.int (nI 1), .ref a0], h9) (rfl) ?_
        exact f_Boat_comesToMarket_b91_ev d hd   _ _ _ _ _ _ e
      · replace e := ite_f c11 e
        refine eb_n 2 (91, [.ref a0, .int a1, .int a2], [.int (nI 2), .ref a0], h9) (rfl) ?_
        exact f_Boat_comesToMarket_b91_ev d hd   _ _ _ _ _ _ e
    · replace e := ite_f c3 e
      refine eb_n 1 (53, [.ref a0, .int a1, .int a2], [.int (nI 0)], h) (rfl) ?_
      rw [(sp_inj e).1, (sp_inj e).2]
      exact eb_rg (p := nrm 3 (nI 0)) rfl nrm_30
  · replace e := ite_f c2 e
    refine eb_n 3 (11, [.ref a0, .int a1, .int a2], [.ref a0, .int (nI 0), .ref a0], h) (rfl) ?_
    refine eb_g (p := hT h a0 = 7) (14, [.ref a0, .int a1, .int a2], [.int (hI h a0 2), .int (nI 0), .ref a0], h) rfl g1 ?_
    refine eb_n 1 (15, [.ref a0, .int a1, .int a2], [.ref a0, .int (hI h a0 2), .int (nI 0), .ref a0], h) (rfl) ?_
    refine eb_g (p := hT h a0 = 7) (18, [.ref a0, .int a1, .int a2], [.int (hI h a0 1), .int (hI h a0 2), .int (nI 0), .ref a0], h) rfl g1 ?_
    refine eb_n 3 (21, [.ref a0, .int a1, .int a2], [.int (((hI h a0 2) - (hI h a0 1)) - a2), .int (nI 0), .ref a0], h) (rfl) ?_
    obtain ⟨h12, r13, eh12, e⟩ := bn_some e
    refine eb_c rfl (f_Math_max_ev d (Nat.le_trans (by decide) hd) eh12) ?_
    show Eb _ 63 (24, [.ref a0, .int a1, .int a2], [.int r13, .ref a0], h12) _ _
    obtain ⟨g14, e⟩ := gd_some e
    obtain ⟨h15, eh15, e⟩ := lq_some e
    refine eb_g (p := hT h12 a0 = 7) (27, [.ref a0, .int a1, .int a2], [], h15) (by rw [eh15]; rfl) g14 ?_
    refine eb_n 2 (29, [.ref a0, .int a1, .int a2], [.ref a0, .ref a0], h15) (rfl) ?_
    obtain ⟨g16, e⟩ := gd_some e
    refine eb_g (p := hT h15 a0 = 7) (32, [.ref a0, .int a1, .int a2], [.int (hI h15 a0 2), .ref a0], h15) rfl g16 ?_
    refine eb_b (c := ¬ (hI h15 a0 2) = 0) (39, [.ref a0, .int a1, .int a2], [.ref a0], h15) (35, [.ref a0, .int a1, .int a2], [.ref a0], h15) rfl (fun c17 => ?_) (fun c17 => ?_)
    · replace e := ite_t c17 e
      refine eb_n 1 (40, [.ref a0, .int a1, .int a2], [.int (nI 2), .ref a0], h15) (rfl) ?_
      exact f_Boat_comesToMarket_b40_ev d hd   _ _ _ _ _ _ e
    · replace e := ite_f c17 e
      refine eb_n 2 (40, [.ref a0, .int a1, .int a2], [.int (nI 0), .ref a0], h15) (rfl) ?_
      exact f_Boat_comesToMarket_b40_ev d hd   _ _ _ _ _ _ e
set_option maxRecDepth 100000 in
set_option maxHeartbeats 4000000 in
theorem f_Grade_worthOf_b4_ev {h' : AH} {r : Int32} (d : Nat) (hd : 1 ≤ d) (k4 : AH → Nat → Int32 → Int32 → Int32 → Option (AH × Int32)) (hk4 : ∀ (h : AH) (a0 : Nat) (a1 : Int32) (a2 : Int32) (a3 : Int32)  , k4 h a0 a1 a2 a3 = some (h', r) → Eb (Ev tb mL d) 66 (4, [.ref a0, .int a1, .int a2, .int a3], [], h) h' (some (.int r)))  (h : AH) (a0 : Nat) (a1 : Int32) (a2 : Int32) (a3 : Int32)   (e : f_Grade_worthOf_b4 k4 h a0 a1 a2 a3 = some (h', r)) : Eb (Ev tb mL d) 66 (4, [.ref a0, .int a1, .int a2, .int a3], [], h) h' (some (.int r)) := by
  unfold f_Grade_worthOf_b4 at e
  refine eb_n 2 (6, [.ref a0, .int a1, .int a2, .int a3], [.int a1, .int a3], h) (rfl) ?_
  refine eb_b (c := a1 ≤ a3) (28, [.ref a0, .int a1, .int a2, .int a3], [], h) (9, [.ref a0, .int a1, .int a2, .int a3], [], h) rfl (fun c1 => ?_) (fun c1 => ?_)
  · replace e := ite_t c1 e
    refine eb_n 1 (29, [.ref a0, .int a1, .int a2, .int a3], [.int a2], h) (rfl) ?_
    rw [(sp_inj e).1, (sp_inj e).2]
    exact eb_rg (p := nrm 0 a2) rfl (nrm_0 _)
  · replace e := ite_f c1 e
    refine eb_n 3 (12, [.ref a0, .int a1, .int a2, .int a3], [.ref a0, .ref a0, .int a2], h) (rfl) ?_
    obtain ⟨g2, e⟩ := gd_some e
    refine eb_g (p := hT h a0 = 8) (15, [.ref a0, .int a1, .int a2, .int a3], [.int (hI h a0 2), .ref a0, .int a2], h) rfl g2 ?_
    refine eb_n 2 (17, [.ref a0, .int a1, .int a2, .int a3], [.int ((hI h a0 2) + a3), .ref a0, .int a2], h) (rfl) ?_
    obtain ⟨h3, r4, eh3, e⟩ := bn_some e
    refine eb_cg (p := hT h a0 = 8) rfl g2 (f_Grade_priceAt_ev d (Nat.le_trans (by decide) hd) eh3) ?_
    show Eb _ 66 (20, [.ref a0, .int a1, .int a2, .int a3], [.int r4, .int a2], h3) _ _
    obtain ⟨x5, hx5, e⟩ := lq_some e
    refine eb_n 2 (22, [.ref a0, .int a1, .int x5, .int a3], [], h3) (by subst hx5; rfl) ?_
    obtain ⟨x6, hx6, e⟩ := lq_some e
    refine eb_n 1 (25, [.ref a0, .int a1, .int x5, .int x6], [], h3) (by subst hx6; rfl) ?_
    refine eb_n 1 (4, [.ref a0, .int a1, .int x5, .int x6], [], h3) (rfl) ?_
    exact hk4 _ _ _ _ _  e
set_option maxRecDepth 100000 in
set_option maxHeartbeats 4000000 in
theorem f_Grade_worthOf_l4_ev {h' : AH} {r : Int32} (d : Nat) (hd : 1 ≤ d)  : ∀ (n : Nat) (h : AH) (a0 : Nat) (a1 : Int32) (a2 : Int32) (a3 : Int32)   (_ : f_Grade_worthOf_l4  n h a0 a1 a2 a3 = some (h', r)), Eb (Ev tb mL d) 66 (4, [.ref a0, .int a1, .int a2, .int a3], [], h) h' (some (.int r)) := by
  intro n
  induction n with
  | zero => intro h a0 a1 a2 a3  e; exact nomatch e
  | succ n ih =>
    intro h a0 a1 a2 a3  e
    exact f_Grade_worthOf_b4_ev d hd _ (fun h a0 a1 a2 a3  e => ih h a0 a1 a2 a3  e) h a0 a1 a2 a3  e
set_option maxRecDepth 100000 in
set_option maxHeartbeats 4000000 in
theorem f_Grade_worthOf_ev (d0 : Nat) (hd0 : 2 ≤ d0) {h' : AH} {r : Int32} {h : AH} {a0 : Nat} {a1 : Int32} (e : f_Grade_worthOf h a0 a1 = some (h', r)) : Ev tb mL d0 66 [.ref a0, .int a1] h h' (some (.int r)) := by
  obtain ⟨d, rfl⟩ : ∃ d, d0 = d + 1 := ⟨d0 - 1, by omega⟩
  have hd : 1 ≤ d := by omega
  refine ⟨Nat.le_of_ble_eq_true rfl, ?_⟩
  show Eb (Ev tb mL d) 66 (0, [.ref a0, .int a1, .retAddr 0, .retAddr 0], [], h) h' (some (.int r))
  unfold f_Grade_worthOf at e
  refine eb_n 4 (4, [.ref a0, .int a1, .int (nI 0), .int (nI 0)], [], h) (rfl) ?_
  exact f_Grade_worthOf_l4_ev d hd   FU _ _ _ _ _  e
set_option maxRecDepth 100000 in
set_option maxHeartbeats 4000000 in
theorem f_River_sellQuills_b89_ev {h' : AH} (d : Nat) (hd : 2 ≤ d)  (h : AH) (a1 : Nat)  (d0 : Value) (d2 : Value) (d3 : Value) (e : f_River_sellQuills_b89  h a1 = some h') : Eb (Ev tb mL d) 148 (89, [d0, .ref a1, d2, d3], [], h) h' none := by
  unfold f_River_sellQuills_b89 at e
  refine eb_n 2 (91, [d0, .ref a1, d2, d3], [.int (nI 0), .ref a1], h) (rfl) ?_
  obtain ⟨g1, e⟩ := gd_some e
  obtain ⟨h2, eh2, e⟩ := lq_some e
  refine eb_g (p := hT h a1 = 7) (94, [d0, .ref a1, d2, d3], [], h2) (by rw [eh2]; rfl) g1 ?_
  refine eb_n 2 (96, [d0, .ref a1, d2, d3], [.int (-nI 1), .ref a1], h2) (rfl) ?_
  obtain ⟨g3, e⟩ := gd_some e
  obtain ⟨h4, eh4, e⟩ := lq_some e
  refine eb_g (p := hT h2 a1 = 7) (99, [d0, .ref a1, d2, d3], [], h4) (by rw [eh4]; rfl) g3 ?_
  rw [sv_inj e]
  exact eb_r rfl
set_option maxRecDepth 100000 in
set_option maxHeartbeats 4000000 in
theorem f_River_sellQuills_ev (d0 : Nat) (hd0 : 3 ≤ d0) {h' : AH} {h : AH} {a0 : Nat} {a1 : Nat} (e : f_River_sellQuills h a0 a1 = some h') : Ev tb mL d0 148 [.ref a0, .ref a1] h h' none := by
  obtain ⟨d, rfl⟩ : ∃ d, d0 = d + 1 := ⟨d0 - 1, by omega⟩
  have hd : 2 ≤ d := by omega
  refine ⟨Nat.le_of_ble_eq_true rfl, ?_⟩
  show Eb (Ev tb mL d) 148 (0, [.ref a0, .ref a1, .retAddr 0, .retAddr 0], [], h) h' none
  unfold f_River_sellQuills at e
  refine eb_n 2 (2, [.ref a0, .ref a1, .retAddr 0, .retAddr 0], [.ref a1, .ref a0], h) (rfl) ?_
  obtain ⟨g1, e⟩ := gd_some e
  refine eb_g (p := hT h a1 = 7) (5, [.ref a0, .ref a1, .retAddr 0, .retAddr 0], [.int (hI h a1 5), .ref a0], h) rfl g1 ?_
  obtain ⟨g2, e⟩ := gd_some e
  obtain ⟨h3, r4, eh3, e⟩ := bn_some e
  refine eb_cg (p := hT h a0 = 3) rfl g2 (f_River_hasGrade_ev d (Nat.le_trans (by decide) hd) eh3) ?_
  show Eb _ 148 (8, [.ref a0, .ref a1, .retAddr 0, .retAddr 0], [.int r4], h3) _ _
  refine eb_b (c := r4 = 0) (89, [.ref a0, .ref a1, .retAddr 0, .retAddr 0], [], h3) (11, [.ref a0, .ref a1, .retAddr 0, .retAddr 0], [], h3) rfl (fun c5 => ?_) (fun c5 => ?_)
  · replace e := ite_t c5 e
    exact f_River_sellQuills_b89_ev d hd   _ _ _ _ _ e
  · replace e := ite_f c5 e
    refine eb_n 1 (12, [.ref a0, .ref a1, .retAddr 0, .retAddr 0], [.ref a0], h3) (rfl) ?_
    obtain ⟨g6, e⟩ := gd_some e
    refine eb_g (p := hT h3 a0 = 3) (15, [.ref a0, .ref a1, .retAddr 0, .retAddr 0], [.ref (hR h3 a0 4)], h3) rfl g6 ?_
    refine eb_n 1 (16, [.ref a0, .ref a1, .retAddr 0, .retAddr 0], [.ref a1, .ref (hR h3 a0 4)], h3) (rfl) ?_
    obtain ⟨g7, e⟩ := gd_some e
    refine eb_g (p := hT h3 a1 = 7) (19, [.ref a0, .ref a1, .retAddr 0, .retAddr 0], [.int (hI h3 a1 5), .ref (hR h3 a0 4)], h3) rfl g7 ?_
    obtain ⟨g8, e⟩ := gd_some e
    refine eb_g (p := hT h3 (hR h3 a0 4) = 108 ∧ inb (hI h3 a1 5) (hL h3 (hR h3 a0 4))) (20, [.ref a0, .ref a1, .retAddr 0, .retAddr 0], [.ref (hR h3 (hR h3 a0 4) (ix (hI h3 a1 5)))], h3) rfl g8 ?_
    obtain ⟨x9, hx9, e⟩ := lq_some e
    refine eb_n 1 (21, [.ref a0, .ref a1, .ref x9, .retAddr 0], [], h3) (by subst hx9; rfl) ?_
    refine eb_n 2 (23, [.ref a0, .ref a1, .ref x9, .retAddr 0], [.ref a1, .ref x9], h3) (rfl) ?_
    refine eb_g (p := hT h3 a1 = 7) (26, [.ref a0, .ref a1, .ref x9, .retAddr 0], [.int (hI h3 a1 4), .ref x9], h3) rfl g7 ?_
    obtain ⟨g10, e⟩ := gd_some e
    obtain ⟨h11, r12, eh11, e⟩ := bn_some e
    refine eb_cg (p := hT h3 x9 = 8) rfl g10 (f_Grade_worthOf_ev d (Nat.le_trans (by decide) hd) eh11) ?_
    show Eb _ 148 (29, [.ref a0, .ref a1, .ref x9, .retAddr 0], [.int r12], h11) _ _
    refine eb_n 3 (32, [.ref a0, .ref a1, .ref x9, .int r12], [.ref x9, .ref x9], h11) (rfl) ?_
    obtain ⟨g13, e⟩ := gd_some e
    refine eb_g (p := hT h11 x9 = 8) (35, [.ref a0, .ref a1, .ref x9, .int r12], [.int (hI h11 x9 2), .ref x9], h11) rfl g13 ?_
    refine eb_n 1 (36, [.ref a0, .ref a1, .ref x9, .int r12], [.ref a1, .int (hI h11 x9 2), .ref x9], h11) (rfl) ?_
    obtain ⟨g14, e⟩ := gd_some e
    refine eb_g (p := hT h11 a1 = 7) (39, [.ref a0, .ref a1, .ref x9, .int r12], [.int (hI h11 a1 4), .int (hI h11 x9 2), .ref x9], h11) rfl g14 ?_
    refine eb_n 1 (40, [.ref a0, .ref a1, .ref x9, .int r12], [.int ((hI h11 x9 2) + (hI h11 a1 4)), .ref x9], h11) (rfl) ?_
    obtain ⟨h15, eh15, e⟩ := lq_some e
    refine eb_g (p := hT h11 x9 = 8) (43, [.ref a0, .ref a1, .ref x9, .int r12], [], h15) (by rw [eh15]; rfl) g13 ?_
    refine eb_n 2 (45, [.ref a0, .ref a1, .ref x9, .int r12], [.ref x9, .ref x9], h15) (rfl) ?_
    obtain ⟨g16, e⟩ := gd_some e
    refine eb_g (p := hT h15 x9 = 8) (48, [.ref a0, .ref a1, .ref x9, .int r12], [.int (hI h15 x9 3), .ref x9], h15) rfl g16 ?_
    refine eb_n 1 (49, [.ref a0, .ref a1, .ref x9, .int r12], [.ref a1, .int (hI h15 x9 3), .ref x9], h15) (rfl) ?_
    obtain ⟨g17, e⟩ := gd_some e
    refine eb_g (p := hT h15 a1 = 7) (52, [.ref a0, .ref a1, .ref x9, .int r12], [.int (hI h15 a1 4), .int (hI h15 x9 3), .ref x9], h15) rfl g17 ?_
    refine eb_n 1 (53, [.ref a0, .ref a1, .ref x9, .int r12], [.int ((hI h15 x9 3) + (hI h15 a1 4)), .ref x9], h15) (rfl) ?_
    obtain ⟨h18, eh18, e⟩ := lq_some e
    refine eb_g (p := hT h15 x9 = 8) (56, [.ref a0, .ref a1, .ref x9, .int r12], [], h18) (by rw [eh18]; rfl) g16 ?_
    refine eb_n 2 (58, [.ref a0, .ref a1, .ref x9, .int r12], [.ref a0, .ref a0], h18) (rfl) ?_
    obtain ⟨g19, e⟩ := gd_some e
    refine eb_g (p := hT h18 a0 = 3) (61, [.ref a0, .ref a1, .ref x9, .int r12], [.int (hI h18 a0 16), .ref a0], h18) rfl g19 ?_
    refine eb_n 1 (62, [.ref a0, .ref a1, .ref x9, .int r12], [.ref a1, .int (hI h18 a0 16), .ref a0], h18) (rfl) ?_
    obtain ⟨g20, e⟩ := gd_some e
    refine eb_g (p := hT h18 a1 = 7) (65, [.ref a0, .ref a1, .ref x9, .int r12], [.int (hI h18 a1 4), .int (hI h18 a0 16), .ref a0], h18) rfl g20 ?_
    refine eb_n 1 (66, [.ref a0, .ref a1, .ref x9, .int r12], [.int ((hI h18 a0 16) + (hI h18 a1 4)), .ref a0], h18) (rfl) ?_
    obtain ⟨h21, eh21, e⟩ := lq_some e
    refine eb_g (p := hT h18 a0 = 3) (69, [.ref a0, .ref a1, .ref x9, .int r12], [], h21) (by rw [eh21]; rfl) g19 ?_
    refine eb_n 2 (71, [.ref a0, .ref a1, .ref x9, .int r12], [.ref a0, .ref a0], h21) (rfl) ?_
    obtain ⟨g22, e⟩ := gd_some e
    refine eb_g (p := hT h21 a0 = 3) (74, [.ref a0, .ref a1, .ref x9, .int r12], [.int (hI h21 a0 12), .ref a0], h21) rfl g22 ?_
    refine eb_n 2 (76, [.ref a0, .ref a1, .ref x9, .int r12], [.int ((hI h21 a0 12) + r12), .ref a0], h21) (rfl) ?_
    obtain ⟨h23, eh23, e⟩ := lq_some e
    refine eb_g (p := hT h21 a0 = 3) (79, [.ref a0, .ref a1, .ref x9, .int r12], [], h23) (by rw [eh23]; rfl) g22 ?_
    refine eb_n 2 (81, [.ref a0, .ref a1, .ref x9, .int r12], [.ref a1, .ref a1], h23) (rfl) ?_
    obtain ⟨g24, e⟩ := gd_some e
    refine eb_g (p := hT h23 a1 = 7) (84, [.ref a0, .ref a1, .ref x9, .int r12], [.int (hI h23 a1 6), .ref a1], h23) rfl g24 ?_
    refine eb_n 2 (86, [.ref a0, .ref a1, .ref x9, .int r12], [.int ((hI h23 a1 6) + r12), .ref a1], h23) (rfl) ?_
    obtain ⟨h25, eh25, e⟩ := lq_some e
    refine eb_g (p := hT h23 a1 = 7) (89, [.ref a0, .ref a1, .ref x9, .int r12], [], h25) (by rw [eh25]; rfl) g24 ?_
    exact f_River_sellQuills_b89_ev d hd   _ _ _ _ _ e
set_option maxRecDepth 100000 in
set_option maxHeartbeats 4000000 in
theorem f_River_endHour_b2_ev {h' : AH} (d : Nat) (hd : 1 ≤ d) (k2 : AH → Nat → Int32 → Option AH) (hk2 : ∀ (h : AH) (a0 : Nat) (a1 : Int32)  , k2 h a0 a1 = some h' → Eb (Ev tb mL d) 149 (2, [.ref a0, .int a1], [], h) h' none)  (h : AH) (a0 : Nat) (a1 : Int32)   (e : f_River_endHour_b2 k2 h a0 a1 = some h') : Eb (Ev tb mL d) 149 (2, [.ref a0, .int a1], [], h) h' none := by
  unfold f_River_endHour_b2 at e
  refine eb_n 2 (4, [.ref a0, .int a1], [.int (nI 4), .int a1], h) (rfl) ?_
  refine eb_b (c := (nI 4) ≤ a1) (37, [.ref a0, .int a1], [], h) (7, [.ref a0, .int a1], [], h) rfl (fun c1 => ?_) (fun c1 => ?_)
  · replace e := ite_t c1 e
    refine eb_n 2 (39, [.ref a0, .int a1], [.ref a0, .ref a0], h) (rfl) ?_
    obtain ⟨g2, e⟩ := gd_some e
    refine eb_g (p := hT h a0 = 3) (42, [.ref a0, .int a1], [.int (hI h a0 11), .ref a0], h) rfl g2 ?_
    refine eb_n 2 (44, [.ref a0, .int a1], [.int ((hI h a0 11) + (nI 1)), .ref a0], h) (rfl) ?_
    obtain ⟨h3, eh3, e⟩ := lq_some e
    refine eb_g (p := hT h a0 = 3) (47, [.ref a0, .int a1], [], h3) (by rw [eh3]; rfl) g2 ?_
    refine eb_n 3 (52, [.ref a0, .int a1], [.ref a0, .int (nI 99999), .ref a0], h3) (rfl) ?_
    obtain ⟨g4, e⟩ := gd_some e
    refine eb_g (p := hT h3 a0 = 3) (55, [.ref a0, .int a1], [.int (hI h3 a0 12), .int (nI 99999), .ref a0], h3) rfl g4 ?_
    obtain ⟨h5, r6, eh5, e⟩ := bn_some e
    refine eb_c rfl (f_Math_min_ev d (Nat.le_trans (by decide) hd) eh5) ?_
    show Eb _ 149 (58, [.ref a0, .int a1], [.int r6, .ref a0], h5) _ _
    obtain ⟨g7, e⟩ := gd_some e
    obtain ⟨h8, eh8, e⟩ := lq_some e
    refine eb_g (p := hT h5 a0 = 3) (61, [.ref a0, .int a1], [], h8) (by rw [eh8]; rfl) g7 ?_
    rw [sv_inj e]
    exact eb_r rfl
  · replace e := ite_f c1 e
    refine eb_n 1 (8, [.ref a0, .int a1], [.ref a0], h) (rfl) ?_
    obtain ⟨g9, e⟩ := gd_some e
    refine eb_g (p := hT h a0 = 3) (11, [.ref a0, .int a1], [.ref (hR h a0 4)], h) rfl g9 ?_
    refine eb_n 1 (12, [.ref a0, .int a1], [.int a1, .ref (hR h a0 4)], h) (rfl) ?_
    obtain ⟨g10, e⟩ := gd_some e
    refine eb_g (p := hT h (hR h a0 4) = 108 ∧ inb a1 (hL h (hR h a0 4))) (13, [.ref a0, .int a1], [.ref (hR h (hR h a0 4) (ix a1))], h) rfl g10 ?_
    refine eb_n 2 (15, [.ref a0, .int a1], [.ref a0, .int (nI 0), .ref (hR h (hR h a0 4) (ix a1))], h) (rfl) ?_
    refine eb_g (p := hT h a0 = 3) (18, [.ref a0, .int a1], [.ref (hR h a0 4), .int (nI 0), .ref (hR h (hR h a0 4) (ix a1))], h) rfl g9 ?_
    refine eb_n 1 (19, [.ref a0, .int a1], [.int a1, .ref (hR h a0 4), .int (nI 0), .ref (hR h (hR h a0 4) (ix a1))], h) (rfl) ?_
    refine eb_g (p := hT h (hR h a0 4) = 108 ∧ inb a1 (hL h (hR h a0 4))) (20, [.ref a0, .int a1], [.ref (hR h (hR h a0 4) (ix a1)), .int (nI 0), .ref (hR h (hR h a0 4) (ix a1))], h) rfl g10 ?_
    obtain ⟨g11, e⟩ := gd_some e
    refine eb_g (p := hT h (hR h (hR h a0 4) (ix a1)) = 8) (23, [.ref a0, .int a1], [.int (hI h (hR h (hR h a0 4) (ix a1)) 2), .int (nI 0), .ref (hR h (hR h a0 4) (ix a1))], h) rfl g11 ?_
    refine eb_n 2 (25, [.ref a0, .int a1], [.int ((hI h (hR h (hR h a0 4) (ix a1)) 2) - (nI 1)), .int (nI 0), .ref (hR h (hR h a0 4) (ix a1))], h) (rfl) ?_
    obtain ⟨h12, r13, eh12, e⟩ := bn_some e
    refine eb_c rfl (f_Math_max_ev d (Nat.le_trans (by decide) hd) eh12) ?_
    show Eb _ 149 (28, [.ref a0, .int a1], [.int r13, .ref (hR h (hR h a0 4) (ix a1))], h12) _ _
    obtain ⟨g14, e⟩ := gd_some e
    obtain ⟨h15, eh15, e⟩ := lq_some e
    refine eb_g (p := hT h12 (hR h (hR h a0 4) (ix a1)) = 8) (31, [.ref a0, .int a1], [], h15) (by rw [eh15]; rfl) g14 ?_
    obtain ⟨x16, hx16, e⟩ := lq_some e
    refine eb_n 1 (34, [.ref a0, .int x16], [], h15) (by subst hx16; rfl) ?_
    refine eb_n 1 (2, [.ref a0, .int x16], [], h15) (rfl) ?_
    exact hk2 _ _ _  e
set_option maxRecDepth 100000 in
set_option maxHeartbeats 4000000 in
theorem f_River_endHour_l2_ev {h' : AH} (d : Nat) (hd : 1 ≤ d)  : ∀ (n : Nat) (h : AH) (a0 : Nat) (a1 : Int32)   (_ : f_River_endHour_l2  n h a0 a1 = some h'), Eb (Ev tb mL d) 149 (2, [.ref a0, .int a1], [], h) h' none := by
  intro n
  induction n with
  | zero => intro h a0 a1  e; exact nomatch e
  | succ n ih =>
    intro h a0 a1  e
    exact f_River_endHour_b2_ev d hd _ (fun h a0 a1  e => ih h a0 a1  e) h a0 a1  e
set_option maxRecDepth 100000 in
set_option maxHeartbeats 4000000 in
theorem f_River_endHour_ev (d0 : Nat) (hd0 : 2 ≤ d0) {h' : AH} {h : AH} {a0 : Nat} (e : f_River_endHour h a0 = some h') : Ev tb mL d0 149 [.ref a0] h h' none := by
  obtain ⟨d, rfl⟩ : ∃ d, d0 = d + 1 := ⟨d0 - 1, by omega⟩
  have hd : 1 ≤ d := by omega
  refine ⟨Nat.le_of_ble_eq_true rfl, ?_⟩
  show Eb (Ev tb mL d) 149 (0, [.ref a0, .retAddr 0], [], h) h' none
  unfold f_River_endHour at e
  refine eb_n 2 (2, [.ref a0, .int (nI 0)], [], h) (rfl) ?_
  exact f_River_endHour_l2_ev d hd   FU _ _ _  e

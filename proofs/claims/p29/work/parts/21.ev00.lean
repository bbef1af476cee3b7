/-! THEIR ANSWERS ARE RUNS (written by wip/p29/gen_sh.py) -/
set_option maxRecDepth 100000 in
set_option maxHeartbeats 4000000 in
theorem f_Orders_init_ev (d0 : Nat) (hd0 : 1 ≤ d0) {h' : AH} {h : AH} {a0 : Nat} (e : f_Orders_init h a0 = some h') : Ev tb mL d0 22 [.ref a0] h h' none := by
  obtain ⟨d, rfl⟩ : ∃ d, d0 = d + 1 := ⟨d0 - 1, by omega⟩
  have hd : 0 ≤ d := by omega
  refine ⟨Nat.le_of_ble_eq_true rfl, ?_⟩
  show Eb (Ev tb mL d) 22 (0, [.ref a0], [], h) h' none
  unfold f_Orders_init at e
  refine eb_n 1 (1, [.ref a0], [.ref a0], h) (rfl) ?_
  obtain ⟨g1, e⟩ := gd_some e
  refine eb_g (p := hT h a0 = 2) (4, [.ref a0], [], h) rfl g1 ?_
  refine eb_n 2 (8, [.ref a0], [.int (nI 400), .ref a0], h) (rfl) ?_
  obtain ⟨h2, eh2, e⟩ := lq_some e
  refine eb_g (p := ¬ (nI 400) < 0 ∧ ix (nI 400) ≤ 65536) (10, [.ref a0], [.ref (hN h), .ref a0], h2) (by rw [eh2]; rfl) (by decide) ?_
  obtain ⟨g3, e⟩ := gd_some e
  obtain ⟨h4, eh4, e⟩ := lq_some e
  refine eb_g (p := hT h2 a0 = 2) (13, [.ref a0], [], h4) (by rw [eh4]; rfl) g3 ?_
  refine eb_n 2 (17, [.ref a0], [.int (nI 400), .ref a0], h4) (rfl) ?_
  obtain ⟨h5, eh5, e⟩ := lq_some e
  refine eb_g (p := ¬ (nI 400) < 0 ∧ ix (nI 400) ≤ 65536) (19, [.ref a0], [.ref (hN h4), .ref a0], h5) (by rw [eh5]; rfl) (by decide) ?_
  obtain ⟨g6, e⟩ := gd_some e
  obtain ⟨h7, eh7, e⟩ := lq_some e
  refine eb_g (p := hT h5 a0 = 2) (22, [.ref a0], [], h7) (by rw [eh7]; rfl) g6 ?_
  refine eb_n 2 (24, [.ref a0], [.int (nI 0), .ref a0], h7) (rfl) ?_
  obtain ⟨g8, e⟩ := gd_some e
  obtain ⟨h9, eh9, e⟩ := lq_some e
  refine eb_g (p := hT h7 a0 = 2) (27, [.ref a0], [], h9) (by rw [eh9]; rfl) g8 ?_
  refine eb_n 2 (31, [.ref a0], [.int (nI 400), .ref a0], h9) (rfl) ?_
  obtain ⟨h10, eh10, e⟩ := lq_some e
  refine eb_g (p := ¬ (nI 400) < 0 ∧ ix (nI 400) ≤ 65536) (33, [.ref a0], [.ref (hN h9), .ref a0], h10) (by rw [eh10]; rfl) (by decide) ?_
  obtain ⟨g11, e⟩ := gd_some e
  obtain ⟨h12, eh12, e⟩ := lq_some e
  refine eb_g (p := hT h10 a0 = 2) (36, [.ref a0], [], h12) (by rw [eh12]; rfl) g11 ?_
  refine eb_n 2 (38, [.ref a0], [.int (nI 0), .ref a0], h12) (rfl) ?_
  obtain ⟨g13, e⟩ := gd_some e
  obtain ⟨h14, eh14, e⟩ := lq_some e
  refine eb_g (p := hT h12 a0 = 2) (41, [.ref a0], [], h14) (by rw [eh14]; rfl) g13 ?_
  rw [sv_inj e]
  exact eb_r rfl
set_option maxRecDepth 100000 in
set_option maxHeartbeats 4000000 in
theorem f_Garden_init_ev (d0 : Nat) (hd0 : 1 ≤ d0) {h' : AH} {h : AH} {a0 : Nat} (e : f_Garden_init h a0 = some h') : Ev tb mL d0 78 [.ref a0] h h' none := by
  obtain ⟨d, rfl⟩ : ∃ d, d0 = d + 1 := ⟨d0 - 1, by omega⟩
  have hd : 0 ≤ d := by omega
  refine ⟨Nat.le_of_ble_eq_true rfl, ?_⟩
  show Eb (Ev tb mL d) 78 (0, [.ref a0], [], h) h' none
  unfold f_Garden_init at e
  refine eb_n 1 (1, [.ref a0], [.ref a0], h) (rfl) ?_
  obtain ⟨g1, e⟩ := gd_some e
  refine eb_g (p := hT h a0 = 4) (4, [.ref a0], [], h) rfl g1 ?_
  refine eb_n 2 (6, [.ref a0], [.int (nI 0), .ref a0], h) (rfl) ?_
  obtain ⟨h2, eh2, e⟩ := lq_some e
  refine eb_g (p := hT h a0 = 4) (9, [.ref a0], [], h2) (by rw [eh2]; rfl) g1 ?_
  refine eb_n 2 (11, [.ref a0], [.int (nI 0), .ref a0], h2) (rfl) ?_
  obtain ⟨g3, e⟩ := gd_some e
  obtain ⟨h4, eh4, e⟩ := lq_some e
  refine eb_g (p := hT h2 a0 = 4) (14, [.ref a0], [], h4) (by rw [eh4]; rfl) g3 ?_
  refine eb_n 2 (16, [.ref a0], [.int (nI 1), .ref a0], h4) (rfl) ?_
  obtain ⟨g5, e⟩ := gd_some e
  obtain ⟨h6, eh6, e⟩ := lq_some e
  refine eb_g (p := hT h4 a0 = 4) (19, [.ref a0], [], h6) (by rw [eh6]; rfl) g5 ?_
  rw [sv_inj e]
  exact eb_r rfl
set_option maxRecDepth 100000 in
set_option maxHeartbeats 4000000 in
theorem f_Rack_init_ev (d0 : Nat) (hd0 : 1 ≤ d0) {h' : AH} {h : AH} {a0 : Nat} (e : f_Rack_init h a0 = some h') : Ev tb mL d0 79 [.ref a0] h h' none := by
  obtain ⟨d, rfl⟩ : ∃ d, d0 = d + 1 := ⟨d0 - 1, by omega⟩
  have hd : 0 ≤ d := by omega
  refine ⟨Nat.le_of_ble_eq_true rfl, ?_⟩
  show Eb (Ev tb mL d) 79 (0, [.ref a0], [], h) h' none
  unfold f_Rack_init at e
  refine eb_n 1 (1, [.ref a0], [.ref a0], h) (rfl) ?_
  obtain ⟨g1, e⟩ := gd_some e
  refine eb_g (p := hT h a0 = 5) (4, [.ref a0], [], h) rfl g1 ?_
  refine eb_n 2 (6, [.ref a0], [.int (nI 0), .ref a0], h) (rfl) ?_
  obtain ⟨h2, eh2, e⟩ := lq_some e
  refine eb_g (p := hT h a0 = 5) (9, [.ref a0], [], h2) (by rw [eh2]; rfl) g1 ?_
  refine eb_n 2 (11, [.ref a0], [.int (nI 0), .ref a0], h2) (rfl) ?_
  obtain ⟨g3, e⟩ := gd_some e
  obtain ⟨h4, eh4, e⟩ := lq_some e
  refine eb_g (p := hT h2 a0 = 5) (14, [.ref a0], [], h4) (by rw [eh4]; rfl) g3 ?_
  refine eb_n 2 (16, [.ref a0], [.int (nI 0), .ref a0], h4) (rfl) ?_
  obtain ⟨g5, e⟩ := gd_some e
  obtain ⟨h6, eh6, e⟩ := lq_some e
  refine eb_g (p := hT h4 a0 = 5) (19, [.ref a0], [], h6) (by rw [eh6]; rfl) g5 ?_
  refine eb_n 2 (22, [.ref a0], [.int (nI 60), .ref a0], h6) (rfl) ?_
  obtain ⟨h7, eh7, e⟩ := lq_some e
  refine eb_g (p := ¬ (nI 60) < 0 ∧ ix (nI 60) ≤ 65536) (24, [.ref a0], [.ref (hN h6), .ref a0], h7) (by rw [eh7]; rfl) (by decide) ?_
  obtain ⟨g8, e⟩ := gd_some e
  obtain ⟨h9, eh9, e⟩ := lq_some e
  refine eb_g (p := hT h7 a0 = 5) (27, [.ref a0], [], h9) (by rw [eh9]; rfl) g8 ?_
  refine eb_n 2 (30, [.ref a0], [.int (nI 60), .ref a0], h9) (rfl) ?_
  obtain ⟨h10, eh10, e⟩ := lq_some e
  refine eb_g (p := ¬ (nI 60) < 0 ∧ ix (nI 60) ≤ 65536) (32, [.ref a0], [.ref (hN h9), .ref a0], h10) (by rw [eh10]; rfl) (by decide) ?_
  obtain ⟨g11, e⟩ := gd_some e
  obtain ⟨h12, eh12, e⟩ := lq_some e
  refine eb_g (p := hT h10 a0 = 5) (35, [.ref a0], [], h12) (by rw [eh12]; rfl) g11 ?_
  refine eb_n 2 (38, [.ref a0], [.int (nI 60), .ref a0], h12) (rfl) ?_
  obtain ⟨h13, eh13, e⟩ := lq_some e
  refine eb_g (p := ¬ (nI 60) < 0 ∧ ix (nI 60) ≤ 65536) (40, [.ref a0], [.ref (hN h12), .ref a0], h13) (by rw [eh13]; rfl) (by decide) ?_
  obtain ⟨g14, e⟩ := gd_some e
  obtain ⟨h15, eh15, e⟩ := lq_some e
  refine eb_g (p := hT h13 a0 = 5) (43, [.ref a0], [], h15) (by rw [eh15]; rfl) g14 ?_
  refine eb_n 2 (46, [.ref a0], [.int (nI 60), .ref a0], h15) (rfl) ?_
  obtain ⟨h16, eh16, e⟩ := lq_some e
  refine eb_g (p := ¬ (nI 60) < 0 ∧ ix (nI 60) ≤ 65536) (48, [.ref a0], [.ref (hN h15), .ref a0], h16) (by rw [eh16]; rfl) (by decide) ?_
  obtain ⟨g17, e⟩ := gd_some e
  obtain ⟨h18, eh18, e⟩ := lq_some e
  refine eb_g (p := hT h16 a0 = 5) (51, [.ref a0], [], h18) (by rw [eh18]; rfl) g17 ?_
  rw [sv_inj e]
  exact eb_r rfl
set_option maxRecDepth 100000 in
set_option maxHeartbeats 4000000 in
theorem f_Peeler_init_ev (d0 : Nat) (hd0 : 1 ≤ d0) {h' : AH} {h : AH} {a0 : Nat} (e : f_Peeler_init h a0 = some h') : Ev tb mL d0 80 [.ref a0] h h' none := by
  obtain ⟨d, rfl⟩ : ∃ d, d0 = d + 1 := ⟨d0 - 1, by omega⟩
  have hd : 0 ≤ d := by omega
  refine ⟨Nat.le_of_ble_eq_true rfl, ?_⟩
  show Eb (Ev tb mL d) 80 (0, [.ref a0], [], h) h' none
  unfold f_Peeler_init at e
  refine eb_n 1 (1, [.ref a0], [.ref a0], h) (rfl) ?_
  obtain ⟨g1, e⟩ := gd_some e
  refine eb_g (p := hT h a0 = 6) (4, [.ref a0], [], h) rfl g1 ?_
  refine eb_n 2 (6, [.ref a0], [.int (nI 0), .ref a0], h) (rfl) ?_
  obtain ⟨h2, eh2, e⟩ := lq_some e
  refine eb_g (p := hT h a0 = 6) (9, [.ref a0], [], h2) (by rw [eh2]; rfl) g1 ?_
  refine eb_n 2 (11, [.ref a0], [.int (nI 0), .ref a0], h2) (rfl) ?_
  obtain ⟨g3, e⟩ := gd_some e
  obtain ⟨h4, eh4, e⟩ := lq_some e
  refine eb_g (p := hT h2 a0 = 6) (14, [.ref a0], [], h4) (by rw [eh4]; rfl) g3 ?_
  refine eb_n 2 (16, [.ref a0], [.int (nI 0), .ref a0], h4) (rfl) ?_
  obtain ⟨g5, e⟩ := gd_some e
  obtain ⟨h6, eh6, e⟩ := lq_some e
  refine eb_g (p := hT h4 a0 = 6) (19, [.ref a0], [], h6) (by rw [eh6]; rfl) g5 ?_
  refine eb_n 2 (22, [.ref a0], [.int (nI 20), .ref a0], h6) (rfl) ?_
  obtain ⟨g7, e⟩ := gd_some e
  obtain ⟨h8, eh8, e⟩ := lq_some e
  refine eb_g (p := hT h6 a0 = 6) (25, [.ref a0], [], h8) (by rw [eh8]; rfl) g7 ?_
  refine eb_n 2 (27, [.ref a0], [.int (nI 0), .ref a0], h8) (rfl) ?_
  obtain ⟨g9, e⟩ := gd_some e
  obtain ⟨h10, eh10, e⟩ := lq_some e
  refine eb_g (p := hT h8 a0 = 6) (30, [.ref a0], [], h10) (by rw [eh10]; rfl) g9 ?_
  refine eb_n 2 (32, [.ref a0], [.int (nI 0), .ref a0], h10) (rfl) ?_
  obtain ⟨g11, e⟩ := gd_some e
  obtain ⟨h12, eh12, e⟩ := lq_some e
  refine eb_g (p := hT h10 a0 = 6) (35, [.ref a0], [], h12) (by rw [eh12]; rfl) g11 ?_
  refine eb_n 2 (37, [.ref a0], [.int (nI 0), .ref a0], h12) (rfl) ?_
  obtain ⟨g13, e⟩ := gd_some e
  obtain ⟨h14, eh14, e⟩ := lq_some e
  refine eb_g (p := hT h12 a0 = 6 ∧ ((nI 0) = 0 ∨ (nI 0) = 1)) (40, [.ref a0], [], h14) (by rw [eh14]; rfl) g13 ?_
  rw [sv_inj e]
  exact eb_r rfl
set_option maxRecDepth 100000 in
set_option maxHeartbeats 4000000 in
theorem f_Boat_init_ev (d0 : Nat) (hd0 : 1 ≤ d0) {h' : AH} {h : AH} {a0 : Nat} (e : f_Boat_init h a0 = some h') : Ev tb mL d0 81 [.ref a0] h h' none := by
  obtain ⟨d, rfl⟩ : ∃ d, d0 = d + 1 := ⟨d0 - 1, by omega⟩
  have hd : 0 ≤ d := by omega
  refine ⟨Nat.le_of_ble_eq_true rfl, ?_⟩
  show Eb (Ev tb mL d) 81 (0, [.ref a0], [], h) h' none
  unfold f_Boat_init at e
  refine eb_n 1 (1, [.ref a0], [.ref a0], h) (rfl) ?_
  obtain ⟨g1, e⟩ := gd_some e
  refine eb_g (p := hT h a0 = 7) (4, [.ref a0], [], h) rfl g1 ?_
  refine eb_n 2 (6, [.ref a0], [.int (nI 0), .ref a0], h) (rfl) ?_
  obtain ⟨h2, eh2, e⟩ := lq_some e
  refine eb_g (p := hT h a0 = 7) (9, [.ref a0], [], h2) (by rw [eh2]; rfl) g1 ?_
  refine eb_n 2 (11, [.ref a0], [.int (nI 0), .ref a0], h2) (rfl) ?_
  obtain ⟨g3, e⟩ := gd_some e
  obtain ⟨h4, eh4, e⟩ := lq_some e
  refine eb_g (p := hT h2 a0 = 7) (14, [.ref a0], [], h4) (by rw [eh4]; rfl) g3 ?_
  refine eb_n 2 (16, [.ref a0], [.int (nI 0), .ref a0], h4) (rfl) ?_
  obtain ⟨g5, e⟩ := gd_some e
  obtain ⟨h6, eh6, e⟩ := lq_some e
  refine eb_g (p := hT h4 a0 = 7) (19, [.ref a0], [], h6) (by rw [eh6]; rfl) g5 ?_
  refine eb_n 2 (21, [.ref a0], [.int (nI 0), .ref a0], h6) (rfl) ?_
  obtain ⟨g7, e⟩ := gd_some e
  obtain ⟨h8, eh8, e⟩ := lq_some e
  refine eb_g (p := hT h6 a0 = 7) (24, [.ref a0], [], h8) (by rw [eh8]; rfl) g7 ?_
  refine eb_n 2 (26, [.ref a0], [.int (nI 0), .ref a0], h8) (rfl) ?_
  obtain ⟨g9, e⟩ := gd_some e
  obtain ⟨h10, eh10, e⟩ := lq_some e
  refine eb_g (p := hT h8 a0 = 7) (29, [.ref a0], [], h10) (by rw [eh10]; rfl) g9 ?_
  refine eb_n 2 (31, [.ref a0], [.int (-nI 1), .ref a0], h10) (rfl) ?_
  obtain ⟨g11, e⟩ := gd_some e
  obtain ⟨h12, eh12, e⟩ := lq_some e
  refine eb_g (p := hT h10 a0 = 7) (34, [.ref a0], [], h12) (by rw [eh12]; rfl) g11 ?_
  refine eb_n 2 (36, [.ref a0], [.int (nI 0), .ref a0], h12) (rfl) ?_
  obtain ⟨g13, e⟩ := gd_some e
  obtain ⟨h14, eh14, e⟩ := lq_some e
  refine eb_g (p := hT h12 a0 = 7) (39, [.ref a0], [], h14) (by rw [eh14]; rfl) g13 ?_
  rw [sv_inj e]
  exact eb_r rfl
set_option maxRecDepth 100000 in
set_option maxHeartbeats 4000000 in
theorem f_Grade_init_ev (d0 : Nat) (hd0 : 1 ≤ d0) {h' : AH} {h : AH} {a0 : Nat} (e : f_Grade_init h a0 = some h') : Ev tb mL d0 82 [.ref a0] h h' none := by
  obtain ⟨d, rfl⟩ : ∃ d, d0 = d + 1 := ⟨d0 - 1, by omega⟩
  have hd : 0 ≤ d := by omega
  refine ⟨Nat.le_of_ble_eq_true rfl, ?_⟩
  show Eb (Ev tb mL d) 82 (0, [.ref a0], [], h) h' none
  unfold f_Grade_init at e
  refine eb_n 1 (1, [.ref a0], [.ref a0], h) (rfl) ?_
  obtain ⟨g1, e⟩ := gd_some e
  refine eb_g (p := hT h a0 = 8) (4, [.ref a0], [], h) rfl g1 ?_
  refine eb_n 2 (6, [.ref a0], [.int (nI 0), .ref a0], h) (rfl) ?_
  obtain ⟨h2, eh2, e⟩ := lq_some e
  refine eb_g (p := hT h a0 = 8) (9, [.ref a0], [], h2) (by rw [eh2]; rfl) g1 ?_
  refine eb_n 2 (11, [.ref a0], [.int (nI 0), .ref a0], h2) (rfl) ?_
  obtain ⟨g3, e⟩ := gd_some e
  obtain ⟨h4, eh4, e⟩ := lq_some e
  refine eb_g (p := hT h2 a0 = 8) (14, [.ref a0], [], h4) (by rw [eh4]; rfl) g3 ?_
  refine eb_n 2 (16, [.ref a0], [.int (nI 0), .ref a0], h4) (rfl) ?_
  obtain ⟨g5, e⟩ := gd_some e
  obtain ⟨h6, eh6, e⟩ := lq_some e
  refine eb_g (p := hT h4 a0 = 8) (19, [.ref a0], [], h6) (by rw [eh6]; rfl) g5 ?_
  refine eb_n 2 (21, [.ref a0], [.int (nI 0), .ref a0], h6) (rfl) ?_
  obtain ⟨g7, e⟩ := gd_some e
  obtain ⟨h8, eh8, e⟩ := lq_some e
  refine eb_g (p := hT h6 a0 = 8) (24, [.ref a0], [], h8) (by rw [eh8]; rfl) g7 ?_
  rw [sv_inj e]
  exact eb_r rfl
set_option maxRecDepth 100000 in
set_option maxHeartbeats 4000000 in
theorem f_Grade_clear_ev (d0 : Nat) (hd0 : 1 ≤ d0) {h' : AH} {h : AH} {a0 : Nat} {a1 : Int32} (e : f_Grade_clear h a0 a1 = some h') : Ev tb mL d0 118 [.ref a0, .int a1] h h' none := by
  obtain ⟨d, rfl⟩ : ∃ d, d0 = d + 1 := ⟨d0 - 1, by omega⟩
  have hd : 0 ≤ d := by omega
  refine ⟨Nat.le_of_ble_eq_true rfl, ?_⟩
  show Eb (Ev tb mL d) 118 (0, [.ref a0, .int a1], [], h) h' none
  unfold f_Grade_clear at e
  refine eb_n 2 (2, [.ref a0, .int a1], [.int (nI 0), .ref a0], h) (rfl) ?_
  obtain ⟨g1, e⟩ := gd_some e
  obtain ⟨h2, eh2, e⟩ := lq_some e
  refine eb_g (p := hT h a0 = 8) (5, [.ref a0, .int a1], [], h2) (by rw [eh2]; rfl) g1 ?_
  refine eb_n 2 (7, [.ref a0, .int a1], [.int a1, .ref a0], h2) (rfl) ?_
  obtain ⟨g3, e⟩ := gd_some e
  obtain ⟨h4, eh4, e⟩ := lq_some e
  refine eb_g (p := hT h2 a0 = 8) (10, [.ref a0, .int a1], [], h4) (by rw [eh4]; rfl) g3 ?_
  refine eb_n 2 (12, [.ref a0, .int a1], [.int (nI 0), .ref a0], h4) (rfl) ?_
  obtain ⟨g5, e⟩ := gd_some e
  obtain ⟨h6, eh6, e⟩ := lq_some e
  refine eb_g (p := hT h4 a0 = 8) (15, [.ref a0, .int a1], [], h6) (by rw [eh6]; rfl) g5 ?_
  refine eb_n 2 (17, [.ref a0, .int a1], [.int (nI 0), .ref a0], h6) (rfl) ?_
  obtain ⟨g7, e⟩ := gd_some e
  obtain ⟨h8, eh8, e⟩ := lq_some e
  refine eb_g (p := hT h6 a0 = 8) (20, [.ref a0, .int a1], [], h8) (by rw [eh8]; rfl) g7 ?_
  rw [sv_inj e]
  exact eb_r rfl
set_option maxRecDepth 100000 in
set_option maxHeartbeats 4000000 in
theorem f_River_beginAnew_b59_ev {h' : AH} (d : Nat) (hd : 1 ≤ d) (k59 : AH → Nat → Int32 → Option AH) (hk59 : ∀ (h : AH) (a0 : Nat) (a1 : Int32)  , k59 h a0 a1 = some h' → Eb (Ev tb mL d) 83 (59, [.ref a0, .int a1], [], h) h' none)  (h : AH) (a0 : Nat) (a1 : Int32)   (e : f_River_beginAnew_b59 k59 h a0 a1 = some h') : Eb (Ev tb mL d) 83 (59, [.ref a0, .int a1], [], h) h' none := by
  unfold f_River_beginAnew_b59 at e
  refine eb_n 2 (62, [.ref a0, .int a1], [.int (nI 12), .int a1], h) (rfl) ?_
  refine eb_b (c := (nI 12) ≤ a1) (78, [.ref a0, .int a1], [], h) (65, [.ref a0, .int a1], [], h) rfl (fun c1 => ?_) (fun c1 => ?_)
  · replace e := ite_t c1 e
    refine eb_n 1 (79, [.ref a0, .int a1], [.ref a0], h) (rfl) ?_
    obtain ⟨g2, e⟩ := gd_some e
    refine eb_g (p := hT h a0 = 3) (82, [.ref a0, .int a1], [.ref (hR h a0 4)], h) rfl g2 ?_
    refine eb_n 1 (83, [.ref a0, .int a1], [.int (nI 0), .ref (hR h a0 4)], h) (rfl) ?_
    obtain ⟨g3, e⟩ := gd_some e
    refine eb_g (p := hT h (hR h a0 4) = 108 ∧ inb (nI 0) (hL h (hR h a0 4))) (84, [.ref a0, .int a1], [.ref (hR h (hR h a0 4) (ix (nI 0)))], h) rfl g3 ?_
    refine eb_n 1 (86, [.ref a0, .int a1], [.int (nI 8), .ref (hR h (hR h a0 4) (ix (nI 0)))], h) (rfl) ?_
    obtain ⟨g4, e⟩ := gd_some e
    obtain ⟨h5, eh5, e⟩ := bv_some e
    refine eb_cg (p := hT h (hR h (hR h a0 4) (ix (nI 0))) = 8) rfl g4 (f_Grade_clear_ev d (Nat.le_trans (by decide) hd) eh5) ?_
    show Eb _ 83 (89, [.ref a0, .int a1], [], h5) _ _
    refine eb_n 1 (90, [.ref a0, .int a1], [.ref a0], h5) (rfl) ?_
    obtain ⟨g6, e⟩ := gd_some e
    refine eb_g (p := hT h5 a0 = 3) (93, [.ref a0, .int a1], [.ref (hR h5 a0 4)], h5) rfl g6 ?_
    refine eb_n 1 (94, [.ref a0, .int a1], [.int (nI 1), .ref (hR h5 a0 4)], h5) (rfl) ?_
    obtain ⟨g7, e⟩ := gd_some e
    refine eb_g (p := hT h5 (hR h5 a0 4) = 108 ∧ inb (nI 1) (hL h5 (hR h5 a0 4))) (95, [.ref a0, .int a1], [.ref (hR h5 (hR h5 a0 4) (ix (nI 1)))], h5) rfl g7 ?_
    refine eb_n 1 (96, [.ref a0, .int a1], [.int (nI 5), .ref (hR h5 (hR h5 a0 4) (ix (nI 1)))], h5) (rfl) ?_
    obtain ⟨g8, e⟩ := gd_some e
    obtain ⟨h9, eh9, e⟩ := bv_some e
    refine eb_cg (p := hT h5 (hR h5 (hR h5 a0 4) (ix (nI 1))) = 8) rfl g8 (f_Grade_clear_ev d (Nat.le_trans (by decide) hd) eh9) ?_
    show Eb _ 83 (99, [.ref a0, .int a1], [], h9) _ _
    refine eb_n 1 (100, [.ref a0, .int a1], [.ref a0], h9) (rfl) ?_
    obtain ⟨g10, e⟩ := gd_some e
    refine eb_g (p := hT h9 a0 = 3) (103, [.ref a0, .int a1], [.ref (hR h9 a0 4)], h9) rfl g10 ?_
    refine eb_n 1 (104, [.ref a0, .int a1], [.int (nI 2), .ref (hR h9 a0 4)], h9) (rfl) ?_
    obtain ⟨g11, e⟩ := gd_some e
    refine eb_g (p := hT h9 (hR h9 a0 4) = 108 ∧ inb (nI 2) (hL h9 (hR h9 a0 4))) (105, [.ref a0, .int a1], [.ref (hR h9 (hR h9 a0 4) (ix (nI 2)))], h9) rfl g11 ?_
    refine eb_n 1 (106, [.ref a0, .int a1], [.int (nI 3), .ref (hR h9 (hR h9 a0 4) (ix (nI 2)))], h9) (rfl) ?_
    obtain ⟨g12, e⟩ := gd_some e
    obtain ⟨h13, eh13, e⟩ := bv_some e
    refine eb_cg (p := hT h9 (hR h9 (hR h9 a0 4) (ix (nI 2))) = 8) rfl g12 (f_Grade_clear_ev d (Nat.le_trans (by decide) hd) eh13) ?_
    show Eb _ 83 (109, [.ref a0, .int a1], [], h13) _ _
    refine eb_n 1 (110, [.ref a0, .int a1], [.ref a0], h13) (rfl) ?_
    obtain ⟨g14, e⟩ := gd_some e
    refine eb_g (p := hT h13 a0 = 3) (113, [.ref a0, .int a1], [.ref (hR h13 a0 4)], h13) rfl g14 ?_
    refine eb_n 1 (114, [.ref a0, .int a1], [.int (nI 3), .ref (hR h13 a0 4)], h13) (rfl) ?_
    obtain ⟨g15, e⟩ := gd_some e
    refine eb_g (p := hT h13 (hR h13 a0 4) = 108 ∧ inb (nI 3) (hL h13 (hR h13 a0 4))) (115, [.ref a0, .int a1], [.ref (hR h13 (hR h13 a0 4) (ix (nI 3)))], h13) rfl g15 ?_
    refine eb_n 1 (116, [.ref a0, .int a1], [.int (nI 1), .ref (hR h13 (hR h13 a0 4) (ix (nI 3)))], h13) (rfl) ?_
    obtain ⟨g16, e⟩ := gd_some e
    obtain ⟨h17, eh17, e⟩ := bv_some e
    refine eb_cg (p := hT h13 (hR h13 (hR h13 a0 4) (ix (nI 3))) = 8) rfl g16 (f_Grade_clear_ev d (Nat.le_trans (by decide) hd) eh17) ?_
    show Eb _ 83 (119, [.ref a0, .int a1], [], h17) _ _
    rw [sv_inj e]
    exact eb_r rfl
  · replace e := ite_f c1 e
    refine eb_n 1 (66, [.ref a0, .int a1], [.ref a0], h) (rfl) ?_
    obtain ⟨g18, e⟩ := gd_some e
    refine eb_g (p := hT h a0 = 3) (69, [.ref a0, .int a1], [.ref (hR h a0 5)], h) rfl g18 ?_
    refine eb_n 2 (71, [.ref a0, .int a1], [.int (nI 1), .int a1, .ref (hR h a0 5)], h) (rfl) ?_
    obtain ⟨g19, e⟩ := gd_some e
    obtain ⟨h20, eh20, e⟩ := lq_some e
    refine eb_g (p := hT h (hR h a0 5) = 101 ∧ inb a1 (hL h (hR h a0 5))) (72, [.ref a0, .int a1], [], h20) (by rw [eh20]; rfl) g19 ?_
    obtain ⟨x21, hx21, e⟩ := lq_some e
    refine eb_n 1 (75, [.ref a0, .int x21], [], h20) (by subst hx21; rfl) ?_
    refine eb_n 1 (59, [.ref a0, .int x21], [], h20) (rfl) ?_
    exact hk59 _ _ _  e
set_option maxRecDepth 100000 in
set_option maxHeartbeats 4000000 in
theorem f_River_beginAnew_l59_ev {h' : AH} (d : Nat) (hd : 1 ≤ d)  : ∀ (n : Nat) (h : AH) (a0 : Nat) (a1 : Int32)   (_ : f_River_beginAnew_l59  n h a0 a1 = some h'), Eb (Ev tb mL d) 83 (59, [.ref a0, .int a1], [], h) h' none := by
  intro n
  induction n with
  | zero => intro h a0 a1  e; exact nomatch e
  | succ n ih =>
    intro h a0 a1  e
    exact f_River_beginAnew_b59_ev d hd _ (fun h a0 a1  e => ih h a0 a1  e) h a0 a1  e
set_option maxRecDepth 100000 in
set_option maxHeartbeats 4000000 in
theorem f_River_beginAnew_ev (d0 : Nat) (hd0 : 2 ≤ d0) {h' : AH} {h : AH} {a0 : Nat} (e : f_River_beginAnew h a0 = some h') : Ev tb mL d0 83 [.ref a0] h h' none := by
  obtain ⟨d, rfl⟩ : ∃ d, d0 = d + 1 := ⟨d0 - 1, by omega⟩
  have hd : 1 ≤ d := by omega
  refine ⟨Nat.le_of_ble_eq_true rfl, ?_⟩
  show Eb (Ev tb mL d) 83 (0, [.ref a0, .retAddr 0], [], h) h' none
  unfold f_River_beginAnew at e
  refine eb_n 2 (2, [.ref a0, .retAddr 0], [.int (nI 0), .ref a0], h) (rfl) ?_
  obtain ⟨g1, e⟩ := gd_some e
  obtain ⟨h2, eh2, e⟩ := lq_some e
  refine eb_g (p := hT h a0 = 3) (5, [.ref a0, .retAddr 0], [], h2) (by rw [eh2]; rfl) g1 ?_
  refine eb_n 2 (7, [.ref a0, .retAddr 0], [.int (nI 0), .ref a0], h2) (rfl) ?_
  obtain ⟨g3, e⟩ := gd_some e
  obtain ⟨h4, eh4, e⟩ := lq_some e
  refine eb_g (p := hT h2 a0 = 3) (10, [.ref a0, .retAddr 0], [], h4) (by rw [eh4]; rfl) g3 ?_
  refine eb_n 2 (12, [.ref a0, .retAddr 0], [.int (nI 0), .ref a0], h4) (rfl) ?_
  obtain ⟨g5, e⟩ := gd_some e
  obtain ⟨h6, eh6, e⟩ := lq_some e
  refine eb_g (p := hT h4 a0 = 3) (15, [.ref a0, .retAddr 0], [], h6) (by rw [eh6]; rfl) g5 ?_
  refine eb_n 2 (17, [.ref a0, .retAddr 0], [.int (nI 0), .ref a0], h6) (rfl) ?_
  obtain ⟨g7, e⟩ := gd_some e
  obtain ⟨h8, eh8, e⟩ := lq_some e
  refine eb_g (p := hT h6 a0 = 3) (20, [.ref a0, .retAddr 0], [], h8) (by rw [eh8]; rfl) g7 ?_
  refine eb_n 2 (22, [.ref a0, .retAddr 0], [.int (nI 0), .ref a0], h8) (rfl) ?_
  obtain ⟨g9, e⟩ := gd_some e
  obtain ⟨h10, eh10, e⟩ := lq_some e
  refine eb_g (p := hT h8 a0 = 3) (25, [.ref a0, .retAddr 0], [], h10) (by rw [eh10]; rfl) g9 ?_
  refine eb_n 2 (28, [.ref a0, .retAddr 0], [.int (nI 50), .ref a0], h10) (rfl) ?_
  obtain ⟨g11, e⟩ := gd_some e
  obtain ⟨h12, eh12, e⟩ := lq_some e
  refine eb_g (p := hT h10 a0 = 3) (31, [.ref a0, .retAddr 0], [], h12) (by rw [eh12]; rfl) g11 ?_
  refine eb_n 2 (34, [.ref a0, .retAddr 0], [.int (nI 20), .ref a0], h12) (rfl) ?_
  obtain ⟨g13, e⟩ := gd_some e
  obtain ⟨h14, eh14, e⟩ := lq_some e
  refine eb_g (p := hT h12 a0 = 3) (37, [.ref a0, .retAddr 0], [], h14) (by rw [eh14]; rfl) g13 ?_
  refine eb_n 2 (39, [.ref a0, .retAddr 0], [.int (nI 1), .ref a0], h14) (rfl) ?_
  obtain ⟨g15, e⟩ := gd_some e
  obtain ⟨h16, eh16, e⟩ := lq_some e
  refine eb_g (p := hT h14 a0 = 3) (42, [.ref a0, .retAddr 0], [], h16) (by rw [eh16]; rfl) g15 ?_
  refine eb_n 2 (44, [.ref a0, .retAddr 0], [.int (nI 0), .ref a0], h16) (rfl) ?_
  obtain ⟨g17, e⟩ := gd_some e
  obtain ⟨h18, eh18, e⟩ := lq_some e
  refine eb_g (p := hT h16 a0 = 3) (47, [.ref a0, .retAddr 0], [], h18) (by rw [eh18]; rfl) g17 ?_
  refine eb_n 2 (49, [.ref a0, .retAddr 0], [.int (nI 0), .ref a0], h18) (rfl) ?_
  obtain ⟨g19, e⟩ := gd_some e
  obtain ⟨h20, eh20, e⟩ := lq_some e
  refine eb_g (p := hT h18 a0 = 3) (52, [.ref a0, .retAddr 0], [], h20) (by rw [eh20]; rfl) g19 ?_
  refine eb_n 2 (54, [.ref a0, .retAddr 0], [.int (nI 0), .ref a0], h20) (rfl) ?_
  obtain ⟨g21, e⟩ := gd_some e
  obtain ⟨h22, eh22, e⟩ := lq_some e
  refine eb_g (p := hT h20 a0 = 3) (57, [.ref a0, .retAddr 0], [], h22) (by rw [eh22]; rfl) g21 ?_
  refine eb_n 2 (59, [.ref a0, .int (nI 0)], [], h22) (rfl) ?_
  exact f_River_beginAnew_l59_ev d hd   FU _ _ _  e
set_option maxRecDepth 100000 in
set_option maxHeartbeats 4000000 in
theorem f_River_init_b220_ev {h' : AH} (d : Nat) (hd : 2 ≤ d) (k220 : AH → Nat → Int32 → Option AH) (hk220 : ∀ (h : AH) (a0 : Nat) (a1 : Int32)  , k220 h a0 a1 = some h' → Eb (Ev tb mL d) 23 (220, [.ref a0, .int a1], [], h) h' none)  (h : AH) (a0 : Nat) (a1 : Int32)   (e : f_River_init_b220 k220 h a0 a1 = some h') : Eb (Ev tb mL d) 23 (220, [.ref a0, .int a1], [], h) h' none := by
  unfold f_River_init_b220 at e
  refine eb_n 2 (222, [.ref a0, .int a1], [.int (nI 4), .int a1], h) (rfl) ?_
  refine eb_b (c := (nI 4) ≤ a1) (244, [.ref a0, .int a1], [], h) (225, [.ref a0, .int a1], [], h) rfl (fun c1 => ?_) (fun c1 => ?_)
  · replace e := ite_t c1 e
    refine eb_n 1 (245, [.ref a0, .int a1], [.ref a0], h) (rfl) ?_
    obtain ⟨g2, e⟩ := gd_some e
    obtain ⟨h3, eh3, e⟩ := bv_some e
    refine eb_cg (p := hT h a0 = 3) rfl g2 (f_River_beginAnew_ev d (Nat.le_trans (by decide) hd) eh3) ?_
    show Eb _ 23 (248, [.ref a0, .int a1], [], h3) _ _
    rw [sv_inj e]
    exact eb_r rfl
  · replace e := ite_f c1 e
    refine eb_n 1 (226, [.ref a0, .int a1], [.ref a0], h) (rfl) ?_
    obtain ⟨g4, e⟩ := gd_some e
    refine eb_g (p := hT h a0 = 3) (229, [.ref a0, .int a1], [.ref (hR h a0 4)], h) rfl g4 ?_
    refine eb_n 1 (230, [.ref a0, .int a1], [.int a1, .ref (hR h a0 4)], h) (rfl) ?_
    obtain ⟨h5, eh5, e⟩ := lq_some e
    refine eb_n 1 (233, [.ref a0, .int a1], [.ref (hN h), .int a1, .ref (hR h a0 4)], h5) (by rw [eh5]; rfl) ?_
    refine eb_n 1 (234, [.ref a0, .int a1], [.ref (hN h), .ref (hN h), .int a1, .ref (hR h a0 4)], h5) (rfl) ?_
    obtain ⟨g6, e⟩ := gd_some e
    obtain ⟨h7, eh7, e⟩ := bv_some e
    refine eb_cg (p := hT h5 (hN h) = 8) rfl g6 (f_Grade_init_ev d (Nat.le_trans (by decide) hd) eh7) ?_
    show Eb _ 23 (237, [.ref a0, .int a1], [.ref (hN h), .int a1, .ref (hR h a0 4)], h7) _ _
    obtain ⟨g8, e⟩ := gd_some e
    obtain ⟨h9, eh9, e⟩ := lq_some e
    refine eb_g (p := hT h7 (hR h a0 4) = 108 ∧ inb a1 (hL h7 (hR h a0 4)) ∧ hT h7 (hN h) = 8) (238, [.ref a0, .int a1], [], h9) (by rw [eh9]; rfl) g8 ?_
    obtain ⟨x10, hx10, e⟩ := lq_some e
    refine eb_n 1 (241, [.ref a0, .int x10], [], h9) (by subst hx10; rfl) ?_
    refine eb_n 1 (220, [.ref a0, .int x10], [], h9) (rfl) ?_
    exact hk220 _ _ _  e
set_option maxRecDepth 100000 in
set_option maxHeartbeats 4000000 in
theorem f_River_init_l220_ev {h' : AH} (d : Nat) (hd : 2 ≤ d)  : ∀ (n : Nat) (h : AH) (a0 : Nat) (a1 : Int32)   (_ : f_River_init_l220  n h a0 a1 = some h'), Eb (Ev tb mL d) 23 (220, [.ref a0, .int a1], [], h) h' none := by
  intro n
  induction n with
  | zero => intro h a0 a1  e; exact nomatch e
  | succ n ih =>
    intro h a0 a1  e
    exact f_River_init_b220_ev d hd _ (fun h a0 a1  e => ih h a0 a1  e) h a0 a1  e
set_option maxRecDepth 100000 in
set_option maxHeartbeats 4000000 in
theorem f_River_init_b194_ev {h' : AH} (d : Nat) (hd : 2 ≤ d) (k194 : AH → Nat → Int32 → Option AH) (hk194 : ∀ (h : AH) (a0 : Nat) (a1 : Int32)  , k194 h a0 a1 = some h' → Eb (Ev tb mL d) 23 (194, [.ref a0, .int a1], [], h) h' none)  (h : AH) (a0 : Nat) (a1 : Int32)   (e : f_River_init_b194 k194 h a0 a1 = some h') : Eb (Ev tb mL d) 23 (194, [.ref a0, .int a1], [], h) h' none := by
  unfold f_River_init_b194 at e
  refine eb_n 2 (196, [.ref a0, .int a1], [.int (nI 4), .int a1], h) (rfl) ?_
  refine eb_b (c := (nI 4) ≤ a1) (218, [.ref a0, .int a1], [], h) (199, [.ref a0, .int a1], [], h) rfl (fun c1 => ?_) (fun c1 => ?_)
  · replace e := ite_t c1 e
    refine eb_n 2 (220, [.ref a0, .int (nI 0)], [], h) (rfl) ?_
    exact f_River_init_l220_ev d hd   FU _ _ _  e
  · replace e := ite_f c1 e
    refine eb_n 1 (200, [.ref a0, .int a1], [.ref a0], h) (rfl) ?_
    obtain ⟨g2, e⟩ := gd_some e
    refine eb_g (p := hT h a0 = 3) (203, [.ref a0, .int a1], [.ref (hR h a0 3)], h) rfl g2 ?_
    refine eb_n 1 (204, [.ref a0, .int a1], [.int a1, .ref (hR h a0 3)], h) (rfl) ?_
    obtain ⟨h3, eh3, e⟩ := lq_some e
    refine eb_n 1 (207, [.ref a0, .int a1], [.ref (hN h), .int a1, .ref (hR h a0 3)], h3) (by rw [eh3]; rfl) ?_
    refine eb_n 1 (208, [.ref a0, .int a1], [.ref (hN h), .ref (hN h), .int a1, .ref (hR h a0 3)], h3) (rfl) ?_
    obtain ⟨g4, e⟩ := gd_some e
    obtain ⟨h5, eh5, e⟩ := bv_some e
    refine eb_cg (p := hT h3 (hN h) = 7) rfl g4 (f_Boat_init_ev d (Nat.le_trans (by decide) hd) eh5) ?_
    show Eb _ 23 (211, [.ref a0, .int a1], [.ref (hN h), .int a1, .ref (hR h a0 3)], h5) _ _
    obtain ⟨g6, e⟩ := gd_some e
    obtain ⟨h7, eh7, e⟩ := lq_some e
    refine eb_g (p := hT h5 (hR h a0 3) = 107 ∧ inb a1 (hL h5 (hR h a0 3)) ∧ hT h5 (hN h) = 7) (212, [.ref a0, .int a1], [], h7) (by rw [eh7]; rfl) g6 ?_
    obtain ⟨x8, hx8, e⟩ := lq_some e
    refine eb_n 1 (215, [.ref a0, .int x8], [], h7) (by subst hx8; rfl) ?_
    refine eb_n 1 (194, [.ref a0, .int x8], [], h7) (rfl) ?_
    exact hk194 _ _ _  e
set_option maxRecDepth 100000 in
set_option maxHeartbeats 4000000 in
theorem f_River_init_l194_ev {h' : AH} (d : Nat) (hd : 2 ≤ d)  : ∀ (n : Nat) (h : AH) (a0 : Nat) (a1 : Int32)   (_ : f_River_init_l194  n h a0 a1 = some h'), Eb (Ev tb mL d) 23 (194, [.ref a0, .int a1], [], h) h' none := by
  intro n
  induction n with
  | zero => intro h a0 a1  e; exact nomatch e
  | succ n ih =>
    intro h a0 a1  e
    exact f_River_init_b194_ev d hd _ (fun h a0 a1  e => ih h a0 a1  e) h a0 a1  e
set_option maxRecDepth 100000 in
set_option maxHeartbeats 4000000 in
theorem f_River_init_b167_ev {h' : AH} (d : Nat) (hd : 2 ≤ d) (k167 : AH → Nat → Int32 → Option AH) (hk167 : ∀ (h : AH) (a0 : Nat) (a1 : Int32)  , k167 h a0 a1 = some h' → Eb (Ev tb mL d) 23 (167, [.ref a0, .int a1], [], h) h' none)  (h : AH) (a0 : Nat) (a1 : Int32)   (e : f_River_init_b167 k167 h a0 a1 = some h') : Eb (Ev tb mL d) 23 (167, [.ref a0, .int a1], [], h) h' none := by
  unfold f_River_init_b167 at e
  refine eb_n 2 (170, [.ref a0, .int a1], [.int (nI 8), .int a1], h) (rfl) ?_
  refine eb_b (c := (nI 8) ≤ a1) (192, [.ref a0, .int a1], [], h) (173, [.ref a0, .int a1], [], h) rfl (fun c1 => ?_) (fun c1 => ?_)
  · replace e := ite_t c1 e
    refine eb_n 2 (194, [.ref a0, .int (nI 0)], [], h) (rfl) ?_
    exact f_River_init_l194_ev d hd   FU _ _ _  e
  · replace e := ite_f c1 e
    refine eb_n 1 (174, [.ref a0, .int a1], [.ref a0], h) (rfl) ?_
    obtain ⟨g2, e⟩ := gd_some e
    refine eb_g (p := hT h a0 = 3) (177, [.ref a0, .int a1], [.ref (hR h a0 2)], h) rfl g2 ?_
    refine eb_n 1 (178, [.ref a0, .int a1], [.int a1, .ref (hR h a0 2)], h) (rfl) ?_
    obtain ⟨h3, eh3, e⟩ := lq_some e
    refine eb_n 1 (181, [.ref a0, .int a1], [.ref (hN h), .int a1, .ref (hR h a0 2)], h3) (by rw [eh3]; rfl) ?_
    refine eb_n 1 (182, [.ref a0, .int a1], [.ref (hN h), .ref (hN h), .int a1, .ref (hR h a0 2)], h3) (rfl) ?_
    obtain ⟨g4, e⟩ := gd_some e
    obtain ⟨h5, eh5, e⟩ := bv_some e
    refine eb_cg (p := hT h3 (hN h) = 6) rfl g4 (f_Peeler_init_ev d (Nat.le_trans (by decide) hd) eh5) ?_
    show Eb _ 23 (185, [.ref a0, .int a1], [.ref (hN h), .int a1, .ref (hR h a0 2)], h5) _ _
    obtain ⟨g6, e⟩ := gd_some e
    obtain ⟨h7, eh7, e⟩ := lq_some e
    refine eb_g (p := hT h5 (hR h a0 2) = 106 ∧ inb a1 (hL h5 (hR h a0 2)) ∧ hT h5 (hN h) = 6) (186, [.ref a0, .int a1], [], h7) (by rw [eh7]; rfl) g6 ?_
    obtain ⟨x8, hx8, e⟩ := lq_some e
    refine eb_n 1 (189, [.ref a0, .int x8], [], h7) (by subst hx8; rfl) ?_
    refine eb_n 1 (167, [.ref a0, .int x8], [], h7) (rfl) ?_
    exact hk167 _ _ _  e
set_option maxRecDepth 100000 in
set_option maxHeartbeats 4000000 in
theorem f_River_init_l167_ev {h' : AH} (d : Nat) (hd : 2 ≤ d)  : ∀ (n : Nat) (h : AH) (a0 : Nat) (a1 : Int32)   (_ : f_River_init_l167  n h a0 a1 = some h'), Eb (Ev tb mL d) 23 (167, [.ref a0, .int a1], [], h) h' none := by
  intro n
  induction n with
  | zero => intro h a0 a1  e; exact nomatch e
  | succ n ih =>
    intro h a0 a1  e
    exact f_River_init_b167_ev d hd _ (fun h a0 a1  e => ih h a0 a1  e) h a0 a1  e
set_option maxRecDepth 100000 in
set_option maxHeartbeats 4000000 in
theorem f_River_init_b141_ev {h' : AH} (d : Nat) (hd : 2 ≤ d) (k141 : AH → Nat → Int32 → Option AH) (hk141 : ∀ (h : AH) (a0 : Nat) (a1 : Int32)  , k141 h a0 a1 = some h' → Eb (Ev tb mL d) 23 (141, [.ref a0, .int a1], [], h) h' none)  (h : AH) (a0 : Nat) (a1 : Int32)   (e : f_River_init_b141 k141 h a0 a1 = some h') : Eb (Ev tb mL d) 23 (141, [.ref a0, .int a1], [], h) h' none := by
  unfold f_River_init_b141 at e
  refine eb_n 2 (143, [.ref a0, .int a1], [.int (nI 4), .int a1], h) (rfl) ?_
  refine eb_b (c := (nI 4) ≤ a1) (165, [.ref a0, .int a1], [], h) (146, [.ref a0, .int a1], [], h) rfl (fun c1 => ?_) (fun c1 => ?_)
  · replace e := ite_t c1 e
    refine eb_n 2 (167, [.ref a0, .int (nI 0)], [], h) (rfl) ?_
    exact f_River_init_l167_ev d hd   FU _ _ _  e
  · replace e := ite_f c1 e
    refine eb_n 1 (147, [.ref a0, .int a1], [.ref a0], h) (rfl) ?_
    obtain ⟨g2, e⟩ := gd_some e
    refine eb_g (p := hT h a0 = 3) (150, [.ref a0, .int a1], [.ref (hR h a0 1)], h) rfl g2 ?_
    refine eb_n 1 (151, [.ref a0, .int a1], [.int a1, .ref (hR h a0 1)], h) (rfl) ?_
    obtain ⟨h3, eh3, e⟩ := lq_some e
    refine eb_n 1 (154, [.ref a0, .int a1], [.ref (hN h), .int a1, .ref (hR h a0 1)], h3) (by rw [eh3]; rfl) ?_
    refine eb_n 1 (155, [.ref a0, .int a1], [.ref (hN h), .ref (hN h), .int a1, .ref (hR h a0 1)], h3) (rfl) ?_
    obtain ⟨g4, e⟩ := gd_some e
    obtain ⟨h5, eh5, e⟩ := bv_some e
    refine eb_cg (p := hT h3 (hN h) = 5) rfl g4 (f_Rack_init_ev d (Nat.le_trans (by decide) hd) eh5) ?_
    show Eb _ 23 (158, [.ref a0, .int a1], [.ref (hN h), .int a1, .ref (hR h a0 1)], h5) _ _
    obtain ⟨g6, e⟩ := gd_some e
    obtain ⟨h7, eh7, e⟩ := lq_some e
    refine eb_g (p := hT h5 (hR h a0 1) = 105 ∧ inb a1 (hL h5 (hR h a0 1)) ∧ hT h5 (hN h) = 5) (159, [.ref a0, .int a1], [], h7) (by rw [eh7]; rfl) g6 ?_
    obtain ⟨x8, hx8, e⟩ := lq_some e
    refine eb_n 1 (162, [.ref a0, .int x8], [], h7) (by subst hx8; rfl) ?_
    refine eb_n 1 (141, [.ref a0, .int x8], [], h7) (rfl) ?_
    exact hk141 _ _ _  e
set_option maxRecDepth 100000 in
set_option maxHeartbeats 4000000 in
theorem f_River_init_l141_ev {h' : AH} (d : Nat) (hd : 2 ≤ d)  : ∀ (n : Nat) (h : AH) (a0 : Nat) (a1 : Int32)   (_ : f_River_init_l141  n h a0 a1 = some h'), Eb (Ev tb mL d) 23 (141, [.ref a0, .int a1], [], h) h' none := by
  intro n
  induction n with
  | zero => intro h a0 a1  e; exact nomatch e
  | succ n ih =>
    intro h a0 a1  e
    exact f_River_init_b141_ev d hd _ (fun h a0 a1  e => ih h a0 a1  e) h a0 a1  e
set_option maxRecDepth 100000 in
set_option maxHeartbeats 4000000 in
theorem f_River_init_b115_ev {h' : AH} (d : Nat) (hd : 2 ≤ d) (k115 : AH → Nat → Int32 → Option AH) (hk115 : ∀ (h : AH) (a0 : Nat) (a1 : Int32)  , k115 h a0 a1 = some h' → Eb (Ev tb mL d) 23 (115, [.ref a0, .int a1], [], h) h' none)  (h : AH) (a0 : Nat) (a1 : Int32)   (e : f_River_init_b115 k115 h a0 a1 = some h') : Eb (Ev tb mL d) 23 (115, [.ref a0, .int a1], [], h) h' none := by
  unfold f_River_init_b115 at e
  refine eb_n 2 (117, [.ref a0, .int a1], [.int (nI 4), .int a1], h) (rfl) ?_
  refine eb_b (c := (nI 4) ≤ a1) (139, [.ref a0, .int a1], [], h) (120, [.ref a0, .int a1], [], h) rfl (fun c1 => ?_) (fun c1 => ?_)
  · replace e := ite_t c1 e
    refine eb_n 2 (141, [.ref a0, .int (nI 0)], [], h) (rfl) ?_
    exact f_River_init_l141_ev d hd   FU _ _ _  e
  · replace e := ite_f c1 e
    refine eb_n 1 (121, [.ref a0, .int a1], [.ref a0], h) (rfl) ?_
    obtain ⟨g2, e⟩ := gd_some e
    refine eb_g (p := hT h a0 = 3) (124, [.ref a0, .int a1], [.ref (hR h a0 0)], h) rfl g2 ?_
    refine eb_n 1 (125, [.ref a0, .int a1], [.int a1, .ref (hR h a0 0)], h) (rfl) ?_
    obtain ⟨h3, eh3, e⟩ := lq_some e
    refine eb_n 1 (128, [.ref a0, .int a1], [.ref (hN h), .int a1, .ref (hR h a0 0)], h3) (by rw [eh3]; rfl) ?_
    refine eb_n 1 (129, [.ref a0, .int a1], [.ref (hN h), .ref (hN h), .int a1, .ref (hR h a0 0)], h3) (rfl) ?_
    obtain ⟨g4, e⟩ := gd_some e
    obtain ⟨h5, eh5, e⟩ := bv_some e
    refine eb_cg (p := hT h3 (hN h) = 4) rfl g4 (f_Garden_init_ev d (Nat.le_trans (by decide) hd) eh5) ?_
    show Eb _ 23 (132, [.ref a0, .int a1], [.ref (hN h), .int a1, .ref (hR h a0 0)], h5) _ _
    obtain ⟨g6, e⟩ := gd_some e
    obtain ⟨h7, eh7, e⟩ := lq_some e
    refine eb_g (p := hT h5 (hR h a0 0) = 104 ∧ inb a1 (hL h5 (hR h a0 0)) ∧ hT h5 (hN h) = 4) (133, [.ref a0, .int a1], [], h7) (by rw [eh7]; rfl) g6 ?_
    obtain ⟨x8, hx8, e⟩ := lq_some e
    refine eb_n 1 (136, [.ref a0, .int x8], [], h7) (by subst hx8; rfl) ?_
    refine eb_n 1 (115, [.ref a0, .int x8], [], h7) (rfl) ?_
    exact hk115 _ _ _  e
set_option maxRecDepth 100000 in
set_option maxHeartbeats 4000000 in
theorem f_River_init_l115_ev {h' : AH} (d : Nat) (hd : 2 ≤ d)  : ∀ (n : Nat) (h : AH) (a0 : Nat) (a1 : Int32)   (_ : f_River_init_l115  n h a0 a1 = some h'), Eb (Ev tb mL d) 23 (115, [.ref a0, .int a1], [], h) h' none := by
  intro n
  induction n with
  | zero => intro h a0 a1  e; exact nomatch e
  | succ n ih =>
    intro h a0 a1  e
    exact f_River_init_b115_ev d hd _ (fun h a0 a1  e => ih h a0 a1  e) h a0 a1  e
set_option maxRecDepth 100000 in
set_option maxHeartbeats 4000000 in
theorem f_River_init_ev (d0 : Nat) (hd0 : 3 ≤ d0) {h' : AH} {h : AH} {a0 : Nat} (e : f_River_init h a0 = some h') : Ev tb mL d0 23 [.ref a0] h h' none := by
  obtain ⟨d, rfl⟩ : ∃ d, d0 = d + 1 := ⟨d0 - 1, by omega⟩
  have hd : 2 ≤ d := by omega
  refine ⟨Nat.le_of_ble_eq_true rfl, ?_⟩
  show Eb (Ev tb mL d) 23 (0, [.ref a0, .retAddr 0], [], h) h' none
  unfold f_River_init at e
  refine eb_n 1 (1, [.ref a0, .retAddr 0], [.ref a0], h) (rfl) ?_
  obtain ⟨g1, e⟩ := gd_some e
  refine eb_g (p := hT h a0 = 3) (4, [.ref a0, .retAddr 0], [], h) rfl g1 ?_
  refine eb_n 2 (6, [.ref a0, .retAddr 0], [.int (nI 4), .ref a0], h) (rfl) ?_
  obtain ⟨h2, eh2, e⟩ := lq_some e
  refine eb_g (p := ¬ (nI 4) < 0 ∧ ix (nI 4) ≤ 65536) (9, [.ref a0, .retAddr 0], [.ref (hN h), .ref a0], h2) (by rw [eh2]; rfl) (by decide) ?_
  obtain ⟨g3, e⟩ := gd_some e
  obtain ⟨h4, eh4, e⟩ := lq_some e
  refine eb_g (p := hT h2 a0 = 3) (12, [.ref a0, .retAddr 0], [], h4) (by rw [eh4]; rfl) g3 ?_
  refine eb_n 2 (14, [.ref a0, .retAddr 0], [.int (nI 4), .ref a0], h4) (rfl) ?_
  obtain ⟨h5, eh5, e⟩ := lq_some e
  refine eb_g (p := ¬ (nI 4) < 0 ∧ ix (nI 4) ≤ 65536) (17, [.ref a0, .retAddr 0], [.ref (hN h4), .ref a0], h5) (by rw [eh5]; rfl) (by decide) ?_
  obtain ⟨g6, e⟩ := gd_some e
  obtain ⟨h7, eh7, e⟩ := lq_some e
  refine eb_g (p := hT h5 a0 = 3) (20, [.ref a0, .retAddr 0], [], h7) (by rw [eh7]; rfl) g6 ?_
  refine eb_n 2 (23, [.ref a0, .retAddr 0], [.int (nI 8), .ref a0], h7) (rfl) ?_
  obtain ⟨h8, eh8, e⟩ := lq_some e
  refine eb_g (p := ¬ (nI 8) < 0 ∧ ix (nI 8) ≤ 65536) (26, [.ref a0, .retAddr 0], [.ref (hN h7), .ref a0], h8) (by rw [eh8]; rfl) (by decide) ?_
  obtain ⟨g9, e⟩ := gd_some e
  obtain ⟨h10, eh10, e⟩ := lq_some e
  refine eb_g (p := hT h8 a0 = 3) (29, [.ref a0, .retAddr 0], [], h10) (by rw [eh10]; rfl) g9 ?_
  refine eb_n 2 (31, [.ref a0, .retAddr 0], [.int (nI 4), .ref a0], h10) (rfl) ?_
  obtain ⟨h11, eh11, e⟩ := lq_some e
  refine eb_g (p := ¬ (nI 4) < 0 ∧ ix (nI 4) ≤ 65536) (34, [.ref a0, .retAddr 0], [.ref (hN h10), .ref a0], h11) (by rw [eh11]; rfl) (by decide) ?_
  obtain ⟨g12, e⟩ := gd_some e
  obtain ⟨h13, eh13, e⟩ := lq_some e
  refine eb_g (p := hT h11 a0 = 3) (37, [.ref a0, .retAddr 0], [], h13) (by rw [eh13]; rfl) g12 ?_
  refine eb_n 2 (39, [.ref a0, .retAddr 0], [.int (nI 4), .ref a0], h13) (rfl) ?_
  obtain ⟨h14, eh14, e⟩ := lq_some e
  refine eb_g (p := ¬ (nI 4) < 0 ∧ ix (nI 4) ≤ 65536) (42, [.ref a0, .retAddr 0], [.ref (hN h13), .ref a0], h14) (by rw [eh14]; rfl) (by decide) ?_
  obtain ⟨g15, e⟩ := gd_some e
  obtain ⟨h16, eh16, e⟩ := lq_some e
  refine eb_g (p := hT h14 a0 = 3) (45, [.ref a0, .retAddr 0], [], h16) (by rw [eh16]; rfl) g15 ?_
  refine eb_n 2 (48, [.ref a0, .retAddr 0], [.int (nI 12), .ref a0], h16) (rfl) ?_
  obtain ⟨h17, eh17, e⟩ := lq_some e
  refine eb_g (p := ¬ (nI 12) < 0 ∧ ix (nI 12) ≤ 65536) (50, [.ref a0, .retAddr 0], [.ref (hN h16), .ref a0], h17) (by rw [eh17]; rfl) (by decide) ?_
  obtain ⟨g18, e⟩ := gd_some e
  obtain ⟨h19, eh19, e⟩ := lq_some e
  refine eb_g (p := hT h17 a0 = 3) (53, [.ref a0, .retAddr 0], [], h19) (by rw [eh19]; rfl) g18 ?_
  refine eb_n 2 (55, [.ref a0, .retAddr 0], [.int (nI 0), .ref a0], h19) (rfl) ?_
  obtain ⟨g20, e⟩ := gd_some e
  obtain ⟨h21, eh21, e⟩ := lq_some e
  refine eb_g (p := hT h19 a0 = 3) (58, [.ref a0, .retAddr 0], [], h21) (by rw [eh21]; rfl) g20 ?_
  refine eb_n 2 (60, [.ref a0, .retAddr 0], [.int (nI 0), .ref a0], h21) (rfl) ?_
  obtain ⟨g22, e⟩ := gd_some e
  obtain ⟨h23, eh23, e⟩ := lq_some e
  refine eb_g (p := hT h21 a0 = 3) (63, [.ref a0, .retAddr 0], [], h23) (by rw [eh23]; rfl) g22 ?_
  refine eb_n 2 (65, [.ref a0, .retAddr 0], [.int (nI 0), .ref a0], h23) (rfl) ?_
  obtain ⟨g24, e⟩ := gd_some e
  obtain ⟨h25, eh25, e⟩ := lq_some e
  refine eb_g (p := hT h23 a0 = 3) (68, [.ref a0, .retAddr 0], [], h25) (by rw [eh25]; rfl) g24 ?_
  refine eb_n 2 (70, [.ref a0, .retAddr 0], [.int (nI 0), .ref a0], h25) (rfl) ?_
  obtain ⟨g26, e⟩ := gd_some e
  obtain ⟨h27, eh27, e⟩ := lq_some e
  refine eb_g (p := hT h25 a0 = 3) (73, [.ref a0, .retAddr 0], [], h27) (by rw [eh27]; rfl) g26 ?_
  refine eb_n 2 (75, [.ref a0, .retAddr 0], [.int (nI 0), .ref a0], h27) (rfl) ?_
  obtain ⟨g28, e⟩ := gd_some e
  obtain ⟨h29, eh29, e⟩ := lq_some e
  refine eb_g (p := hT h27 a0 = 3) (78, [.ref a0, .retAddr 0], [], h29) (by rw [eh29]; rfl) g28 ?_
  refine eb_n 2 (80, [.ref a0, .retAddr 0], [.int (nI 0), .ref a0], h29) (rfl) ?_
  obtain ⟨g30, e⟩ := gd_some e
  obtain ⟨h31, eh31, e⟩ := lq_some e
  refine eb_g (p := hT h29 a0 = 3) (83, [.ref a0, .retAddr 0], [], h31) (by rw [eh31]; rfl) g30 ?_
  refine eb_n 2 (85, [.ref a0, .retAddr 0], [.int (nI 0), .ref a0], h31) (rfl) ?_
  obtain ⟨g32, e⟩ := gd_some e
  obtain ⟨h33, eh33, e⟩ := lq_some e
  refine eb_g (p := hT h31 a0 = 3) (88, [.ref a0, .retAddr 0], [], h33) (by rw [eh33]; rfl) g32 ?_
  refine eb_n 2 (90, [.ref a0, .retAddr 0], [.int (nI 0), .ref a0], h33) (rfl) ?_
  obtain ⟨g34, e⟩ := gd_some e
  obtain ⟨h35, eh35, e⟩ := lq_some e
  refine eb_g (p := hT h33 a0 = 3) (93, [.ref a0, .retAddr 0], [], h35) (by rw [eh35]; rfl) g34 ?_
  refine eb_n 2 (95, [.ref a0, .retAddr 0], [.int (nI 0), .ref a0], h35) (rfl) ?_
  obtain ⟨g36, e⟩ := gd_some e
  obtain ⟨h37, eh37, e⟩ := lq_some e
  refine eb_g (p := hT h35 a0 = 3) (98, [.ref a0, .retAddr 0], [], h37) (by rw [eh37]; rfl) g36 ?_
  refine eb_n 2 (100, [.ref a0, .retAddr 0], [.int (nI 0), .ref a0], h37) (rfl) ?_
  obtain ⟨g38, e⟩ := gd_some e
  obtain ⟨h39, eh39, e⟩ := lq_some e
  refine eb_g (p := hT h37 a0 = 3) (103, [.ref a0, .retAddr 0], [], h39) (by rw [eh39]; rfl) g38 ?_
  refine eb_n 2 (105, [.ref a0, .retAddr 0], [.int (nI 0), .ref a0], h39) (rfl) ?_
  obtain ⟨g40, e⟩ := gd_some e
  obtain ⟨h41, eh41, e⟩ := lq_some e
  refine eb_g (p := hT h39 a0 = 3) (108, [.ref a0, .retAddr 0], [], h41) (by rw [eh41]; rfl) g40 ?_
  refine eb_n 2 (110, [.ref a0, .retAddr 0], [.int (nI 0), .ref a0], h41) (rfl) ?_
  obtain ⟨g42, e⟩ := gd_some e
  obtain ⟨h43, eh43, e⟩ := lq_some e
  refine eb_g (p := hT h41 a0 = 3) (113, [.ref a0, .retAddr 0], [], h43) (by rw [eh43]; rfl) g42 ?_
  refine eb_n 2 (115, [.ref a0, .int (nI 0)], [], h43) (rfl) ?_
  exact f_River_init_l115_ev d hd   FU _ _ _  e
set_option maxRecDepth 100000 in
set_option maxHeartbeats 4000000 in
theorem f_String_coder_ev (d0 : Nat) (hd0 : 1 ≤ d0) {h' : AH} {r : Int32} {h : AH} {a0 : Nat} (e : f_String_coder h a0 = some (h', r)) : Ev tb mL d0 91 [.ref a0] h h' (some (.int r)) := by
  obtain ⟨d, rfl⟩ : ∃ d, d0 = d + 1 := ⟨d0 - 1, by omega⟩
  have hd : 0 ≤ d := by omega
  refine ⟨Nat.le_of_ble_eq_true rfl, ?_⟩
  show Eb (Ev tb mL d) 91 (0, [.ref a0], [], h) h' (some (.int r))
  unfold f_String_coder at e
  refine eb_n 1 (3, [.ref a0], [.int (nI 1)], h) (rfl) ?_
  refine eb_b (c := (nI 1) = 0) (13, [.ref a0], [], h) (6, [.ref a0], [], h) rfl (fun c1 => ?_) (fun c1 => ?_)
  · replace e := ite_t c1 e
    refine eb_n 1 (14, [.ref a0], [.int (nI 1)], h) (rfl) ?_
    obtain ⟨g2, e⟩ := gd_some e
    rw [(sp_inj e).1, (sp_inj e).2]
    exact eb_rg (p := nrm 4 (nI 1)) rfl g2
  · replace e := ite_f c1 e
    refine eb_n 1 (7, [.ref a0], [.ref a0], h) (rfl) ?_
    obtain ⟨g3, e⟩ := gd_some e
    refine eb_g (p := hT h a0 = 15) (10, [.ref a0], [.int (hI h a0 1)], h) rfl g3 ?_
    refine eb_n 1 (14, [.ref a0], [.int (hI h a0 1)], h) (rfl) ?_
    obtain ⟨g4, e⟩ := gd_some e
    rw [(sp_inj e).1, (sp_inj e).2]
    exact eb_rg (p := nrm 4 (hI h a0 1)) rfl g4
set_option maxRecDepth 100000 in
set_option maxHeartbeats 4000000 in
theorem f_String_length_ev (d0 : Nat) (hd0 : 2 ≤ d0) {h' : AH} {r : Int32} {h : AH} {a0 : Nat} (e : f_String_length h a0 = some (h', r)) : Ev tb mL d0 34 [.ref a0] h h' (some (.int r)) := by
  obtain ⟨d, rfl⟩ : ∃ d, d0 = d + 1 := ⟨d0 - 1, by omega⟩
  have hd : 1 ≤ d := by omega
  refine ⟨Nat.le_of_ble_eq_true rfl, ?_⟩
  show Eb (Ev tb mL d) 34 (0, [.ref a0], [], h) h' (some (.int r))
  unfold f_String_length at e
  refine eb_n 1 (1, [.ref a0], [.ref a0], h) (rfl) ?_
  obtain ⟨g1, e⟩ := gd_some e
  refine eb_g (p := hT h a0 = 15) (4, [.ref a0], [.ref (hR h a0 0)], h) rfl g1 ?_
  obtain ⟨g2, e⟩ := gd_some e
  refine eb_g (p := hT h (hR h a0 0) = 102) (5, [.ref a0], [.int (nI (hL h (hR h a0 0)))], h) rfl g2 ?_
  refine eb_n 1 (6, [.ref a0], [.ref a0, .int (nI (hL h (hR h a0 0)))], h) (rfl) ?_
  obtain ⟨h3, r4, eh3, e⟩ := bn_some e
  refine eb_cg (p := hT h a0 = 15) rfl g1 (f_String_coder_ev d (Nat.le_trans (by decide) hd) eh3) ?_
  show Eb _ 34 (9, [.ref a0], [.int r4, .int (nI (hL h (hR h a0 0)))], h3) _ _
  refine eb_n 1 (10, [.ref a0], [.int ((nI (hL h (hR h a0 0))) >>> (r4 &&& 31))], h3) (rfl) ?_
  rw [(sp_inj e).1, (sp_inj e).2]
  exact eb_rg (p := nrm 0 ((nI (hL h (hR h a0 0))) >>> (r4 &&& 31))) rfl (nrm_0 _)
set_option maxRecDepth 100000 in
set_option maxHeartbeats 4000000 in
theorem f_String_isLatin1_ev (d0 : Nat) (hd0 : 1 ≤ d0) {h' : AH} {r : Int32} {h : AH} {a0 : Nat} (e : f_String_isLatin1 h a0 = some (h', r)) : Ev tb mL d0 92 [.ref a0] h h' (some (.int r)) := by
  obtain ⟨d, rfl⟩ : ∃ d, d0 = d + 1 := ⟨d0 - 1, by omega⟩
  have hd : 0 ≤ d := by omega
  refine ⟨Nat.le_of_ble_eq_true rfl, ?_⟩
  show Eb (Ev tb mL d) 92 (0, [.ref a0], [], h) h' (some (.int r))
  unfold f_String_isLatin1 at e
  refine eb_n 1 (3, [.ref a0], [.int (nI 1)], h) (rfl) ?_
  refine eb_b (c := (nI 1) = 0) (17, [.ref a0], [], h) (6, [.ref a0], [], h) rfl (fun c1 => ?_) (fun c1 => ?_)
  · replace e := ite_t c1 e
    refine eb_n 1 (18, [.ref a0], [.int (nI 0)], h) (rfl) ?_
    rw [(sp_inj e).1, (sp_inj e).2]
    exact eb_rg (p := nrm 3 (nI 0)) rfl nrm_30
  · replace e := ite_f c1 e
    refine eb_n 1 (7, [.ref a0], [.ref a0], h) (rfl) ?_
    obtain ⟨g2, e⟩ := gd_some e
    refine eb_g (p := hT h a0 = 15) (10, [.ref a0], [.int (hI h a0 1)], h) rfl g2 ?_
    refine eb_b (c := ¬ (hI h a0 1) = 0) (17, [.ref a0], [], h) (13, [.ref a0], [], h) rfl (fun c3 => ?_) (fun c3 => ?_)
    · replace e := ite_t c3 e
      refine eb_n 1 (18, [.ref a0], [.int (nI 0)], h) (rfl) ?_
      rw [(sp_inj e).1, (sp_inj e).2]
      exact eb_rg (p := nrm 3 (nI 0)) rfl nrm_30
    · replace e := ite_f c3 e
      refine eb_n 2 (18, [.ref a0], [.int (nI 1)], h) (rfl) ?_
      rw [(sp_inj e).1, (sp_inj e).2]
      exact eb_rg (p := nrm 3 (nI 1)) rfl nrm_31
set_option maxRecDepth 100000 in
set_option maxHeartbeats 4000000 in
theorem f_Pre_checkIndex_b9_ev {h' : AH} {r : Int32} (d : Nat) (hd : 0 ≤ d)  (h : AH) (a0 : Int32) (a1 : Int32) (a2 : Nat)   (e : f_Pre_checkIndex_b9  h a0 a1 a2 = some (h', r)) : Eb (Ev tb mL d) 159 (9, [.int a0, .int a1, .ref a2], [], h) h' (some (.int r)) := by
  unfold f_Pre_checkIndex_b9 at e
  exact nomatch e
set_option maxRecDepth 100000 in
set_option maxHeartbeats 4000000 in
theorem f_Pre_checkIndex_ev (d0 : Nat) (hd0 : 1 ≤ d0) {h' : AH} {r : Int32} {h : AH} {a0 : Int32} {a1 : Int32} {a2 : Nat} (e : f_Pre_checkIndex h a0 a1 a2 = some (h', r)) : Ev tb mL d0 159 [.int a0, .int a1, .ref a2] h h' (some (.int r)) := by
  obtain ⟨d, rfl⟩ : ∃ d, d0 = d + 1 := ⟨d0 - 1, by omega⟩
  have hd : 0 ≤ d := by omega
  refine ⟨Nat.le_of_ble_eq_true rfl, ?_⟩
  show Eb (Ev tb mL d) 159 (0, [.int a0, .int a1, .ref a2], [], h) h' (some (.int r))
  unfold f_Pre_checkIndex at e
  refine eb_n 1 (1, [.int a0, .int a1, .ref a2], [.int a0], h) (rfl) ?_
  refine eb_b (c := a0 < 0) (9, [.int a0, .int a1, .ref a2], [], h) (4, [.int a0, .int a1, .ref a2], [], h) rfl (fun c1 => ?_) (fun c1 => ?_)
  · replace e := ite_t c1 e
    exact f_Pre_checkIndex_b9_ev d hd   _ _ _ _  e
  · replace e := ite_f c1 e
    refine eb_n 2 (6, [.int a0, .int a1, .ref a2], [.int a1, .int a0], h) (rfl) ?_
    refine eb_b (c := a0 < a1) (16, [.int a0, .int a1, .ref a2], [], h) (9, [.int a0, .int a1, .ref a2], [], h) rfl (fun c2 => ?_) (fun c2 => ?_)
    · replace e := ite_t c2 e
      refine eb_n 1 (17, [.int a0, .int a1, .ref a2], [.int a0], h) (rfl) ?_
      rw [(sp_inj e).1, (sp_inj e).2]
      exact eb_rg (p := nrm 0 a0) rfl (nrm_0 _)
    · replace e := ite_f c2 e
      exact f_Pre_checkIndex_b9_ev d hd   _ _ _ _  e
set_option maxRecDepth 100000 in
set_option maxHeartbeats 4000000 in
theorem f_String_checkIndex_ev (d0 : Nat) (hd0 : 2 ≤ d0) {h' : AH} {h : AH} {a0 : Int32} {a1 : Int32} (e : f_String_checkIndex h a0 a1 = some h') : Ev tb mL d0 127 [.int a0, .int a1] h h' none := by
  obtain ⟨d, rfl⟩ : ∃ d, d0 = d + 1 := ⟨d0 - 1, by omega⟩
  have hd : 1 ≤ d := by omega
  refine ⟨Nat.le_of_ble_eq_true rfl, ?_⟩
  show Eb (Ev tb mL d) 127 (0, [.int a0, .int a1], [], h) h' none
  unfold f_String_checkIndex at e
  refine eb_n 3 (5, [.int a0, .int a1], [.ref 5, .int a1, .int a0], h) (rfl) ?_
  obtain ⟨h1, r2, eh1, e⟩ := bn_some e
  refine eb_c rfl (f_Pre_checkIndex_ev d (Nat.le_trans (by decide) hd) eh1) ?_
  show Eb _ 127 (8, [.int a0, .int a1], [.int r2], h1) _ _
  refine eb_n 1 (9, [.int a0, .int a1], [], h1) (rfl) ?_
  rw [sv_inj e]
  exact eb_r rfl
set_option maxRecDepth 100000 in
set_option maxHeartbeats 4000000 in
theorem f_Lat_charAt_ev (d0 : Nat) (hd0 : 3 ≤ d0) {h' : AH} {r : Int32} {h : AH} {a0 : Nat} {a1 : Int32} (e : f_Lat_charAt h a0 a1 = some (h', r)) : Ev tb mL d0 93 [.ref a0, .int a1] h h' (some (.int r)) := by
  obtain ⟨d, rfl⟩ : ∃ d, d0 = d + 1 := ⟨d0 - 1, by omega⟩
  have hd : 2 ≤ d := by omega
  refine ⟨Nat.le_of_ble_eq_true rfl, ?_⟩
  show Eb (Ev tb mL d) 93 (0, [.ref a0, .int a1], [], h) h' (some (.int r))
  unfold f_Lat_charAt at e
  refine eb_n 2 (2, [.ref a0, .int a1], [.ref a0, .int a1], h) (rfl) ?_
  obtain ⟨g1, e⟩ := gd_some e
  refine eb_g (p := hT h a0 = 102) (3, [.ref a0, .int a1], [.int (nI (hL h a0)), .int a1], h) rfl g1 ?_
  obtain ⟨h2, eh2, e⟩ := bv_some e
  refine eb_c rfl (f_String_checkIndex_ev d (Nat.le_trans (by decide) hd) eh2) ?_
  show Eb _ 93 (6, [.ref a0, .int a1], [], h2) _ _
  refine eb_n 2 (8, [.ref a0, .int a1], [.int a1, .ref a0], h2) (rfl) ?_
  obtain ⟨g3, e⟩ := gd_some e
  refine eb_g (p := hT h2 a0 = 102 ∧ inb a1 (hL h2 a0)) (9, [.ref a0, .int a1], [.int (hI h2 a0 (ix a1))], h2) rfl g3 ?_
  refine eb_n 3 (14, [.ref a0, .int a1], [.int (UInt32.toInt32 (Int32.toUInt32 ((hI h2 a0 (ix a1)) &&& (nI 255)) % 65536))], h2) (rfl) ?_
  obtain ⟨g4, e⟩ := gd_some e
  rw [(sp_inj e).1, (sp_inj e).2]
  exact eb_rg (p := nrm 5 (UInt32.toInt32 (Int32.toUInt32 ((hI h2 a0 (ix a1)) &&& (nI 255)) % 65536))) rfl g4
set_option maxRecDepth 100000 in
set_option maxHeartbeats 4000000 in
theorem f_String_charAt_ev (d0 : Nat) (hd0 : 4 ≤ d0) {h' : AH} {r : Int32} {h : AH} {a0 : Nat} {a1 : Int32} (e : f_String_charAt h a0 a1 = some (h', r)) : Ev tb mL d0 35 [.ref a0, .int a1] h h' (some (.int r)) := by
  obtain ⟨d, rfl⟩ : ∃ d, d0 = d + 1 := ⟨d0 - 1, by omega⟩
  have hd : 3 ≤ d := by omega
  refine ⟨Nat.le_of_ble_eq_true rfl, ?_⟩
  show Eb (Ev tb mL d) 35 (0, [.ref a0, .int a1], [], h) h' (some (.int r))
  unfold f_String_charAt at e
  refine eb_n 1 (1, [.ref a0, .int a1], [.ref a0], h) (rfl) ?_
  obtain ⟨g1, e⟩ := gd_some e
  obtain ⟨h2, r3, eh2, e⟩ := bn_some e
  refine eb_cg (p := hT h a0 = 15) rfl g1 (f_String_isLatin1_ev d (Nat.le_trans (by decide) hd) eh2) ?_
  show Eb _ 35 (4, [.ref a0, .int a1], [.int r3], h2) _ _
  refine eb_b (c := r3 = 0) (16, [.ref a0, .int a1], [], h2) (7, [.ref a0, .int a1], [], h2) rfl (fun c4 => ?_) (fun c4 => ?_)
  · replace e := ite_t c4 e
    refine eb_n 1 (17, [.ref a0, .int a1], [.ref a0], h2) (rfl) ?_
    obtain ⟨g5, e⟩ := gd_some e
    refine eb_g (p := hT h2 a0 = 15) (20, [.ref a0, .int a1], [.ref (hR h2 a0 0)], h2) rfl g5 ?_
    exact nomatch e
  · replace e := ite_f c4 e
    refine eb_n 1 (8, [.ref a0, .int a1], [.ref a0], h2) (rfl) ?_
    obtain ⟨g6, e⟩ := gd_some e
    refine eb_g (p := hT h2 a0 = 15) (11, [.ref a0, .int a1], [.ref (hR h2 a0 0)], h2) rfl g6 ?_
    refine eb_n 1 (12, [.ref a0, .int a1], [.int a1, .ref (hR h2 a0 0)], h2) (rfl) ?_
    obtain ⟨h7, r8, eh7, e⟩ := bn_some e
    refine eb_c rfl (f_Lat_charAt_ev d (Nat.le_trans (by decide) hd) eh7) ?_
    show Eb _ 35 (15, [.ref a0, .int a1], [.int r8], h7) _ _
    obtain ⟨g9, e⟩ := gd_some e
    rw [(sp_inj e).1, (sp_inj e).2]
    exact eb_rg (p := nrm 5 r8) rfl g9
set_option maxRecDepth 100000 in
set_option maxHeartbeats 4000000 in
theorem f_Tokens_isDigit_ev (d0 : Nat) (hd0 : 1 ≤ d0) {h' : AH} {r : Int32} {h : AH} {a0 : Int32} (e : f_Tokens_isDigit h a0 = some (h', r)) : Ev tb mL d0 164 [.int a0] h h' (some (.int r)) := by
  obtain ⟨d, rfl⟩ : ∃ d, d0 = d + 1 := ⟨d0 - 1, by omega⟩
  have hd : 0 ≤ d := by omega
  refine ⟨Nat.le_of_ble_eq_true rfl, ?_⟩
  show Eb (Ev tb mL d) 164 (0, [.int a0], [], h) h' (some (.int r))
  unfold f_Tokens_isDigit at e
  refine eb_n 2 (3, [.int a0], [.int (nI 48), .int a0], h) (rfl) ?_
  refine eb_b (c := a0 < (nI 48)) (16, [.int a0], [], h) (6, [.int a0], [], h) rfl (fun c1 => ?_) (fun c1 => ?_)
  · replace e := ite_t c1 e
    refine eb_n 1 (17, [.int a0], [.int (nI 0)], h) (rfl) ?_
    rw [(sp_inj e).1, (sp_inj e).2]
    exact eb_rg (p := nrm 3 (nI 0)) rfl nrm_30
  · replace e := ite_f c1 e
    refine eb_n 2 (9, [.int a0], [.int (nI 57), .int a0], h) (rfl) ?_
    refine eb_b (c := (nI 57) < a0) (16, [.int a0], [], h) (12, [.int a0], [], h) rfl (fun c2 => ?_) (fun c2 => ?_)
    · replace e := ite_t c2 e
      refine eb_n 1 (17, [.int a0], [.int (nI 0)], h) (rfl) ?_
      rw [(sp_inj e).1, (sp_inj e).2]
      exact eb_rg (p := nrm 3 (nI 0)) rfl nrm_30
    · replace e := ite_f c2 e
      refine eb_n 2 (17, [.int a0], [.int (nI 1)], h) (rfl) ?_
      rw [(sp_inj e).1, (sp_inj e).2]
      exact eb_rg (p := nrm 3 (nI 1)) rfl nrm_31
set_option maxRecDepth 100000 in
set_option maxHeartbeats 4000000 in
theorem f_Tokens_joined_b27_ev {h' : AH} {r : Int64} (d : Nat) (hd : 1 ≤ d)  (h : AH)  (s0 : Int64) (s1 : Int32) (d0 : Value) (d1 : Value) (d2 : Value) (e : f_Tokens_joined_b27  h s0 s1 = some (h', r)) : Eb (Ev tb mL d) 151 (27, [d0, d1, d2], [.int s1, .long s0], h) h' (some (.long r)) := by
  unfold f_Tokens_joined_b27 at e
  refine eb_n 2 (29, [d0, d1, d2], [.long (s0 + (Int32.toInt64 s1))], h) (rfl) ?_
  rw [(sp_inj e).1, (sp_inj e).2]
  exact eb_r rfl
set_option maxRecDepth 100000 in
set_option maxHeartbeats 4000000 in
theorem f_Tokens_joined_ev (d0 : Nat) (hd0 : 2 ≤ d0) {h' : AH} {r : Int64} {h : AH} {a0 : Int64} {a1 : Int32} (e : f_Tokens_joined h a0 a1 = some (h', r)) : Ev tb mL d0 151 [.long a0, .int a1] h h' (some (.long r)) := by
  obtain ⟨d, rfl⟩ : ∃ d, d0 = d + 1 := ⟨d0 - 1, by omega⟩
  have hd : 1 ≤ d := by omega
  refine ⟨Nat.le_of_ble_eq_true rfl, ?_⟩
  show Eb (Ev tb mL d) 151 (0, [.long a0, .retAddr 0, .int a1], [], h) h' (some (.long r))
  unfold f_Tokens_joined at e
  refine eb_n 4 (5, [.long a0, .retAddr 0, .int a1], [.int a1, .long (a0 <<< (Int32.toInt64 (nI 6) &&& 63))], h) (rfl) ?_
  obtain ⟨h1, r2, eh1, e⟩ := bn_some e
  refine eb_c rfl (f_Tokens_isDigit_ev d (Nat.le_trans (by decide) hd) eh1) ?_
  show Eb _ 151 (8, [.long a0, .retAddr 0, .int a1], [.int r2, .long (a0 <<< (Int32.toInt64 (nI 6) &&& 63))], h1) _ _
  refine eb_b (c := r2 = 0) (21, [.long a0, .retAddr 0, .int a1], [.long (a0 <<< (Int32.toInt64 (nI 6) &&& 63))], h1) (11, [.long a0, .retAddr 0, .int a1], [.long (a0 <<< (Int32.toInt64 (nI 6) &&& 63))], h1) rfl (fun c3 => ?_) (fun c3 => ?_)
  · replace e := ite_t c3 e
    refine eb_n 5 (27, [.long a0, .retAddr 0, .int a1], [.int ((a1 - (nI 97)) + (nI 1)), .long (a0 <<< (Int32.toInt64 (nI 6) &&& 63))], h1) (rfl) ?_
    exact f_Tokens_joined_b27_ev d hd   _ _ _ _ _ _ e
  · replace e := ite_f c3 e
    refine eb_n 6 (27, [.long a0, .retAddr 0, .int a1], [.int ((a1 - (nI 48)) + (nI 27)), .long (a0 <<< (Int32.toInt64 (nI 6) &&& 63))], h1) (rfl) ?_
    exact f_Tokens_joined_b27_ev d hd   _ _ _ _ _ _ e
set_option maxRecDepth 100000 in
set_option maxHeartbeats 4000000 in
theorem f_Tokens_init_b137_ev {h' : AH} (d : Nat) (hd : 4 ≤ d) (k60 : AH → Nat → Int32 → Int64 → Int32 → Option AH) (hk60 : ∀ (h : AH) (a0 : Nat) (a1 : Int32) (a2 : Int64) (a4 : Int32)  (d5 : Value), k60 h a0 a1 a2 a4 = some h' → Eb (Ev tb mL d) 119 (60, [.ref a0, .int a1, .long a2, .retAddr 0, .int a4, d5], [], h) h' none)  (h : AH) (a0 : Nat) (a1 : Int32) (a2 : Int64) (a4 : Int32)  (d5 : Value) (e : f_Tokens_init_b137 k60 h a0 a1 a2 a4 = some h') : Eb (Ev tb mL d) 119 (137, [.ref a0, .int a1, .long a2, .retAddr 0, .int a4, d5], [], h) h' none := by
  unfold f_Tokens_init_b137 at e
  obtain ⟨x1, hx1, e⟩ := lq_some e
  refine eb_n 1 (140, [.ref a0, .int a1, .long a2, .retAddr 0, .int x1, d5], [], h) (by subst hx1; rfl) ?_
  refine eb_n 1 (60, [.ref a0, .int a1, .long a2, .retAddr 0, .int x1, d5], [], h) (rfl) ?_
  exact hk60 _ _ _ _ _ _ e
set_option maxRecDepth 100000 in
set_option maxHeartbeats 4000000 in
theorem f_Tokens_init_b120_ev {h' : AH} (d : Nat) (hd : 4 ≤ d) (k60 : AH → Nat → Int32 → Int64 → Int32 → Option AH) (hk60 : ∀ (h : AH) (a0 : Nat) (a1 : Int32) (a2 : Int64) (a4 : Int32)  (d5 : Value), k60 h a0 a1 a2 a4 = some h' → Eb (Ev tb mL d) 119 (60, [.ref a0, .int a1, .long a2, .retAddr 0, .int a4, d5], [], h) h' none)  (h : AH) (a0 : Nat) (a2 : Int64) (a4 : Int32) (s0 : Int32) (d1 : Value) (d5 : Value) (e : f_Tokens_init_b120 k60 h a0 a2 a4 s0 = some h') : Eb (Ev tb mL d) 119 (120, [.ref a0, d1, .long a2, .retAddr 0, .int a4, d5], [.int s0], h) h' none := by
  unfold f_Tokens_init_b120 at e
  refine eb_n 3 (123, [.ref a0, .int s0, .long a2, .retAddr 0, .int a4, d5], [.ref a0, .int s0], h) (rfl) ?_
  obtain ⟨g1, e⟩ := gd_some e
  refine eb_g (p := hT h a0 = 11) (126, [.ref a0, .int s0, .long a2, .retAddr 0, .int a4, d5], [.ref (hR h a0 0), .int s0], h) rfl g1 ?_
  obtain ⟨g2, e⟩ := gd_some e
  refine eb_g (p := hT h (hR h a0 0) = 103) (127, [.ref a0, .int s0, .long a2, .retAddr 0, .int a4, d5], [.int (nI (hL h (hR h a0 0))), .int s0], h) rfl g2 ?_
  refine eb_b (c := (nI (hL h (hR h a0 0))) ≤ s0) (137, [.ref a0, .int s0, .long a2, .retAddr 0, .int a4, d5], [], h) (130, [.ref a0, .int s0, .long a2, .retAddr 0, .int a4, d5], [], h) rfl (fun c3 => ?_) (fun c3 => ?_)
  · replace e := ite_t c3 e
    exact f_Tokens_init_b137_ev d hd k60 hk60 _ _ _ _ _ _ e
  · replace e := ite_f c3 e
    refine eb_n 1 (131, [.ref a0, .int s0, .long a2, .retAddr 0, .int a4, d5], [.ref a0], h) (rfl) ?_
    refine eb_g (p := hT h a0 = 11) (134, [.ref a0, .int s0, .long a2, .retAddr 0, .int a4, d5], [.ref (hR h a0 0)], h) rfl g1 ?_
    refine eb_n 2 (136, [.ref a0, .int s0, .long a2, .retAddr 0, .int a4, d5], [.long a2, .int s0, .ref (hR h a0 0)], h) (rfl) ?_
    obtain ⟨g4, e⟩ := gd_some e
    obtain ⟨h5, eh5, e⟩ := lq_some e
    refine eb_g (p := hT h (hR h a0 0) = 103 ∧ inb s0 (hL h (hR h a0 0))) (137, [.ref a0, .int s0, .long a2, .retAddr 0, .int a4, d5], [], h5) (by rw [eh5]; rfl) g4 ?_
    exact f_Tokens_init_b137_ev d hd k60 hk60 _ _ _ _ _ _ e
set_option maxRecDepth 100000 in
set_option maxHeartbeats 4000000 in
theorem f_Tokens_init_b105_ev {h' : AH} (d : Nat) (hd : 4 ≤ d) (k60 : AH → Nat → Int32 → Int64 → Int32 → Option AH) (hk60 : ∀ (h : AH) (a0 : Nat) (a1 : Int32) (a2 : Int64) (a4 : Int32)  (d5 : Value), k60 h a0 a1 a2 a4 = some h' → Eb (Ev tb mL d) 119 (60, [.ref a0, .int a1, .long a2, .retAddr 0, .int a4, d5], [], h) h' none)  (h : AH) (a0 : Nat) (a1 : Int32) (a4 : Int32) (a5 : Int32) (s0 : Int64) (d2 : Value) (d3 : Value) (e : f_Tokens_init_b105 k60 h a0 a1 a4 a5 s0 = some h') : Eb (Ev tb mL d) 119 (105, [.ref a0, .int a1, d2, d3, .int a4, .int a5], [.long s0], h) h' none := by
  unfold f_Tokens_init_b105 at e
  refine eb_n 3 (110, [.ref a0, .int a1, .long s0, .retAddr 0, .int a4, .int a5], [.int (nI 32), .int a5], h) (rfl) ?_
  refine eb_b (c := ¬ a5 = (nI 32)) (119, [.ref a0, .int a1, .long s0, .retAddr 0, .int a4, .int a5], [], h) (113, [.ref a0, .int a1, .long s0, .retAddr 0, .int a4, .int a5], [], h) rfl (fun c1 => ?_) (fun c1 => ?_)
  · replace e := ite_t c1 e
    refine eb_n 1 (120, [.ref a0, .int a1, .long s0, .retAddr 0, .int a4, .int a5], [.int a1], h) (rfl) ?_
    exact f_Tokens_init_b120_ev d hd k60 hk60 _ _ _ _ _ _ _ e
  · replace e := ite_f c1 e
    refine eb_n 4 (120, [.ref a0, .int a1, .long s0, .retAddr 0, .int a4, .int a5], [.int (a1 + (nI 1))], h) (rfl) ?_
    exact f_Tokens_init_b120_ev d hd k60 hk60 _ _ _ _ _ _ _ e
set_option maxRecDepth 100000 in
set_option maxHeartbeats 4000000 in
theorem f_Tokens_init_b60_ev {h' : AH} (d : Nat) (hd : 4 ≤ d) (k60 : AH → Nat → Int32 → Int64 → Int32 → Option AH) (hk60 : ∀ (h : AH) (a0 : Nat) (a1 : Int32) (a2 : Int64) (a4 : Int32)  (d5 : Value), k60 h a0 a1 a2 a4 = some h' → Eb (Ev tb mL d) 119 (60, [.ref a0, .int a1, .long a2, .retAddr 0, .int a4, d5], [], h) h' none)  (h : AH) (a0 : Nat) (a1 : Int32) (a2 : Int64) (a4 : Int32)  (d5 : Value) (e : f_Tokens_init_b60 k60 h a0 a1 a2 a4 = some h') : Eb (Ev tb mL d) 119 (60, [.ref a0, .int a1, .long a2, .retAddr 0, .int a4, d5], [], h) h' none := by
  unfold f_Tokens_init_b60 at e
  refine eb_n 2 (64, [.ref a0, .int a1, .long a2, .retAddr 0, .int a4, d5], [.ref 112, .int a4], h) (rfl) ?_
  obtain ⟨g1, e⟩ := gd_some e
  obtain ⟨h2, r3, eh2, e⟩ := bn_some e
  refine eb_cg (p := hT h 112 = 15) rfl g1 (f_String_length_ev d (Nat.le_trans (by decide) hd) eh2) ?_
  show Eb _ 119 (67, [.ref a0, .int a1, .long a2, .retAddr 0, .int a4, d5], [.int r3, .int a4], h2) _ _
  refine eb_b (c := r3 ≤ a4) (143, [.ref a0, .int a1, .long a2, .retAddr 0, .int a4, d5], [], h2) (70, [.ref a0, .int a1, .long a2, .retAddr 0, .int a4, d5], [], h2) rfl (fun c4 => ?_) (fun c4 => ?_)
  · replace e := ite_t c4 e
    rw [sv_inj e]
    exact eb_r rfl
  · replace e := ite_f c4 e
    refine eb_n 2 (72, [.ref a0, .int a1, .long a2, .retAddr 0, .int a4, d5], [.ref a0, .int a1], h2) (rfl) ?_
    obtain ⟨g5, e⟩ := gd_some e
    refine eb_g (p := hT h2 a0 = 11) (75, [.ref a0, .int a1, .long a2, .retAddr 0, .int a4, d5], [.ref (hR h2 a0 0), .int a1], h2) rfl g5 ?_
    obtain ⟨g6, e⟩ := gd_some e
    refine eb_g (p := hT h2 (hR h2 a0 0) = 103) (76, [.ref a0, .int a1, .long a2, .retAddr 0, .int a4, d5], [.int (nI (hL h2 (hR h2 a0 0))), .int a1], h2) rfl g6 ?_
    refine eb_b (c := (nI (hL h2 (hR h2 a0 0))) ≤ a1) (143, [.ref a0, .int a1, .long a2, .retAddr 0, .int a4, d5], [], h2) (79, [.ref a0, .int a1, .long a2, .retAddr 0, .int a4, d5], [], h2) rfl (fun c7 => ?_) (fun c7 => ?_)
    · replace e := ite_t c7 e
      rw [sv_inj e]
      exact eb_r rfl
    · replace e := ite_f c7 e
      refine eb_n 2 (83, [.ref a0, .int a1, .long a2, .retAddr 0, .int a4, d5], [.int a4, .ref 112], h2) (rfl) ?_
      obtain ⟨g8, e⟩ := gd_some e
      obtain ⟨h9, r10, eh9, e⟩ := bn_some e
      refine eb_cg (p := hT h2 112 = 15) rfl g8 (f_String_charAt_ev d (Nat.le_trans (by decide) hd) eh9) ?_
      show Eb _ 119 (86, [.ref a0, .int a1, .long a2, .retAddr 0, .int a4, d5], [.int r10], h9) _ _
      refine eb_n 3 (92, [.ref a0, .int a1, .long a2, .retAddr 0, .int a4, .int r10], [.int (nI 32), .int r10], h9) (rfl) ?_
      refine eb_b (c := ¬ r10 = (nI 32)) (99, [.ref a0, .int a1, .long a2, .retAddr 0, .int a4, .int r10], [], h9) (95, [.ref a0, .int a1, .long a2, .retAddr 0, .int a4, .int r10], [], h9) rfl (fun c11 => ?_) (fun c11 => ?_)
      · replace e := ite_t c11 e
        refine eb_n 2 (102, [.ref a0, .int a1, .long a2, .retAddr 0, .int a4, .int r10], [.int r10, .long a2], h9) (rfl) ?_
        obtain ⟨h12, r13, eh12, e⟩ := bn_some e
        refine eb_c rfl (f_Tokens_joined_ev d (Nat.le_trans (by decide) hd) eh12) ?_
        show Eb _ 119 (105, [.ref a0, .int a1, .long a2, .retAddr 0, .int a4, .int r10], [.long r13], h12) _ _
        exact f_Tokens_init_b105_ev d hd k60 hk60 _ _ _ _ _ _ _ _ e
      · replace e := ite_f c11 e
        refine eb_n 2 (105, [.ref a0, .int a1, .long a2, .retAddr 0, .int a4, .int r10], [.long (Int64.ofNat 0)], h9) (rfl) ?_
        exact f_Tokens_init_b105_ev d hd k60 hk60 _ _ _ _ _ _ _ _ e
set_option maxRecDepth 100000 in
set_option maxHeartbeats 4000000 in
theorem f_Tokens_init_l60_ev {h' : AH} (d : Nat) (hd : 4 ≤ d)  : ∀ (n : Nat) (h : AH) (a0 : Nat) (a1 : Int32) (a2 : Int64) (a4 : Int32)  (d5 : Value) (_ : f_Tokens_init_l60  n h a0 a1 a2 a4 = some h'), Eb (Ev tb mL d) 119 (60, [.ref a0, .int a1, .long a2, .retAddr 0, .int a4, d5], [], h) h' none := by
  intro n
  induction n with
  | zero => intro h a0 a1 a2 a4 d5 e; exact nomatch e
  | succ n ih =>
    intro h a0 a1 a2 a4 d5 e
    exact f_Tokens_init_b60_ev d hd _ (fun h a0 a1 a2 a4 d5 e => ih h a0 a1 a2 a4 d5 e) h a0 a1 a2 a4 d5 e
set_option maxRecDepth 100000 in
set_option maxHeartbeats 4000000 in
theorem f_Tokens_init_ev (d0 : Nat) (hd0 : 5 ≤ d0) {h' : AH} {h : AH} {a0 : Nat} (e : f_Tokens_init h a0 = some h') : Ev tb mL d0 119 [.ref a0] h h' none := by
  obtain ⟨d, rfl⟩ : ∃ d, d0 = d + 1 := ⟨d0 - 1, by omega⟩
  have hd : 4 ≤ d := by omega
  refine ⟨Nat.le_of_ble_eq_true rfl, ?_⟩
  show Eb (Ev tb mL d) 119 (0, [.ref a0, .retAddr 0, .retAddr 0, .retAddr 0, .retAddr 0, .retAddr 0], [], h) h' none
  unfold f_Tokens_init at e
  refine eb_n 1 (1, [.ref a0, .retAddr 0, .retAddr 0, .retAddr 0, .retAddr 0, .retAddr 0], [.ref a0], h) (rfl) ?_
  obtain ⟨g1, e⟩ := gd_some e
  refine eb_g (p := hT h a0 = 11) (4, [.ref a0, .retAddr 0, .retAddr 0, .retAddr 0, .retAddr 0, .retAddr 0], [], h) rfl g1 ?_
  refine eb_n 2 (7, [.ref a0, .retAddr 0, .retAddr 0, .retAddr 0, .retAddr 0, .retAddr 0], [.int (nI 39), .ref a0], h) (rfl) ?_
  obtain ⟨h2, eh2, e⟩ := lq_some e
  refine eb_g (p := ¬ (nI 39) < 0 ∧ ix (nI 39) ≤ 65536) (9, [.ref a0, .retAddr 0, .retAddr 0, .retAddr 0, .retAddr 0, .retAddr 0], [.ref (hN h), .ref a0], h2) (by rw [eh2]; rfl) (by decide) ?_
  obtain ⟨g3, e⟩ := gd_some e
  obtain ⟨h4, eh4, e⟩ := lq_some e
  refine eb_g (p := hT h2 a0 = 11) (12, [.ref a0, .retAddr 0, .retAddr 0, .retAddr 0, .retAddr 0, .retAddr 0], [], h4) (by rw [eh4]; rfl) g3 ?_
  refine eb_n 2 (16, [.ref a0, .retAddr 0, .retAddr 0, .retAddr 0, .retAddr 0, .retAddr 0], [.int (nI 401), .ref a0], h4) (rfl) ?_
  obtain ⟨h5, eh5, e⟩ := lq_some e
  refine eb_g (p := ¬ (nI 401) < 0 ∧ ix (nI 401) ≤ 65536) (18, [.ref a0, .retAddr 0, .retAddr 0, .retAddr 0, .retAddr 0, .retAddr 0], [.ref (hN h4), .ref a0], h5) (by rw [eh5]; rfl) (by decide) ?_
  obtain ⟨g6, e⟩ := gd_some e
  obtain ⟨h7, eh7, e⟩ := lq_some e
  refine eb_g (p := hT h5 a0 = 11) (21, [.ref a0, .retAddr 0, .retAddr 0, .retAddr 0, .retAddr 0, .retAddr 0], [], h7) (by rw [eh7]; rfl) g6 ?_
  refine eb_n 2 (25, [.ref a0, .retAddr 0, .retAddr 0, .retAddr 0, .retAddr 0, .retAddr 0], [.int (nI 401), .ref a0], h7) (rfl) ?_
  obtain ⟨h8, eh8, e⟩ := lq_some e
  refine eb_g (p := ¬ (nI 401) < 0 ∧ ix (nI 401) ≤ 65536) (27, [.ref a0, .retAddr 0, .retAddr 0, .retAddr 0, .retAddr 0, .retAddr 0], [.ref (hN h7), .ref a0], h8) (by rw [eh8]; rfl) (by decide) ?_
  obtain ⟨g9, e⟩ := gd_some e
  obtain ⟨h10, eh10, e⟩ := lq_some e
  refine eb_g (p := hT h8 a0 = 11) (30, [.ref a0, .retAddr 0, .retAddr 0, .retAddr 0, .retAddr 0, .retAddr 0], [], h10) (by rw [eh10]; rfl) g9 ?_
  refine eb_n 2 (34, [.ref a0, .retAddr 0, .retAddr 0, .retAddr 0, .retAddr 0, .retAddr 0], [.int (nI 401), .ref a0], h10) (rfl) ?_
  obtain ⟨h11, eh11, e⟩ := lq_some e
  refine eb_g (p := ¬ (nI 401) < 0 ∧ ix (nI 401) ≤ 65536) (36, [.ref a0, .retAddr 0, .retAddr 0, .retAddr 0, .retAddr 0, .retAddr 0], [.ref (hN h10), .ref a0], h11) (by rw [eh11]; rfl) (by decide) ?_
  obtain ⟨g12, e⟩ := gd_some e
  obtain ⟨h13, eh13, e⟩ := lq_some e
  refine eb_g (p := hT h11 a0 = 11) (39, [.ref a0, .retAddr 0, .retAddr 0, .retAddr 0, .retAddr 0, .retAddr 0], [], h13) (by rw [eh13]; rfl) g12 ?_
  refine eb_n 2 (43, [.ref a0, .retAddr 0, .retAddr 0, .retAddr 0, .retAddr 0, .retAddr 0], [.int (nI 401), .ref a0], h13) (rfl) ?_
  obtain ⟨h14, eh14, e⟩ := lq_some e
  refine eb_g (p := ¬ (nI 401) < 0 ∧ ix (nI 401) ≤ 65536) (45, [.ref a0, .retAddr 0, .retAddr 0, .retAddr 0, .retAddr 0, .retAddr 0], [.ref (hN h13), .ref a0], h14) (by rw [eh14]; rfl) (by decide) ?_
  obtain ⟨g15, e⟩ := gd_some e
  obtain ⟨h16, eh16, e⟩ := lq_some e
  refine eb_g (p := hT h14 a0 = 11) (48, [.ref a0, .retAddr 0, .retAddr 0, .retAddr 0, .retAddr 0, .retAddr 0], [], h16) (by rw [eh16]; rfl) g15 ?_
  refine eb_n 2 (50, [.ref a0, .retAddr 0, .retAddr 0, .retAddr 0, .retAddr 0, .retAddr 0], [.int (nI 0), .ref a0], h16) (rfl) ?_
  obtain ⟨g17, e⟩ := gd_some e
  obtain ⟨h18, eh18, e⟩ := lq_some e
  refine eb_g (p := hT h16 a0 = 11) (53, [.ref a0, .retAddr 0, .retAddr 0, .retAddr 0, .retAddr 0, .retAddr 0], [], h18) (by rw [eh18]; rfl) g17 ?_
  obtain ⟨x19, hx19, e⟩ := lq_some e
  refine eb_n 4 (57, [.ref a0, .int (nI 0), .long x19, .retAddr 0, .retAddr 0, .retAddr 0], [], h18) (by subst hx19; rfl) ?_
  refine eb_n 2 (60, [.ref a0, .int (nI 0), .long x19, .retAddr 0, .int (nI 0), .retAddr 0], [], h18) (rfl) ?_
  exact f_Tokens_init_l60_ev d hd   FU _ _ _ _ _ _ e
set_option maxRecDepth 100000 in
set_option maxHeartbeats 4000000 in
theorem f_Grammar_init_ev (d0 : Nat) (hd0 : 6 ≤ d0) {h' : AH} {h : AH} {a0 : Nat} (e : f_Grammar_init h a0 = some h') : Ev tb mL d0 84 [.ref a0] h h' none := by
  obtain ⟨d, rfl⟩ : ∃ d, d0 = d + 1 := ⟨d0 - 1, by omega⟩
  have hd : 5 ≤ d := by omega
  refine ⟨Nat.le_of_ble_eq_true rfl, ?_⟩
  show Eb (Ev tb mL d) 84 (0, [.ref a0], [], h) h' none
  unfold f_Grammar_init at e
  refine eb_n 1 (1, [.ref a0], [.ref a0], h) (rfl) ?_
  obtain ⟨g1, e⟩ := gd_some e
  refine eb_g (p := hT h a0 = 10) (4, [.ref a0], [], h) rfl g1 ?_
  refine eb_n 1 (5, [.ref a0], [.ref a0], h) (rfl) ?_
  obtain ⟨h2, eh2, e⟩ := lq_some e
  refine eb_n 1 (8, [.ref a0], [.ref (hN h), .ref a0], h2) (by rw [eh2]; rfl) ?_
  refine eb_n 1 (9, [.ref a0], [.ref (hN h), .ref (hN h), .ref a0], h2) (rfl) ?_
  obtain ⟨g3, e⟩ := gd_some e
  obtain ⟨h4, eh4, e⟩ := bv_some e
  refine eb_cg (p := hT h2 (hN h) = 11) rfl g3 (f_Tokens_init_ev d (Nat.le_trans (by decide) hd) eh4) ?_
  show Eb _ 84 (12, [.ref a0], [.ref (hN h), .ref a0], h4) _ _
  obtain ⟨g5, e⟩ := gd_some e
  obtain ⟨h6, eh6, e⟩ := lq_some e
  refine eb_g (p := hT h4 a0 = 10) (15, [.ref a0], [], h6) (by rw [eh6]; rfl) g5 ?_
  refine eb_n 1 (16, [.ref a0], [.ref a0], h6) (rfl) ?_
  obtain ⟨h7, eh7, e⟩ := lq_some e
  refine eb_n 1 (19, [.ref a0], [.ref (hN h6), .ref a0], h7) (by rw [eh7]; rfl) ?_
  refine eb_n 1 (20, [.ref a0], [.ref (hN h6), .ref (hN h6), .ref a0], h7) (rfl) ?_
  obtain ⟨g8, e⟩ := gd_some e
  obtain ⟨h9, eh9, e⟩ := bv_some e
  refine eb_cg (p := hT h7 (hN h6) = 2) rfl g8 (f_Orders_init_ev d (Nat.le_trans (by decide) hd) eh9) ?_
  show Eb _ 84 (23, [.ref a0], [.ref (hN h6), .ref a0], h9) _ _
  obtain ⟨g10, e⟩ := gd_some e
  obtain ⟨h11, eh11, e⟩ := lq_some e
  refine eb_g (p := hT h9 a0 = 10) (26, [.ref a0], [], h11) (by rw [eh11]; rfl) g10 ?_
  refine eb_n 2 (28, [.ref a0], [.int (nI 0), .ref a0], h11) (rfl) ?_
  obtain ⟨g12, e⟩ := gd_some e
  obtain ⟨h13, eh13, e⟩ := lq_some e
  refine eb_g (p := hT h11 a0 = 10) (31, [.ref a0], [], h13) (by rw [eh13]; rfl) g12 ?_
  refine eb_n 2 (34, [.ref a0], [.int (nI 57), .ref a0], h13) (rfl) ?_
  obtain ⟨g14, e⟩ := gd_some e
  obtain ⟨h15, eh15, e⟩ := lq_some e
  refine eb_g (p := hT h13 a0 = 10) (37, [.ref a0], [], h15) (by rw [eh15]; rfl) g14 ?_
  rw [sv_inj e]
  exact eb_r rfl
set_option maxRecDepth 100000 in
set_option maxHeartbeats 4000000 in
theorem f_Math_max_ev (d0 : Nat) (hd0 : 1 ≤ d0) {h' : AH} {r : Int32} {h : AH} {a0 : Int32} {a1 : Int32} (e : f_Math_max h a0 a1 = some (h', r)) : Ev tb mL d0 16 [.int a0, .int a1] h h' (some (.int r)) := by
  obtain ⟨d, rfl⟩ : ∃ d, d0 = d + 1 := ⟨d0 - 1, by omega⟩
  have hd : 0 ≤ d := by omega
  refine ⟨Nat.le_of_ble_eq_true rfl, ?_⟩
  show Eb (Ev tb mL d) 16 (0, [.int a0, .int a1], [], h) h' (some (.int r))
  unfold f_Math_max at e
  refine eb_n 2 (2, [.int a0, .int a1], [.int a1, .int a0], h) (rfl) ?_
  refine eb_b (c := a0 < a1) (9, [.int a0, .int a1], [], h) (5, [.int a0, .int a1], [], h) rfl (fun c1 => ?_) (fun c1 => ?_)
  · replace e := ite_t c1 e
    refine eb_n 1 (10, [.int a0, .int a1], [.int a1], h) (rfl) ?_
    rw [(sp_inj e).1, (sp_inj e).2]
    exact eb_rg (p := nrm 0 a1) rfl (nrm_0 _)
  · replace e := ite_f c1 e
    refine eb_n 2 (10, [.int a0, .int a1], [.int a0], h) (rfl) ?_
    rw [(sp_inj e).1, (sp_inj e).2]
    exact eb_rg (p := nrm 0 a0) rfl (nrm_0 _)
set_option maxRecDepth 100000 in
set_option maxHeartbeats 4000000 in
theorem f_Roll_init_ev (d0 : Nat) (hd0 : 2 ≤ d0) {h' : AH} {h : AH} {a0 : Nat} {a1 : Int32} (e : f_Roll_init h a0 a1 = some h') : Ev tb mL d0 85 [.ref a0, .int a1] h h' none := by
  obtain ⟨d, rfl⟩ : ∃ d, d0 = d + 1 := ⟨d0 - 1, by omega⟩
  have hd : 1 ≤ d := by omega
  refine ⟨Nat.le_of_ble_eq_true rfl, ?_⟩
  show Eb (Ev tb mL d) 85 (0, [.ref a0, .int a1], [], h) h' none
  unfold f_Roll_init at e
  refine eb_n 1 (1, [.ref a0, .int a1], [.ref a0], h) (rfl) ?_
  obtain ⟨g1, e⟩ := gd_some e
  refine eb_g (p := hT h a0 = 12) (4, [.ref a0, .int a1], [], h) rfl g1 ?_
  refine eb_n 2 (6, [.ref a0, .int a1], [.int (nI 0), .ref a0], h) (rfl) ?_
  obtain ⟨h2, eh2, e⟩ := lq_some e
  refine eb_g (p := hT h a0 = 12) (9, [.ref a0, .int a1], [], h2) (by rw [eh2]; rfl) g1 ?_
  refine eb_n 3 (12, [.ref a0, .int a1], [.int a1, .int (nI 0), .ref a0], h2) (rfl) ?_
  obtain ⟨h3, r4, eh3, e⟩ := bn_some e
  refine eb_c rfl (f_Math_max_ev d (Nat.le_trans (by decide) hd) eh3) ?_
  show Eb _ 85 (15, [.ref a0, .int a1], [.int r4, .ref a0], h3) _ _
  obtain ⟨g5, e⟩ := gd_some e
  obtain ⟨h6, eh6, e⟩ := lq_some e
  refine eb_g (p := ¬ r4 < 0 ∧ ix r4 ≤ 65536) (17, [.ref a0, .int a1], [.ref (hN h3), .ref a0], h6) (by rw [eh6]; rfl) g5 ?_
  obtain ⟨g7, e⟩ := gd_some e
  obtain ⟨h8, eh8, e⟩ := lq_some e
  refine eb_g (p := hT h6 a0 = 12) (20, [.ref a0, .int a1], [], h8) (by rw [eh8]; rfl) g7 ?_
  rw [sv_inj e]
  exact eb_r rfl
set_option maxRecDepth 100000 in
set_option maxHeartbeats 4000000 in
theorem f_Names_init_ev (d0 : Nat) (hd0 : 7 ≤ d0) {h' : AH} {h : AH} {a0 : Nat} (e : f_Names_init h a0 = some h') : Ev tb mL d0 24 [.ref a0] h h' none := by
  obtain ⟨d, rfl⟩ : ∃ d, d0 = d + 1 := ⟨d0 - 1, by omega⟩
  have hd : 6 ≤ d := by omega
  refine ⟨Nat.le_of_ble_eq_true rfl, ?_⟩
  show Eb (Ev tb mL d) 24 (0, [.ref a0], [], h) h' none
  unfold f_Names_init at e
  refine eb_n 1 (1, [.ref a0], [.ref a0], h) (rfl) ?_
  obtain ⟨g1, e⟩ := gd_some e
  refine eb_g (p := hT h a0 = 9) (4, [.ref a0], [], h) rfl g1 ?_
  refine eb_n 1 (5, [.ref a0], [.ref a0], h) (rfl) ?_
  obtain ⟨h2, eh2, e⟩ := lq_some e
  refine eb_n 1 (8, [.ref a0], [.ref (hN h), .ref a0], h2) (by rw [eh2]; rfl) ?_
  refine eb_n 1 (9, [.ref a0], [.ref (hN h), .ref (hN h), .ref a0], h2) (rfl) ?_
  obtain ⟨g3, e⟩ := gd_some e
  obtain ⟨h4, eh4, e⟩ := bv_some e
  refine eb_cg (p := hT h2 (hN h) = 10) rfl g3 (f_Grammar_init_ev d (Nat.le_trans (by decide) hd) eh4) ?_
  show Eb _ 24 (12, [.ref a0], [.ref (hN h), .ref a0], h4) _ _
  obtain ⟨g5, e⟩ := gd_some e
  obtain ⟨h6, eh6, e⟩ := lq_some e
  refine eb_g (p := hT h4 a0 = 9) (15, [.ref a0], [], h6) (by rw [eh6]; rfl) g5 ?_
  refine eb_n 2 (17, [.ref a0], [.ref a0, .ref a0], h6) (rfl) ?_
  obtain ⟨g7, e⟩ := gd_some e
  refine eb_g (p := hT h6 a0 = 9) (20, [.ref a0], [.ref (hR h6 a0 0), .ref a0], h6) rfl g7 ?_
  obtain ⟨g8, e⟩ := gd_some e
  refine eb_g (p := hT h6 (hR h6 a0 0) = 10) (23, [.ref a0], [.ref (hR h6 (hR h6 a0 0) 0), .ref a0], h6) rfl g8 ?_
  obtain ⟨h9, eh9, e⟩ := lq_some e
  refine eb_g (p := hT h6 a0 = 9) (26, [.ref a0], [], h9) (by rw [eh9]; rfl) g7 ?_
  refine eb_n 1 (27, [.ref a0], [.ref a0], h9) (rfl) ?_
  obtain ⟨h10, eh10, e⟩ := lq_some e
  refine eb_n 1 (30, [.ref a0], [.ref (hN h9), .ref a0], h10) (by rw [eh10]; rfl) ?_
  refine eb_n 1 (31, [.ref a0], [.ref (hN h9), .ref (hN h9), .ref a0], h10) (rfl) ?_
  obtain ⟨g11, e⟩ := gd_some e
  obtain ⟨h12, eh12, e⟩ := bv_some e
  refine eb_cg (p := hT h10 (hN h9) = 3) rfl g11 (f_River_init_ev d (Nat.le_trans (by decide) hd) eh12) ?_
  show Eb _ 24 (34, [.ref a0], [.ref (hN h9), .ref a0], h12) _ _
  obtain ⟨g13, e⟩ := gd_some e
  obtain ⟨h14, eh14, e⟩ := lq_some e
  refine eb_g (p := hT h12 a0 = 9) (37, [.ref a0], [], h14) (by rw [eh14]; rfl) g13 ?_
  refine eb_n 1 (38, [.ref a0], [.ref a0], h14) (rfl) ?_
  obtain ⟨h15, eh15, e⟩ := lq_some e
  refine eb_n 1 (41, [.ref a0], [.ref (hN h14), .ref a0], h15) (by rw [eh15]; rfl) ?_
  refine eb_n 2 (43, [.ref a0], [.int (nI 4), .ref (hN h14), .ref (hN h14), .ref a0], h15) (rfl) ?_
  obtain ⟨g16, e⟩ := gd_some e
  obtain ⟨h17, eh17, e⟩ := bv_some e
  refine eb_cg (p := hT h15 (hN h14) = 12) rfl g16 (f_Roll_init_ev d (Nat.le_trans (by decide) hd) eh17) ?_
  show Eb _ 24 (46, [.ref a0], [.ref (hN h14), .ref a0], h17) _ _
  obtain ⟨g18, e⟩ := gd_some e
  obtain ⟨h19, eh19, e⟩ := lq_some e
  refine eb_g (p := hT h17 a0 = 9) (49, [.ref a0], [], h19) (by rw [eh19]; rfl) g18 ?_
  refine eb_n 1 (50, [.ref a0], [.ref a0], h19) (rfl) ?_
  obtain ⟨h20, eh20, e⟩ := lq_some e
  refine eb_n 1 (53, [.ref a0], [.ref (hN h19), .ref a0], h20) (by rw [eh20]; rfl) ?_
  refine eb_n 2 (55, [.ref a0], [.int (nI 4), .ref (hN h19), .ref (hN h19), .ref a0], h20) (rfl) ?_
  obtain ⟨g21, e⟩ := gd_some e
  obtain ⟨h22, eh22, e⟩ := bv_some e
  refine eb_cg (p := hT h20 (hN h19) = 12) rfl g21 (f_Roll_init_ev d (Nat.le_trans (by decide) hd) eh22) ?_
  show Eb _ 24 (58, [.ref a0], [.ref (hN h19), .ref a0], h22) _ _
  obtain ⟨g23, e⟩ := gd_some e
  obtain ⟨h24, eh24, e⟩ := lq_some e
  refine eb_g (p := hT h22 a0 = 9) (61, [.ref a0], [], h24) (by rw [eh24]; rfl) g23 ?_
  refine eb_n 1 (62, [.ref a0], [.ref a0], h24) (rfl) ?_
  obtain ⟨h25, eh25, e⟩ := lq_some e
  refine eb_n 1 (65, [.ref a0], [.ref (hN h24), .ref a0], h25) (by rw [eh25]; rfl) ?_
  refine eb_n 2 (68, [.ref a0], [.int (nI 8), .ref (hN h24), .ref (hN h24), .ref a0], h25) (rfl) ?_
  obtain ⟨g26, e⟩ := gd_some e
  obtain ⟨h27, eh27, e⟩ := bv_some e
  refine eb_cg (p := hT h25 (hN h24) = 12) rfl g26 (f_Roll_init_ev d (Nat.le_trans (by decide) hd) eh27) ?_
  show Eb _ 24 (71, [.ref a0], [.ref (hN h24), .ref a0], h27) _ _
  obtain ⟨g28, e⟩ := gd_some e
  obtain ⟨h29, eh29, e⟩ := lq_some e
  refine eb_g (p := hT h27 a0 = 9) (74, [.ref a0], [], h29) (by rw [eh29]; rfl) g28 ?_
  refine eb_n 1 (75, [.ref a0], [.ref a0], h29) (rfl) ?_
  obtain ⟨h30, eh30, e⟩ := lq_some e
  refine eb_n 1 (78, [.ref a0], [.ref (hN h29), .ref a0], h30) (by rw [eh30]; rfl) ?_
  refine eb_n 2 (80, [.ref a0], [.int (nI 4), .ref (hN h29), .ref (hN h29), .ref a0], h30) (rfl) ?_
  obtain ⟨g31, e⟩ := gd_some e
  obtain ⟨h32, eh32, e⟩ := bv_some e
  refine eb_cg (p := hT h30 (hN h29) = 12) rfl g31 (f_Roll_init_ev d (Nat.le_trans (by decide) hd) eh32) ?_
  show Eb _ 24 (83, [.ref a0], [.ref (hN h29), .ref a0], h32) _ _
  obtain ⟨g33, e⟩ := gd_some e
  obtain ⟨h34, eh34, e⟩ := lq_some e
  refine eb_g (p := hT h32 a0 = 9) (86, [.ref a0], [], h34) (by rw [eh34]; rfl) g33 ?_
  refine eb_n 2 (88, [.ref a0], [.int (nI 0), .ref a0], h34) (rfl) ?_
  obtain ⟨g35, e⟩ := gd_some e
  obtain ⟨h36, eh36, e⟩ := lq_some e
  refine eb_g (p := hT h34 a0 = 9) (91, [.ref a0], [], h36) (by rw [eh36]; rfl) g35 ?_
  rw [sv_inj e]
  exact eb_r rfl
set_option maxRecDepth 100000 in
set_option maxHeartbeats 4000000 in
theorem f_QuillBoats_init_ev (d0 : Nat) (hd0 : 8 ≤ d0) {h' : AH} {h : AH} {a0 : Nat} (e : f_QuillBoats_init h a0 = some h') : Ev tb mL d0 1 [.ref a0] h h' none := by
  obtain ⟨d, rfl⟩ : ∃ d, d0 = d + 1 := ⟨d0 - 1, by omega⟩
  have hd : 7 ≤ d := by omega
  refine ⟨Nat.le_of_ble_eq_true rfl, ?_⟩
  show Eb (Ev tb mL d) 1 (0, [.ref a0], [], h) h' none
  unfold f_QuillBoats_init at e
  refine eb_n 1 (1, [.ref a0], [.ref a0], h) (rfl) ?_
  obtain ⟨g1, e⟩ := gd_some e
  refine eb_g (p := hT h a0 = 1) (4, [.ref a0], [], h) rfl g1 ?_
  refine eb_n 2 (8, [.ref a0], [.int (nI 2000), .ref a0], h) (rfl) ?_
  obtain ⟨h2, eh2, e⟩ := lq_some e
  refine eb_g (p := ¬ (nI 2000) < 0 ∧ ix (nI 2000) ≤ 65536) (10, [.ref a0], [.ref (hN h), .ref a0], h2) (by rw [eh2]; rfl) (by decide) ?_
  obtain ⟨g3, e⟩ := gd_some e
  obtain ⟨h4, eh4, e⟩ := lq_some e
  refine eb_g (p := hT h2 a0 = 1) (13, [.ref a0], [], h4) (by rw [eh4]; rfl) g3 ?_
  refine eb_n 2 (15, [.ref a0], [.int (nI 0), .ref a0], h4) (rfl) ?_
  obtain ⟨g5, e⟩ := gd_some e
  obtain ⟨h6, eh6, e⟩ := lq_some e
  refine eb_g (p := hT h4 a0 = 1) (18, [.ref a0], [], h6) (by rw [eh6]; rfl) g5 ?_
  refine eb_n 2 (20, [.ref a0], [.int (-nI 1), .ref a0], h6) (rfl) ?_
  obtain ⟨g7, e⟩ := gd_some e
  obtain ⟨h8, eh8, e⟩ := lq_some e
  refine eb_g (p := hT h6 a0 = 1) (23, [.ref a0], [], h8) (by rw [eh8]; rfl) g7 ?_
  refine eb_n 1 (24, [.ref a0], [.ref a0], h8) (rfl) ?_
  obtain ⟨h9, eh9, e⟩ := lq_some e
  refine eb_n 1 (27, [.ref a0], [.ref (hN h8), .ref a0], h9) (by rw [eh9]; rfl) ?_
  refine eb_n 1 (28, [.ref a0], [.ref (hN h8), .ref (hN h8), .ref a0], h9) (rfl) ?_
  obtain ⟨g10, e⟩ := gd_some e
  obtain ⟨h11, eh11, e⟩ := bv_some e
  refine eb_cg (p := hT h9 (hN h8) = 2) rfl g10 (f_Orders_init_ev d (Nat.le_trans (by decide) hd) eh11) ?_
  show Eb _ 1 (31, [.ref a0], [.ref (hN h8), .ref a0], h11) _ _
  obtain ⟨g12, e⟩ := gd_some e
  obtain ⟨h13, eh13, e⟩ := lq_some e
  refine eb_g (p := hT h11 a0 = 1) (34, [.ref a0], [], h13) (by rw [eh13]; rfl) g12 ?_
  refine eb_n 1 (35, [.ref a0], [.ref a0], h13) (rfl) ?_
  obtain ⟨h14, eh14, e⟩ := lq_some e
  refine eb_n 1 (38, [.ref a0], [.ref (hN h13), .ref a0], h14) (by rw [eh14]; rfl) ?_
  refine eb_n 1 (39, [.ref a0], [.ref (hN h13), .ref (hN h13), .ref a0], h14) (rfl) ?_
  obtain ⟨g15, e⟩ := gd_some e
  obtain ⟨h16, eh16, e⟩ := bv_some e
  refine eb_cg (p := hT h14 (hN h13) = 3) rfl g15 (f_River_init_ev d (Nat.le_trans (by decide) hd) eh16) ?_
  show Eb _ 1 (42, [.ref a0], [.ref (hN h13), .ref a0], h16) _ _
  obtain ⟨g17, e⟩ := gd_some e
  obtain ⟨h18, eh18, e⟩ := lq_some e
  refine eb_g (p := hT h16 a0 = 1) (45, [.ref a0], [], h18) (by rw [eh18]; rfl) g17 ?_
  refine eb_n 1 (46, [.ref a0], [.ref a0], h18) (rfl) ?_
  obtain ⟨h19, eh19, e⟩ := lq_some e
  refine eb_n 1 (49, [.ref a0], [.ref (hN h18), .ref a0], h19) (by rw [eh19]; rfl) ?_
  refine eb_n 1 (50, [.ref a0], [.ref (hN h18), .ref (hN h18), .ref a0], h19) (rfl) ?_
  obtain ⟨g20, e⟩ := gd_some e
  obtain ⟨h21, eh21, e⟩ := bv_some e
  refine eb_cg (p := hT h19 (hN h18) = 9) rfl g20 (f_Names_init_ev d (Nat.le_trans (by decide) hd) eh21) ?_
  show Eb _ 1 (53, [.ref a0], [.ref (hN h18), .ref a0], h21) _ _
  obtain ⟨g22, e⟩ := gd_some e
  obtain ⟨h23, eh23, e⟩ := lq_some e
  refine eb_g (p := hT h21 a0 = 1) (56, [.ref a0], [], h23) (by rw [eh23]; rfl) g22 ?_
  refine eb_n 2 (58, [.ref a0], [.ref a0, .ref a0], h23) (rfl) ?_
  obtain ⟨g24, e⟩ := gd_some e
  refine eb_g (p := hT h23 a0 = 1) (61, [.ref a0], [.ref (hR h23 a0 5), .ref a0], h23) rfl g24 ?_
  obtain ⟨g25, e⟩ := gd_some e
  refine eb_g (p := hT h23 (hR h23 a0 5) = 9) (64, [.ref a0], [.ref (hR h23 (hR h23 a0 5) 0), .ref a0], h23) rfl g25 ?_
  obtain ⟨h26, eh26, e⟩ := lq_some e
  refine eb_g (p := hT h23 a0 = 1) (67, [.ref a0], [], h26) (by rw [eh26]; rfl) g24 ?_
  refine eb_n 2 (69, [.ref a0], [.ref a0, .ref a0], h26) (rfl) ?_
  obtain ⟨g27, e⟩ := gd_some e
  refine eb_g (p := hT h26 a0 = 1) (72, [.ref a0], [.ref (hR h26 a0 6), .ref a0], h26) rfl g27 ?_
  obtain ⟨g28, e⟩ := gd_some e
  refine eb_g (p := hT h26 (hR h26 a0 6) = 10) (75, [.ref a0], [.ref (hR h26 (hR h26 a0 6) 0), .ref a0], h26) rfl g28 ?_
  obtain ⟨h29, eh29, e⟩ := lq_some e
  refine eb_g (p := hT h26 a0 = 1) (78, [.ref a0], [], h29) (by rw [eh29]; rfl) g27 ?_
  refine eb_n 2 (80, [.ref a0], [.ref a0, .ref a0], h29) (rfl) ?_
  obtain ⟨g30, e⟩ := gd_some e
  refine eb_g (p := hT h29 a0 = 1) (83, [.ref a0], [.ref (hR h29 a0 6), .ref a0], h29) rfl g30 ?_
  obtain ⟨g31, e⟩ := gd_some e
  refine eb_g (p := hT h29 (hR h29 a0 6) = 10) (86, [.ref a0], [.ref (hR h29 (hR h29 a0 6) 1), .ref a0], h29) rfl g31 ?_
  obtain ⟨h32, eh32, e⟩ := lq_some e
  refine eb_g (p := hT h29 a0 = 1) (89, [.ref a0], [], h32) (by rw [eh32]; rfl) g30 ?_
  refine eb_n 2 (91, [.ref a0], [.ref a0, .ref a0], h32) (rfl) ?_
  obtain ⟨g33, e⟩ := gd_some e
  refine eb_g (p := hT h32 a0 = 1) (94, [.ref a0], [.ref (hR h32 a0 5), .ref a0], h32) rfl g33 ?_
  obtain ⟨g34, e⟩ := gd_some e
  refine eb_g (p := hT h32 (hR h32 a0 5) = 9) (97, [.ref a0], [.ref (hR h32 (hR h32 a0 5) 2), .ref a0], h32) rfl g34 ?_
  obtain ⟨h35, eh35, e⟩ := lq_some e
  refine eb_g (p := hT h32 a0 = 1) (100, [.ref a0], [], h35) (by rw [eh35]; rfl) g33 ?_
  rw [sv_inj e]
  exact eb_r rfl
set_option maxRecDepth 100000 in
set_option maxHeartbeats 4000000 in
theorem f_Sim_init_ev (d0 : Nat) (hd0 : 1 ≤ d0) {h' : AH} {h : AH} {a0 : Nat} (e : f_Sim_init h a0 = some h') : Ev tb mL d0 25 [.ref a0] h h' none := by
  obtain ⟨d, rfl⟩ : ∃ d, d0 = d + 1 := ⟨d0 - 1, by omega⟩
  have hd : 0 ≤ d := by omega
  refine ⟨Nat.le_of_ble_eq_true rfl, ?_⟩
  show Eb (Ev tb mL d) 25 (0, [.ref a0], [], h) h' none
  unfold f_Sim_init at e
  refine eb_n 1 (1, [.ref a0], [.ref a0], h) (rfl) ?_
  obtain ⟨g1, e⟩ := gd_some e
  refine eb_g (p := hT h a0 = 13) (4, [.ref a0], [], h) rfl g1 ?_
  refine eb_n 2 (7, [.ref a0], [.int (nI 50), .ref a0], h) (rfl) ?_
  obtain ⟨h2, eh2, e⟩ := lq_some e
  refine eb_g (p := hT h a0 = 13) (10, [.ref a0], [], h2) (by rw [eh2]; rfl) g1 ?_
  refine eb_n 2 (13, [.ref a0], [.int (nI 20), .ref a0], h2) (rfl) ?_
  obtain ⟨g3, e⟩ := gd_some e
  obtain ⟨h4, eh4, e⟩ := lq_some e
  refine eb_g (p := hT h2 a0 = 13) (16, [.ref a0], [], h4) (by rw [eh4]; rfl) g3 ?_
  refine eb_n 2 (18, [.ref a0], [.int (nI 1), .ref a0], h4) (rfl) ?_
  obtain ⟨g5, e⟩ := gd_some e
  obtain ⟨h6, eh6, e⟩ := lq_some e
  refine eb_g (p := hT h4 a0 = 13) (21, [.ref a0], [], h6) (by rw [eh6]; rfl) g5 ?_
  refine eb_n 2 (24, [.ref a0], [.int (nI 12), .ref a0], h6) (rfl) ?_
  obtain ⟨h7, eh7, e⟩ := lq_some e
  refine eb_g (p := ¬ (nI 12) < 0 ∧ ix (nI 12) ≤ 65536) (26, [.ref a0], [.ref (hN h6), .ref a0], h7) (by rw [eh7]; rfl) (by decide) ?_
  refine eb_n 3 (29, [.ref a0], [.int (nI 1), .int (nI 0), .ref (hN h6), .ref (hN h6), .ref a0], h7) (rfl) ?_
  obtain ⟨g8, e⟩ := gd_some e
  obtain ⟨h9, eh9, e⟩ := lq_some e
  refine eb_g (p := hT h7 (hN h6) = 101 ∧ inb (nI 0) (hL h7 (hN h6))) (30, [.ref a0], [.ref (hN h6), .ref a0], h9) (by rw [eh9]; rfl) g8 ?_
  refine eb_n 3 (33, [.ref a0], [.int (nI 1), .int (nI 1), .ref (hN h6), .ref (hN h6), .ref a0], h9) (rfl) ?_
  obtain ⟨g10, e⟩ := gd_some e
  obtain ⟨h11, eh11, e⟩ := lq_some e
  refine eb_g (p := hT h9 (hN h6) = 101 ∧ inb (nI 1) (hL h9 (hN h6))) (34, [.ref a0], [.ref (hN h6), .ref a0], h11) (by rw [eh11]; rfl) g10 ?_
  refine eb_n 3 (37, [.ref a0], [.int (nI 1), .int (nI 2), .ref (hN h6), .ref (hN h6), .ref a0], h11) (rfl) ?_
  obtain ⟨g12, e⟩ := gd_some e
  obtain ⟨h13, eh13, e⟩ := lq_some e
  refine eb_g (p := hT h11 (hN h6) = 101 ∧ inb (nI 2) (hL h11 (hN h6))) (38, [.ref a0], [.ref (hN h6), .ref a0], h13) (by rw [eh13]; rfl) g12 ?_
  refine eb_n 3 (41, [.ref a0], [.int (nI 1), .int (nI 3), .ref (hN h6), .ref (hN h6), .ref a0], h13) (rfl) ?_
  obtain ⟨g14, e⟩ := gd_some e
  obtain ⟨h15, eh15, e⟩ := lq_some e
  refine eb_g (p := hT h13 (hN h6) = 101 ∧ inb (nI 3) (hL h13 (hN h6))) (42, [.ref a0], [.ref (hN h6), .ref a0], h15) (by rw [eh15]; rfl) g14 ?_
  refine eb_n 3 (45, [.ref a0], [.int (nI 1), .int (nI 4), .ref (hN h6), .ref (hN h6), .ref a0], h15) (rfl) ?_
  obtain ⟨g16, e⟩ := gd_some e
  obtain ⟨h17, eh17, e⟩ := lq_some e
  refine eb_g (p := hT h15 (hN h6) = 101 ∧ inb (nI 4) (hL h15 (hN h6))) (46, [.ref a0], [.ref (hN h6), .ref a0], h17) (by rw [eh17]; rfl) g16 ?_
  refine eb_n 3 (49, [.ref a0], [.int (nI 1), .int (nI 5), .ref (hN h6), .ref (hN h6), .ref a0], h17) (rfl) ?_
  obtain ⟨g18, e⟩ := gd_some e
  obtain ⟨h19, eh19, e⟩ := lq_some e
  refine eb_g (p := hT h17 (hN h6) = 101 ∧ inb (nI 5) (hL h17 (hN h6))) (50, [.ref a0], [.ref (hN h6), .ref a0], h19) (by rw [eh19]; rfl) g18 ?_
  refine eb_n 3 (54, [.ref a0], [.int (nI 1), .int (nI 6), .ref (hN h6), .ref (hN h6), .ref a0], h19) (rfl) ?_
  obtain ⟨g20, e⟩ := gd_some e
  obtain ⟨h21, eh21, e⟩ := lq_some e
  refine eb_g (p := hT h19 (hN h6) = 101 ∧ inb (nI 6) (hL h19 (hN h6))) (55, [.ref a0], [.ref (hN h6), .ref a0], h21) (by rw [eh21]; rfl) g20 ?_
  refine eb_n 3 (59, [.ref a0], [.int (nI 1), .int (nI 7), .ref (hN h6), .ref (hN h6), .ref a0], h21) (rfl) ?_
  obtain ⟨g22, e⟩ := gd_some e
  obtain ⟨h23, eh23, e⟩ := lq_some e
  refine eb_g (p := hT h21 (hN h6) = 101 ∧ inb (nI 7) (hL h21 (hN h6))) (60, [.ref a0], [.ref (hN h6), .ref a0], h23) (by rw [eh23]; rfl) g22 ?_
  refine eb_n 3 (64, [.ref a0], [.int (nI 1), .int (nI 8), .ref (hN h6), .ref (hN h6), .ref a0], h23) (rfl) ?_
  obtain ⟨g24, e⟩ := gd_some e
  obtain ⟨h25, eh25, e⟩ := lq_some e
  refine eb_g (p := hT h23 (hN h6) = 101 ∧ inb (nI 8) (hL h23 (hN h6))) (65, [.ref a0], [.ref (hN h6), .ref a0], h25) (by rw [eh25]; rfl) g24 ?_
  refine eb_n 3 (69, [.ref a0], [.int (nI 1), .int (nI 9), .ref (hN h6), .ref (hN h6), .ref a0], h25) (rfl) ?_
  obtain ⟨g26, e⟩ := gd_some e
  obtain ⟨h27, eh27, e⟩ := lq_some e
  refine eb_g (p := hT h25 (hN h6) = 101 ∧ inb (nI 9) (hL h25 (hN h6))) (70, [.ref a0], [.ref (hN h6), .ref a0], h27) (by rw [eh27]; rfl) g26 ?_
  refine eb_n 3 (74, [.ref a0], [.int (nI 1), .int (nI 10), .ref (hN h6), .ref (hN h6), .ref a0], h27) (rfl) ?_
  obtain ⟨g28, e⟩ := gd_some e
  obtain ⟨h29, eh29, e⟩ := lq_some e
  refine eb_g (p := hT h27 (hN h6) = 101 ∧ inb (nI 10) (hL h27 (hN h6))) (75, [.ref a0], [.ref (hN h6), .ref a0], h29) (by rw [eh29]; rfl) g28 ?_
  refine eb_n 3 (79, [.ref a0], [.int (nI 1), .int (nI 11), .ref (hN h6), .ref (hN h6), .ref a0], h29) (rfl) ?_
  obtain ⟨g30, e⟩ := gd_some e
  obtain ⟨h31, eh31, e⟩ := lq_some e
  refine eb_g (p := hT h29 (hN h6) = 101 ∧ inb (nI 11) (hL h29 (hN h6))) (80, [.ref a0], [.ref (hN h6), .ref a0], h31) (by rw [eh31]; rfl) g30 ?_
  obtain ⟨g32, e⟩ := gd_some e
  obtain ⟨h33, eh33, e⟩ := lq_some e
  refine eb_g (p := hT h31 a0 = 13) (83, [.ref a0], [], h33) (by rw [eh33]; rfl) g32 ?_
  refine eb_n 2 (85, [.ref a0], [.int (nI 4), .ref a0], h33) (rfl) ?_
  obtain ⟨h34, eh34, e⟩ := lq_some e
  refine eb_g (p := ¬ (nI 4) < 0 ∧ ix (nI 4) ≤ 65536) (87, [.ref a0], [.ref (hN h33), .ref a0], h34) (by rw [eh34]; rfl) (by decide) ?_
  refine eb_n 3 (91, [.ref a0], [.int (nI 8), .int (nI 0), .ref (hN h33), .ref (hN h33), .ref a0], h34) (rfl) ?_
  obtain ⟨g35, e⟩ := gd_some e
  obtain ⟨h36, eh36, e⟩ := lq_some e
  refine eb_g (p := hT h34 (hN h33) = 101 ∧ inb (nI 0) (hL h34 (hN h33))) (92, [.ref a0], [.ref (hN h33), .ref a0], h36) (by rw [eh36]; rfl) g35 ?_
  refine eb_n 3 (95, [.ref a0], [.int (nI 5), .int (nI 1), .ref (hN h33), .ref (hN h33), .ref a0], h36) (rfl) ?_
  obtain ⟨g37, e⟩ := gd_some e
  obtain ⟨h38, eh38, e⟩ := lq_some e
  refine eb_g (p := hT h36 (hN h33) = 101 ∧ inb (nI 1) (hL h36 (hN h33))) (96, [.ref a0], [.ref (hN h33), .ref a0], h38) (by rw [eh38]; rfl) g37 ?_
  refine eb_n 3 (99, [.ref a0], [.int (nI 3), .int (nI 2), .ref (hN h33), .ref (hN h33), .ref a0], h38) (rfl) ?_
  obtain ⟨g39, e⟩ := gd_some e
  obtain ⟨h40, eh40, e⟩ := lq_some e
  refine eb_g (p := hT h38 (hN h33) = 101 ∧ inb (nI 2) (hL h38 (hN h33))) (100, [.ref a0], [.ref (hN h33), .ref a0], h40) (by rw [eh40]; rfl) g39 ?_
  refine eb_n 3 (103, [.ref a0], [.int (nI 1), .int (nI 3), .ref (hN h33), .ref (hN h33), .ref a0], h40) (rfl) ?_
  obtain ⟨g41, e⟩ := gd_some e
  obtain ⟨h42, eh42, e⟩ := lq_some e
  refine eb_g (p := hT h40 (hN h33) = 101 ∧ inb (nI 3) (hL h40 (hN h33))) (104, [.ref a0], [.ref (hN h33), .ref a0], h42) (by rw [eh42]; rfl) g41 ?_
  obtain ⟨g43, e⟩ := gd_some e
  obtain ⟨h44, eh44, e⟩ := lq_some e
  refine eb_g (p := hT h42 a0 = 13) (107, [.ref a0], [], h44) (by rw [eh44]; rfl) g43 ?_
  refine eb_n 2 (109, [.ref a0], [.int (nI 4), .ref a0], h44) (rfl) ?_
  obtain ⟨h45, eh45, e⟩ := lq_some e
  refine eb_g (p := ¬ (nI 4) < 0 ∧ ix (nI 4) ≤ 65536) (111, [.ref a0], [.ref (hN h44), .ref a0], h45) (by rw [eh45]; rfl) (by decide) ?_
  obtain ⟨g46, e⟩ := gd_some e
  obtain ⟨h47, eh47, e⟩ := lq_some e
  refine eb_g (p := hT h45 a0 = 13) (114, [.ref a0], [], h47) (by rw [eh47]; rfl) g46 ?_
  refine eb_n 2 (116, [.ref a0], [.int (nI 4), .ref a0], h47) (rfl) ?_
  obtain ⟨h48, eh48, e⟩ := lq_some e
  refine eb_g (p := ¬ (nI 4) < 0 ∧ ix (nI 4) ≤ 65536) (118, [.ref a0], [.ref (hN h47), .ref a0], h48) (by rw [eh48]; rfl) (by decide) ?_
  obtain ⟨g49, e⟩ := gd_some e
  obtain ⟨h50, eh50, e⟩ := lq_some e
  refine eb_g (p := hT h48 a0 = 13) (121, [.ref a0], [], h50) (by rw [eh50]; rfl) g49 ?_
  refine eb_n 2 (123, [.ref a0], [.int (nI 4), .ref a0], h50) (rfl) ?_
  obtain ⟨h51, eh51, e⟩ := lq_some e
  refine eb_g (p := ¬ (nI 4) < 0 ∧ ix (nI 4) ≤ 65536) (125, [.ref a0], [.ref (hN h50), .ref a0], h51) (by rw [eh51]; rfl) (by decide) ?_
  obtain ⟨g52, e⟩ := gd_some e
  obtain ⟨h53, eh53, e⟩ := lq_some e
  refine eb_g (p := hT h51 a0 = 13) (128, [.ref a0], [], h53) (by rw [eh53]; rfl) g52 ?_
  refine eb_n 2 (130, [.ref a0], [.int (nI 0), .ref a0], h53) (rfl) ?_
  obtain ⟨h54, eh54, e⟩ := lq_some e
  refine eb_g (p := ¬ (nI 0) < 0 ∧ ix (nI 0) ≤ 65536) (133, [.ref a0], [.ref (hN h53), .ref a0], h54) (by rw [eh54]; rfl) (by decide) ?_
  obtain ⟨g55, e⟩ := gd_some e
  obtain ⟨h56, eh56, e⟩ := lq_some e
  refine eb_g (p := hT h54 a0 = 13) (136, [.ref a0], [], h56) (by rw [eh56]; rfl) g55 ?_
  refine eb_n 2 (138, [.ref a0], [.int (nI 0), .ref a0], h56) (rfl) ?_
  obtain ⟨h57, eh57, e⟩ := lq_some e
  refine eb_g (p := ¬ (nI 0) < 0 ∧ ix (nI 0) ≤ 65536) (140, [.ref a0], [.ref (hN h56), .ref a0], h57) (by rw [eh57]; rfl) (by decide) ?_
  obtain ⟨g58, e⟩ := gd_some e
  obtain ⟨h59, eh59, e⟩ := lq_some e
  refine eb_g (p := hT h57 a0 = 13) (143, [.ref a0], [], h59) (by rw [eh59]; rfl) g58 ?_
  refine eb_n 2 (145, [.ref a0], [.int (nI 0), .ref a0], h59) (rfl) ?_
  obtain ⟨h60, eh60, e⟩ := lq_some e
  refine eb_g (p := ¬ (nI 0) < 0 ∧ ix (nI 0) ≤ 65536) (148, [.ref a0], [.ref (hN h59), .ref a0], h60) (by rw [eh60]; rfl) (by decide) ?_
  obtain ⟨g61, e⟩ := gd_some e
  obtain ⟨h62, eh62, e⟩ := lq_some e
  refine eb_g (p := hT h60 a0 = 13) (151, [.ref a0], [], h62) (by rw [eh62]; rfl) g61 ?_
  refine eb_n 2 (153, [.ref a0], [.int (nI 0), .ref a0], h62) (rfl) ?_
  obtain ⟨h63, eh63, e⟩ := lq_some e
  refine eb_g (p := ¬ (nI 0) < 0 ∧ ix (nI 0) ≤ 65536) (156, [.ref a0], [.ref (hN h62), .ref a0], h63) (by rw [eh63]; rfl) (by decide) ?_
  obtain ⟨g64, e⟩ := gd_some e
  obtain ⟨h65, eh65, e⟩ := lq_some e
  refine eb_g (p := hT h63 a0 = 13) (159, [.ref a0], [], h65) (by rw [eh65]; rfl) g64 ?_
  refine eb_n 2 (161, [.ref a0], [.int (nI 0), .ref a0], h65) (rfl) ?_
  obtain ⟨h66, eh66, e⟩ := lq_some e
  refine eb_g (p := ¬ (nI 0) < 0 ∧ ix (nI 0) ≤ 65536) (164, [.ref a0], [.ref (hN h65), .ref a0], h66) (by rw [eh66]; rfl) (by decide) ?_
  obtain ⟨g67, e⟩ := gd_some e
  obtain ⟨h68, eh68, e⟩ := lq_some e
  refine eb_g (p := hT h66 a0 = 13) (167, [.ref a0], [], h68) (by rw [eh68]; rfl) g67 ?_
  refine eb_n 2 (169, [.ref a0], [.int (nI 0), .ref a0], h68) (rfl) ?_
  obtain ⟨h69, eh69, e⟩ := lq_some e
  refine eb_g (p := ¬ (nI 0) < 0 ∧ ix (nI 0) ≤ 65536) (172, [.ref a0], [.ref (hN h68), .ref a0], h69) (by rw [eh69]; rfl) (by decide) ?_
  obtain ⟨g70, e⟩ := gd_some e
  obtain ⟨h71, eh71, e⟩ := lq_some e
  refine eb_g (p := hT h69 a0 = 13) (175, [.ref a0], [], h71) (by rw [eh71]; rfl) g70 ?_
  rw [sv_inj e]
  exact eb_r rfl
set_option maxRecDepth 100000 in
set_option maxHeartbeats 4000000 in
theorem f_Law_cell_ev (d0 : Nat) (hd0 : 1 ≤ d0) {h' : AH} {r : Int32} {h : AH} {a0 : Nat} {a1 : Int32} (e : f_Law_cell h a0 a1 = some (h', r)) : Ev tb mL d0 5 [.ref a0, .int a1] h h' (some (.int r)) := by
  obtain ⟨d, rfl⟩ : ∃ d, d0 = d + 1 := ⟨d0 - 1, by omega⟩
  have hd : 0 ≤ d := by omega
  refine ⟨Nat.le_of_ble_eq_true rfl, ?_⟩
  show Eb (Ev tb mL d) 5 (0, [.ref a0, .int a1], [], h) h' (some (.int r))
  unfold f_Law_cell at e
  refine eb_n 2 (2, [.ref a0, .int a1], [.ref a0, .int a1], h) (rfl) ?_
  obtain ⟨g1, e⟩ := gd_some e
  refine eb_g (p := hT h a0 = 112) (3, [.ref a0, .int a1], [.int (nI (hL h a0)), .int a1], h) rfl g1 ?_
  refine eb_b (c := (nI (hL h a0)) ≤ a1) (12, [.ref a0, .int a1], [], h) (6, [.ref a0, .int a1], [], h) rfl (fun c2 => ?_) (fun c2 => ?_)
  · replace e := ite_t c2 e
    refine eb_n 5 (18, [.ref a0, .int a1], [.int ((nI 790386105) * (a1 + (nI 3)))], h) (rfl) ?_
    rw [(sp_inj e).1, (sp_inj e).2]
    exact eb_rg (p := nrm 0 ((nI 790386105) * (a1 + (nI 3)))) rfl (nrm_0 _)
  · replace e := ite_f c2 e
    refine eb_n 2 (8, [.ref a0, .int a1], [.int a1, .ref a0], h) (rfl) ?_
    obtain ⟨g3, e⟩ := gd_some e
    refine eb_g (p := hT h a0 = 112 ∧ inb a1 (hL h a0)) (9, [.ref a0, .int a1], [.int (hI h a0 (ix a1))], h) rfl g3 ?_
    refine eb_n 1 (18, [.ref a0, .int a1], [.int (hI h a0 (ix a1))], h) (rfl) ?_
    rw [(sp_inj e).1, (sp_inj e).2]
    exact eb_rg (p := nrm 0 (hI h a0 (ix a1))) rfl (nrm_0 _)
set_option maxRecDepth 100000 in
set_option maxHeartbeats 4000000 in
theorem f_Law_below_ev (d0 : Nat) (hd0 : 1 ≤ d0) {h' : AH} {r : Int32} {h : AH} {a0 : Int32} {a1 : Int32} (e : f_Law_below h a0 a1 = some (h', r)) : Ev tb mL d0 26 [.int a0, .int a1] h h' (some (.int r)) := by
  obtain ⟨d, rfl⟩ : ∃ d, d0 = d + 1 := ⟨d0 - 1, by omega⟩
  have hd : 0 ≤ d := by omega
  refine ⟨Nat.le_of_ble_eq_true rfl, ?_⟩
  show Eb (Ev tb mL d) 26 (0, [.int a0, .int a1], [], h) h' (some (.int r))
  unfold f_Law_below at e
  refine eb_n 4 (5, [.int a0, .int a1], [.int a1, .int (a0 &&& (nI 2147483647))], h) (rfl) ?_
  obtain ⟨g1, e⟩ := gd_some e
  refine eb_g (p := ¬ a1 = 0) (6, [.int a0, .int a1], [.int ((a0 &&& (nI 2147483647)) - (a0 &&& (nI 2147483647)) / a1 * a1)], h) rfl g1 ?_
  rw [(sp_inj e).1, (sp_inj e).2]
  exact eb_rg (p := nrm 0 ((a0 &&& (nI 2147483647)) - (a0 &&& (nI 2147483647)) / a1 * a1)) rfl (nrm_0 _)
set_option maxRecDepth 100000 in
set_option maxHeartbeats 4000000 in
theorem f_Law_chosen_b669_ev {h' : AH} {r : Nat} (d : Nat) (hd : 1 ≤ d) (k591 : AH → Nat → Nat → Int32 → Int32 → Int32 → Int32 → Option (AH × Nat)) (hk591 : ∀ (h : AH) (a0 : Nat) (a1 : Nat) (a4 : Int32) (a5 : Int32) (a6 : Int32) (a7 : Int32)  (d2 : Value) (d3 : Value) (d8 : Value) (d9 : Value), k591 h a0 a1 a4 a5 a6 a7 = some (h', r) → Eb (Ev tb mL d) 2 (591, [.ref a0, .ref a1, d2, d3, .int a4, .int a5, .int a6, .int a7, d8, d9], [], h) h' (some (.ref r)))  (h : AH) (a0 : Nat) (a1 : Nat) (a4 : Int32) (a5 : Int32) (a6 : Int32) (a7 : Int32) (a8 : Int32) (s0 : Nat) (s1 : Int32) (s2 : Nat) (s3 : Nat) (s4 : Int32) (s5 : Int32) (d2 : Value) (d3 : Value) (d9 : Value) (e : f_Law_chosen_b669 k591 h a0 a1 a4 a5 a6 a7 a8 s0 s1 s2 s3 s4 s5 = some (h', r)) : Eb (Ev tb mL d) 2 (669, [.ref a0, .ref a1, d2, d3, .int a4, .int a5, .int a6, .int a7, .int a8, d9], [.int s5, .int s4, .ref s3, .ref s2, .int s1, .ref s0], h) h' (some (.ref r)) := by
  unfold f_Law_chosen_b669 at e
  obtain ⟨g1, e⟩ := gd_some e
  obtain ⟨h2, eh2, e⟩ := lq_some e
  refine eb_g (p := hT h s3 = 101 ∧ inb s4 (hL h s3)) (670, [.ref a0, .ref a1, d2, d3, .int a4, .int a5, .int a6, .int a7, .int a8, d9], [.ref s2, .int s1, .ref s0], h2) (by rw [eh2]; rfl) g1 ?_
  refine eb_n 6 (677, [.ref a0, .ref a1, d2, d3, .int a4, .int a5, .int a6, .int a7, .int a8, d9], [.int (nI 4), .int (a8 >>> ((nI 3) &&& 31)), .int (nI 2), .ref s2, .ref s2, .int s1, .ref s0], h2) (rfl) ?_
  obtain ⟨h3, r4, eh3, e⟩ := bn_some e
  refine eb_c rfl (f_Law_below_ev d (Nat.le_trans (by decide) hd) eh3) ?_
  show Eb _ 2 (680, [.ref a0, .ref a1, d2, d3, .int a4, .int a5, .int a6, .int a7, .int a8, d9], [.int r4, .int (nI 2), .ref s2, .ref s2, .int s1, .ref s0], h3) _ _
  obtain ⟨g5, e⟩ := gd_some e
  obtain ⟨h6, eh6, e⟩ := lq_some e
  refine eb_g (p := hT h3 s2 = 101 ∧ inb (nI 2) (hL h3 s2)) (681, [.ref a0, .ref a1, d2, d3, .int a4, .int a5, .int a6, .int a7, .int a8, d9], [.ref s2, .int s1, .ref s0], h6) (by rw [eh6]; rfl) g5 ?_
  refine eb_n 6 (688, [.ref a0, .ref a1, d2, d3, .int a4, .int a5, .int a6, .int a7, .int a8, d9], [.int (nI 4), .int (a8 >>> ((nI 4) &&& 31)), .int (nI 3), .ref s2, .ref s2, .int s1, .ref s0], h6) (rfl) ?_
  obtain ⟨h7, r8, eh7, e⟩ := bn_some e
  refine eb_c rfl (f_Law_below_ev d (Nat.le_trans (by decide) hd) eh7) ?_
  show Eb _ 2 (691, [.ref a0, .ref a1, d2, d3, .int a4, .int a5, .int a6, .int a7, .int a8, d9], [.int r8, .int (nI 3), .ref s2, .ref s2, .int s1, .ref s0], h7) _ _
  obtain ⟨g9, e⟩ := gd_some e
  obtain ⟨h10, eh10, e⟩ := lq_some e
  refine eb_g (p := hT h7 s2 = 101 ∧ inb (nI 3) (hL h7 s2)) (692, [.ref a0, .ref a1, d2, d3, .int a4, .int a5, .int a6, .int a7, .int a8, d9], [.ref s2, .int s1, .ref s0], h10) (by rw [eh10]; rfl) g9 ?_
  refine eb_n 6 (701, [.ref a0, .ref a1, d2, d3, .int a4, .int a5, .int a6, .int a7, .int a8, d9], [.int (nI 400), .int (a8 >>> ((nI 5) &&& 31)), .int (nI 4), .ref s2, .ref s2, .int s1, .ref s0], h10) (rfl) ?_
  obtain ⟨h11, r12, eh11, e⟩ := bn_some e
  refine eb_c rfl (f_Law_below_ev d (Nat.le_trans (by decide) hd) eh11) ?_
  show Eb _ 2 (704, [.ref a0, .ref a1, d2, d3, .int a4, .int a5, .int a6, .int a7, .int a8, d9], [.int r12, .int (nI 4), .ref s2, .ref s2, .int s1, .ref s0], h11) _ _
  obtain ⟨g13, e⟩ := gd_some e
  obtain ⟨h14, eh14, e⟩ := lq_some e
  refine eb_g (p := hT h11 s2 = 101 ∧ inb (nI 4) (hL h11 s2)) (705, [.ref a0, .ref a1, d2, d3, .int a4, .int a5, .int a6, .int a7, .int a8, d9], [.ref s2, .int s1, .ref s0], h14) (by rw [eh14]; rfl) g13 ?_
  refine eb_n 6 (714, [.ref a0, .ref a1, d2, d3, .int a4, .int a5, .int a6, .int a7, .int a8, d9], [.int (nI 9), .int (a8 >>> ((nI 6) &&& 31)), .int (nI 5), .ref s2, .ref s2, .int s1, .ref s0], h14) (rfl) ?_
  obtain ⟨h15, r16, eh15, e⟩ := bn_some e
  refine eb_c rfl (f_Law_below_ev d (Nat.le_trans (by decide) hd) eh15) ?_
  show Eb _ 2 (717, [.ref a0, .ref a1, d2, d3, .int a4, .int a5, .int a6, .int a7, .int a8, d9], [.int r16, .int (nI 5), .ref s2, .ref s2, .int s1, .ref s0], h15) _ _
  obtain ⟨g17, e⟩ := gd_some e
  obtain ⟨h18, eh18, e⟩ := lq_some e
  refine eb_g (p := hT h15 s2 = 101 ∧ inb (nI 5) (hL h15 s2)) (718, [.ref a0, .ref a1, d2, d3, .int a4, .int a5, .int a6, .int a7, .int a8, d9], [.ref s2, .int s1, .ref s0], h18) (by rw [eh18]; rfl) g17 ?_
  refine eb_n 6 (727, [.ref a0, .ref a1, d2, d3, .int a4, .int a5, .int a6, .int a7, .int a8, d9], [.int (nI 60), .int (a8 >>> ((nI 1) &&& 31)), .int (nI 6), .ref s2, .ref s2, .int s1, .ref s0], h18) (rfl) ?_
  obtain ⟨h19, r20, eh19, e⟩ := bn_some e
  refine eb_c rfl (f_Law_below_ev d (Nat.le_trans (by decide) hd) eh19) ?_
  show Eb _ 2 (730, [.ref a0, .ref a1, d2, d3, .int a4, .int a5, .int a6, .int a7, .int a8, d9], [.int r20, .int (nI 6), .ref s2, .ref s2, .int s1, .ref s0], h19) _ _
  obtain ⟨g21, e⟩ := gd_some e
  obtain ⟨h22, eh22, e⟩ := lq_some e
  refine eb_g (p := hT h19 s2 = 101 ∧ inb (nI 6) (hL h19 s2)) (731, [.ref a0, .ref a1, d2, d3, .int a4, .int a5, .int a6, .int a7, .int a8, d9], [.ref s2, .int s1, .ref s0], h22) (by rw [eh22]; rfl) g21 ?_
  refine eb_n 6 (742, [.ref a0, .ref a1, d2, d3, .int a4, .int a5, .int a6, .int a7, .int a8, d9], [.int (nI 400), .int (a8 >>> ((nI 7) &&& 31)), .int (nI 7), .ref s2, .ref s2, .int s1, .ref s0], h22) (rfl) ?_
  obtain ⟨h23, r24, eh23, e⟩ := bn_some e
  refine eb_c rfl (f_Law_below_ev d (Nat.le_trans (by decide) hd) eh23) ?_
  show Eb _ 2 (745, [.ref a0, .ref a1, d2, d3, .int a4, .int a5, .int a6, .int a7, .int a8, d9], [.int r24, .int (nI 7), .ref s2, .ref s2, .int s1, .ref s0], h23) _ _
  obtain ⟨g25, e⟩ := gd_some e
  obtain ⟨h26, eh26, e⟩ := lq_some e
  refine eb_g (p := hT h23 s2 = 101 ∧ inb (nI 7) (hL h23 s2)) (746, [.ref a0, .ref a1, d2, d3, .int a4, .int a5, .int a6, .int a7, .int a8, d9], [.ref s2, .int s1, .ref s0], h26) (by rw [eh26]; rfl) g25 ?_
  obtain ⟨g27, e⟩ := gd_some e
  obtain ⟨h28, eh28, e⟩ := lq_some e
  refine eb_g (p := hT h26 s0 = 109 ∧ inb s1 (hL h26 s0) ∧ hT h26 s2 = 101) (747, [.ref a0, .ref a1, d2, d3, .int a4, .int a5, .int a6, .int a7, .int a8, d9], [], h28) (by rw [eh28]; rfl) g27 ?_
  obtain ⟨x29, hx29, e⟩ := lq_some e
  refine eb_n 1 (750, [.ref a0, .ref a1, d2, d3, .int a4, .int a5, .int a6, .int x29, .int a8, d9], [], h28) (by subst hx29; rfl) ?_
  refine eb_n 1 (591, [.ref a0, .ref a1, d2, d3, .int a4, .int a5, .int a6, .int x29, .int a8, d9], [], h28) (rfl) ?_
  exact hk591 _ _ _ _ _ _ _ _ _ _ _ e
set_option maxRecDepth 100000 in
set_option maxHeartbeats 4000000 in
theorem f_Law_chosen_b591_ev {h' : AH} {r : Nat} (d : Nat) (hd : 1 ≤ d) (k591 : AH → Nat → Nat → Int32 → Int32 → Int32 → Int32 → Option (AH × Nat)) (hk591 : ∀ (h : AH) (a0 : Nat) (a1 : Nat) (a4 : Int32) (a5 : Int32) (a6 : Int32) (a7 : Int32)  (d2 : Value) (d3 : Value) (d8 : Value) (d9 : Value), k591 h a0 a1 a4 a5 a6 a7 = some (h', r) → Eb (Ev tb mL d) 2 (591, [.ref a0, .ref a1, d2, d3, .int a4, .int a5, .int a6, .int a7, d8, d9], [], h) h' (some (.ref r)))  (h : AH) (a0 : Nat) (a1 : Nat) (a4 : Int32) (a5 : Int32) (a6 : Int32) (a7 : Int32)  (d2 : Value) (d3 : Value) (d8 : Value) (d9 : Value) (e : f_Law_chosen_b591 k591 h a0 a1 a4 a5 a6 a7 = some (h', r)) : Eb (Ev tb mL d) 2 (591, [.ref a0, .ref a1, d2, d3, .int a4, .int a5, .int a6, .int a7, d8, d9], [], h) h' (some (.ref r)) := by
  unfold f_Law_chosen_b591 at e
  refine eb_n 2 (595, [.ref a0, .ref a1, d2, d3, .int a4, .int a5, .int a6, .int a7, d8, d9], [.int a6, .int a7], h) (rfl) ?_
  refine eb_b (c := a6 ≤ a7) (753, [.ref a0, .ref a1, d2, d3, .int a4, .int a5, .int a6, .int a7, d8, d9], [], h) (598, [.ref a0, .ref a1, d2, d3, .int a4, .int a5, .int a6, .int a7, d8, d9], [], h) rfl (fun c1 => ?_) (fun c1 => ?_)
  · replace e := ite_t c1 e
    refine eb_n 1 (754, [.ref a0, .ref a1, d2, d3, .int a4, .int a5, .int a6, .int a7, d8, d9], [.ref a1], h) (rfl) ?_
    rw [(sp_inj e).1, (sp_inj e).2]
    exact eb_r rfl
  · replace e := ite_f c1 e
    refine eb_n 4 (604, [.ref a0, .ref a1, d2, d3, .int a4, .int a5, .int a6, .int a7, d8, d9], [.int ((nI 6) + a7), .ref a0], h) (rfl) ?_
    obtain ⟨h2, r3, eh2, e⟩ := bn_some e
    refine eb_c rfl (f_Law_cell_ev d (Nat.le_trans (by decide) hd) eh2) ?_
    show Eb _ 2 (607, [.ref a0, .ref a1, d2, d3, .int a4, .int a5, .int a6, .int a7, d8, d9], [.int r3], h2) _ _
    obtain ⟨x4, hx4, e⟩ := lq_some e
    refine eb_n 5 (615, [.ref a0, .ref a1, d2, d3, .int a4, .int a5, .int a6, .int a7, .int x4, d9], [], h2) (by subst hx4; rfl) ?_
    refine eb_n 2 (618, [.ref a0, .ref a1, d2, d3, .int a4, .int a5, .int a6, .int a7, .int x4, d9], [.int (nI 4), .int x4], h2) (rfl) ?_
    obtain ⟨h5, r6, eh5, e⟩ := bn_some e
    refine eb_c rfl (f_Law_below_ev d (Nat.le_trans (by decide) hd) eh5) ?_
    show Eb _ 2 (621, [.ref a0, .ref a1, d2, d3, .int a4, .int a5, .int a6, .int a7, .int x4, d9], [.int r6], h5) _ _
    refine eb_n 1 (622, [.ref a0, .ref a1, d2, d3, .int a4, .int a5, .int a6, .int a7, .int x4, d9], [.int (nI 3), .int r6], h5) (rfl) ?_
    refine eb_g (p := ¬ (nI 3) = 0) (623, [.ref a0, .ref a1, d2, d3, .int a4, .int a5, .int a6, .int a7, .int x4, d9], [.int (r6 - r6 / (nI 3) * (nI 3))], h5) rfl (by decide) ?_
    obtain ⟨x7, hx7, e⟩ := lq_some e
    refine eb_n 1 (625, [.ref a0, .ref a1, d2, d3, .int a4, .int a5, .int a6, .int a7, .int x4, .int x7], [], h5) (by subst hx7; rfl) ?_
    refine eb_n 1 (626, [.ref a0, .ref a1, d2, d3, .int a4, .int a5, .int a6, .int a7, .int x4, .int x7], [.ref a1], h5) (rfl) ?_
    obtain ⟨g8, e⟩ := gd_some e
    refine eb_g (p := hT h5 a1 = 13) (629, [.ref a0, .ref a1, d2, d3, .int a4, .int a5, .int a6, .int a7, .int x4, .int x7], [.ref (hR h5 a1 17)], h5) rfl g8 ?_
    refine eb_n 2 (633, [.ref a0, .ref a1, d2, d3, .int a4, .int a5, .int a6, .int a7, .int x4, .int x7], [.int (nI 8), .int a7, .ref (hR h5 a1 17)], h5) (rfl) ?_
    obtain ⟨h9, eh9, e⟩ := lq_some e
    refine eb_g (p := ¬ (nI 8) < 0 ∧ ix (nI 8) ≤ 65536) (635, [.ref a0, .ref a1, d2, d3, .int a4, .int a5, .int a6, .int a7, .int x4, .int x7], [.ref (hN h5), .int a7, .ref (hR h5 a1 17)], h9) (by rw [eh9]; rfl) (by decide) ?_
    refine eb_n 3 (639, [.ref a0, .ref a1, d2, d3, .int a4, .int a5, .int a6, .int a7, .int x4, .int x7], [.int x7, .int (nI 0), .ref (hN h5), .ref (hN h5), .int a7, .ref (hR h5 a1 17)], h9) (rfl) ?_
    obtain ⟨g10, e⟩ := gd_some e
    obtain ⟨h11, eh11, e⟩ := lq_some e
    refine eb_g (p := hT h9 (hN h5) = 101 ∧ inb (nI 0) (hL h9 (hN h5))) (640, [.ref a0, .ref a1, d2, d3, .int a4, .int a5, .int a6, .int a7, .int x4, .int x7], [.ref (hN h5), .int a7, .ref (hR h5 a1 17)], h11) (by rw [eh11]; rfl) g10 ?_
    refine eb_n 4 (645, [.ref a0, .ref a1, d2, d3, .int a4, .int a5, .int a6, .int a7, .int x4, .int x7], [.int (nI 1), .int x7, .int (nI 1), .ref (hN h5), .ref (hN h5), .int a7, .ref (hR h5 a1 17)], h11) (rfl) ?_
    refine eb_b (c := ¬ x7 = (nI 1)) (660, [.ref a0, .ref a1, d2, d3, .int a4, .int a5, .int a6, .int a7, .int x4, .int x7], [.int (nI 1), .ref (hN h5), .ref (hN h5), .int a7, .ref (hR h5 a1 17)], h11) (648, [.ref a0, .ref a1, d2, d3, .int a4, .int a5, .int a6, .int a7, .int x4, .int x7], [.int (nI 1), .ref (hN h5), .ref (hN h5), .int a7, .ref (hR h5 a1 17)], h11) rfl (fun c12 => ?_) (fun c12 => ?_)
    · replace e := ite_t c12 e
      refine eb_n 4 (666, [.ref a0, .ref a1, d2, d3, .int a4, .int a5, .int a6, .int a7, .int x4, .int x7], [.int a4, .int (x4 >>> ((nI 2) &&& 31)), .int (nI 1), .ref (hN h5), .ref (hN h5), .int a7, .ref (hR h5 a1 17)], h11) (rfl) ?_
      obtain ⟨h13, r14, eh13, e⟩ := bn_some e
      refine eb_c rfl (f_Law_below_ev d (Nat.le_trans (by decide) hd) eh13) ?_
      show Eb _ 2 (669, [.ref a0, .ref a1, d2, d3, .int a4, .int a5, .int a6, .int a7, .int x4, .int x7], [.int r14, .int (nI 1), .ref (hN h5), .ref (hN h5), .int a7, .ref (hR h5 a1 17)], h13) _ _
      exact f_Law_chosen_b669_ev d hd k591 hk591 _ _ _ _ _ _ _ _ _ _ _ _ _ _ _ _ _ e
    · replace e := ite_f c12 e
      refine eb_n 4 (654, [.ref a0, .ref a1, d2, d3, .int a4, .int a5, .int a6, .int a7, .int x4, .int x7], [.int a5, .int (x4 >>> ((nI 2) &&& 31)), .int (nI 1), .ref (hN h5), .ref (hN h5), .int a7, .ref (hR h5 a1 17)], h11) (rfl) ?_
      obtain ⟨h15, r16, eh15, e⟩ := bn_some e
      refine eb_c rfl (f_Law_below_ev d (Nat.le_trans (by decide) hd) eh15) ?_
      show Eb _ 2 (657, [.ref a0, .ref a1, d2, d3, .int a4, .int a5, .int a6, .int a7, .int x4, .int x7], [.int r16, .int (nI 1), .ref (hN h5), .ref (hN h5), .int a7, .ref (hR h5 a1 17)], h15) _ _
      refine eb_n 1 (669, [.ref a0, .ref a1, d2, d3, .int a4, .int a5, .int a6, .int a7, .int x4, .int x7], [.int r16, .int (nI 1), .ref (hN h5), .ref (hN h5), .int a7, .ref (hR h5 a1 17)], h15) (rfl) ?_
      exact f_Law_chosen_b669_ev d hd k591 hk591 _ _ _ _ _ _ _ _ _ _ _ _ _ _ _ _ _ e
set_option maxRecDepth 100000 in
set_option maxHeartbeats 4000000 in
theorem f_Law_chosen_l591_ev {h' : AH} {r : Nat} (d : Nat) (hd : 1 ≤ d)  : ∀ (n : Nat) (h : AH) (a0 : Nat) (a1 : Nat) (a4 : Int32) (a5 : Int32) (a6 : Int32) (a7 : Int32)  (d2 : Value) (d3 : Value) (d8 : Value) (d9 : Value) (_ : f_Law_chosen_l591  n h a0 a1 a4 a5 a6 a7 = some (h', r)), Eb (Ev tb mL d) 2 (591, [.ref a0, .ref a1, d2, d3, .int a4, .int a5, .int a6, .int a7, d8, d9], [], h) h' (some (.ref r)) := by
  intro n
  induction n with
  | zero => intro h a0 a1 a4 a5 a6 a7 d2 d3 d8 d9 e; exact nomatch e
  | succ n ih =>
    intro h a0 a1 a4 a5 a6 a7 d2 d3 d8 d9 e
    exact f_Law_chosen_b591_ev d hd _ (fun h a0 a1 a4 a5 a6 a7 d2 d3 d8 d9 e => ih h a0 a1 a4 a5 a6 a7 d2 d3 d8 d9 e) h a0 a1 a4 a5 a6 a7 d2 d3 d8 d9 e
set_option maxRecDepth 100000 in
set_option maxHeartbeats 4000000 in
theorem f_Law_chosen_b560_ev {h' : AH} {r : Nat} (d : Nat) (hd : 1 ≤ d) (k518 : AH → Nat → Nat → Int32 → Int32 → Int32 → Option (AH × Nat)) (hk518 : ∀ (h : AH) (a0 : Nat) (a1 : Nat) (a4 : Int32) (a5 : Int32) (a6 : Int32)  (d2 : Value) (d3 : Value) (d7 : Value) (d8 : Value) (d9 : Value), k518 h a0 a1 a4 a5 a6 = some (h', r) → Eb (Ev tb mL d) 2 (518, [.ref a0, .ref a1, d2, d3, .int a4, .int a5, .int a6, d7, d8, d9], [], h) h' (some (.ref r)))  (h : AH) (a0 : Nat) (a1 : Nat) (a4 : Int32) (a5 : Int32) (a6 : Int32)  (d2 : Value) (d3 : Value) (d7 : Value) (d8 : Value) (d9 : Value) (e : f_Law_chosen_b560 k518 h a0 a1 a4 a5 a6 = some (h', r)) : Eb (Ev tb mL d) 2 (560, [.ref a0, .ref a1, d2, d3, .int a4, .int a5, .int a6, d7, d8, d9], [], h) h' (some (.ref r)) := by
  unfold f_Law_chosen_b560 at e
  obtain ⟨x1, hx1, e⟩ := lq_some e
  refine eb_n 1 (563, [.ref a0, .ref a1, d2, d3, .int a4, .int a5, .int x1, d7, d8, d9], [], h) (by subst hx1; rfl) ?_
  refine eb_n 1 (518, [.ref a0, .ref a1, d2, d3, .int a4, .int a5, .int x1, d7, d8, d9], [], h) (rfl) ?_
  exact hk518 _ _ _ _ _ _ _ _ _ _ _ e
set_option maxRecDepth 100000 in
set_option maxHeartbeats 4000000 in
theorem f_Law_chosen_b518_ev {h' : AH} {r : Nat} (d : Nat) (hd : 1 ≤ d) (k518 : AH → Nat → Nat → Int32 → Int32 → Int32 → Option (AH × Nat)) (hk518 : ∀ (h : AH) (a0 : Nat) (a1 : Nat) (a4 : Int32) (a5 : Int32) (a6 : Int32)  (d2 : Value) (d3 : Value) (d7 : Value) (d8 : Value) (d9 : Value), k518 h a0 a1 a4 a5 a6 = some (h', r) → Eb (Ev tb mL d) 2 (518, [.ref a0, .ref a1, d2, d3, .int a4, .int a5, .int a6, d7, d8, d9], [], h) h' (some (.ref r)))  (h : AH) (a0 : Nat) (a1 : Nat) (a4 : Int32) (a5 : Int32) (a6 : Int32)  (d2 : Value) (d3 : Value) (d7 : Value) (d8 : Value) (d9 : Value) (e : f_Law_chosen_b518 k518 h a0 a1 a4 a5 a6 = some (h', r)) : Eb (Ev tb mL d) 2 (518, [.ref a0, .ref a1, d2, d3, .int a4, .int a5, .int a6, d7, d8, d9], [], h) h' (some (.ref r)) := by
  unfold f_Law_chosen_b518 at e
  refine eb_n 2 (521, [.ref a0, .ref a1, d2, d3, .int a4, .int a5, .int a6, d7, d8, d9], [.int (nI 4), .int a6], h) (rfl) ?_
  refine eb_b (c := (nI 4) ≤ a6) (566, [.ref a0, .ref a1, d2, d3, .int a4, .int a5, .int a6, d7, d8, d9], [], h) (524, [.ref a0, .ref a1, d2, d3, .int a4, .int a5, .int a6, d7, d8, d9], [], h) rfl (fun c1 => ?_) (fun c1 => ?_)
  · replace e := ite_t c1 e
    refine eb_n 2 (569, [.ref a0, .ref a1, d2, d3, .int a4, .int a5, .int a6, d7, d8, d9], [.int (nI 7), .ref a0], h) (rfl) ?_
    obtain ⟨h2, r3, eh2, e⟩ := bn_some e
    refine eb_c rfl (f_Law_cell_ev d (Nat.le_trans (by decide) hd) eh2) ?_
    show Eb _ 2 (572, [.ref a0, .ref a1, d2, d3, .int a4, .int a5, .int a6, d7, d8, d9], [.int r3], h2) _ _
    refine eb_n 1 (574, [.ref a0, .ref a1, d2, d3, .int a4, .int a5, .int a6, d7, d8, d9], [.int (nI 8), .int r3], h2) (rfl) ?_
    obtain ⟨h4, r5, eh4, e⟩ := bn_some e
    refine eb_c rfl (f_Law_below_ev d (Nat.le_trans (by decide) hd) eh4) ?_
    show Eb _ 2 (577, [.ref a0, .ref a1, d2, d3, .int a4, .int a5, .int a6, d7, d8, d9], [.int r5], h4) _ _
    refine eb_n 3 (582, [.ref a0, .ref a1, d2, d3, .int a4, .int a5, .int r5, d7, d8, d9], [.int r5, .ref a1], h4) (rfl) ?_
    obtain ⟨g6, e⟩ := gd_some e
    obtain ⟨h7, eh7, e⟩ := lq_some e
    refine eb_g (p := ¬ r5 < 0 ∧ ix r5 ≤ 65536) (585, [.ref a0, .ref a1, d2, d3, .int a4, .int a5, .int r5, d7, d8, d9], [.ref (hN h4), .ref a1], h7) (by rw [eh7]; rfl) g6 ?_
    obtain ⟨g8, e⟩ := gd_some e
    obtain ⟨h9, eh9, e⟩ := lq_some e
    refine eb_g (p := hT h7 a1 = 13) (588, [.ref a0, .ref a1, d2, d3, .int a4, .int a5, .int r5, d7, d8, d9], [], h9) (by rw [eh9]; rfl) g8 ?_
    refine eb_n 2 (591, [.ref a0, .ref a1, d2, d3, .int a4, .int a5, .int r5, .int (nI 0), d8, d9], [], h9) (rfl) ?_
    exact f_Law_chosen_l591_ev d hd   FU _ _ _ _ _ _ _ _ _ _ _ e
  · replace e := ite_f c1 e
    refine eb_n 2 (527, [.ref a0, .ref a1, d2, d3, .int a4, .int a5, .int a6, d7, d8, d9], [.int a6, .ref a0], h) (rfl) ?_
    obtain ⟨h10, r11, eh10, e⟩ := bn_some e
    refine eb_c rfl (f_Law_cell_ev d (Nat.le_trans (by decide) hd) eh10) ?_
    show Eb _ 2 (530, [.ref a0, .ref a1, d2, d3, .int a4, .int a5, .int a6, d7, d8, d9], [.int r11], h10) _ _
    refine eb_n 3 (534, [.ref a0, .ref a1, d2, d3, .int a4, .int a5, .int a6, d7, d8, d9], [.int (nI 3), .int (r11 >>> ((nI 6) &&& 31))], h10) (rfl) ?_
    obtain ⟨h12, r13, eh12, e⟩ := bn_some e
    refine eb_c rfl (f_Law_below_ev d (Nat.le_trans (by decide) hd) eh12) ?_
    show Eb _ 2 (537, [.ref a0, .ref a1, d2, d3, .int a4, .int a5, .int a6, d7, d8, d9], [.int r13], h12) _ _
    refine eb_b (c := ¬ r13 = 0) (560, [.ref a0, .ref a1, d2, d3, .int a4, .int a5, .int a6, d7, d8, d9], [], h12) (540, [.ref a0, .ref a1, d2, d3, .int a4, .int a5, .int a6, d7, d8, d9], [], h12) rfl (fun c14 => ?_) (fun c14 => ?_)
    · replace e := ite_t c14 e
      exact f_Law_chosen_b560_ev d hd k518 hk518 _ _ _ _ _ _ _ _ _ _ _ e
    · replace e := ite_f c14 e
      refine eb_n 1 (541, [.ref a0, .ref a1, d2, d3, .int a4, .int a5, .int a6, d7, d8, d9], [.ref a1], h12) (rfl) ?_
      obtain ⟨g15, e⟩ := gd_some e
      refine eb_g (p := hT h12 a1 = 13) (544, [.ref a0, .ref a1, d2, d3, .int a4, .int a5, .int a6, d7, d8, d9], [.ref (hR h12 a1 8)], h12) rfl g15 ?_
      refine eb_n 3 (549, [.ref a0, .ref a1, d2, d3, .int a4, .int a5, .int a6, d7, d8, d9], [.int a6, .ref a0, .int a6, .ref (hR h12 a1 8)], h12) (rfl) ?_
      obtain ⟨h16, r17, eh16, e⟩ := bn_some e
      refine eb_c rfl (f_Law_cell_ev d (Nat.le_trans (by decide) hd) eh16) ?_
      show Eb _ 2 (552, [.ref a0, .ref a1, d2, d3, .int a4, .int a5, .int a6, d7, d8, d9], [.int r17, .int a6, .ref (hR h12 a1 8)], h16) _ _
      refine eb_n 3 (556, [.ref a0, .ref a1, d2, d3, .int a4, .int a5, .int a6, d7, d8, d9], [.int (nI 51), .int (r17 >>> ((nI 1) &&& 31)), .int a6, .ref (hR h12 a1 8)], h16) (rfl) ?_
      obtain ⟨h18, r19, eh18, e⟩ := bn_some e
      refine eb_c rfl (f_Law_below_ev d (Nat.le_trans (by decide) hd) eh18) ?_
      show Eb _ 2 (559, [.ref a0, .ref a1, d2, d3, .int a4, .int a5, .int a6, d7, d8, d9], [.int r19, .int a6, .ref (hR h12 a1 8)], h18) _ _
      obtain ⟨g20, e⟩ := gd_some e
      obtain ⟨h21, eh21, e⟩ := lq_some e
      refine eb_g (p := hT h18 (hR h12 a1 8) = 101 ∧ inb a6 (hL h18 (hR h12 a1 8))) (560, [.ref a0, .ref a1, d2, d3, .int a4, .int a5, .int a6, d7, d8, d9], [], h21) (by rw [eh21]; rfl) g20 ?_
      exact f_Law_chosen_b560_ev d hd k518 hk518 _ _ _ _ _ _ _ _ _ _ _ e
set_option maxRecDepth 100000 in
set_option maxHeartbeats 4000000 in
theorem f_Law_chosen_l518_ev {h' : AH} {r : Nat} (d : Nat) (hd : 1 ≤ d)  : ∀ (n : Nat) (h : AH) (a0 : Nat) (a1 : Nat) (a4 : Int32) (a5 : Int32) (a6 : Int32)  (d2 : Value) (d3 : Value) (d7 : Value) (d8 : Value) (d9 : Value) (_ : f_Law_chosen_l518  n h a0 a1 a4 a5 a6 = some (h', r)), Eb (Ev tb mL d) 2 (518, [.ref a0, .ref a1, d2, d3, .int a4, .int a5, .int a6, d7, d8, d9], [], h) h' (some (.ref r)) := by
  intro n
  induction n with
  | zero => intro h a0 a1 a4 a5 a6 d2 d3 d7 d8 d9 e; exact nomatch e
  | succ n ih =>
    intro h a0 a1 a4 a5 a6 d2 d3 d7 d8 d9 e
    exact f_Law_chosen_b518_ev d hd _ (fun h a0 a1 a4 a5 a6 d2 d3 d7 d8 d9 e => ih h a0 a1 a4 a5 a6 d2 d3 d7 d8 d9 e) h a0 a1 a4 a5 a6 d2 d3 d7 d8 d9 e
set_option maxRecDepth 100000 in
set_option maxHeartbeats 4000000 in
theorem f_Law_chosen_b509_ev {h' : AH} {r : Nat} (d : Nat) (hd : 1 ≤ d) (k468 : AH → Nat → Nat → Int32 → Int32 → Int32 → Option (AH × Nat)) (hk468 : ∀ (h : AH) (a0 : Nat) (a1 : Nat) (a4 : Int32) (a5 : Int32) (a6 : Int32)  (d2 : Value) (d3 : Value) (d7 : Value) (d8 : Value) (d9 : Value), k468 h a0 a1 a4 a5 a6 = some (h', r) → Eb (Ev tb mL d) 2 (468, [.ref a0, .ref a1, d2, d3, .int a4, .int a5, .int a6, d7, d8, d9], [], h) h' (some (.ref r)))  (h : AH) (a0 : Nat) (a1 : Nat) (a4 : Int32) (a5 : Int32) (a6 : Int32)  (d2 : Value) (d3 : Value) (d7 : Value) (d8 : Value) (d9 : Value) (e : f_Law_chosen_b509 k468 h a0 a1 a4 a5 a6 = some (h', r)) : Eb (Ev tb mL d) 2 (509, [.ref a0, .ref a1, d2, d3, .int a4, .int a5, .int a6, d7, d8, d9], [], h) h' (some (.ref r)) := by
  unfold f_Law_chosen_b509 at e
  obtain ⟨x1, hx1, e⟩ := lq_some e
  refine eb_n 1 (512, [.ref a0, .ref a1, d2, d3, .int a4, .int a5, .int x1, d7, d8, d9], [], h) (by subst hx1; rfl) ?_
  refine eb_n 1 (468, [.ref a0, .ref a1, d2, d3, .int a4, .int a5, .int x1, d7, d8, d9], [], h) (rfl) ?_
  exact hk468 _ _ _ _ _ _ _ _ _ _ _ e
set_option maxRecDepth 100000 in
set_option maxHeartbeats 4000000 in
theorem f_Law_chosen_b468_ev {h' : AH} {r : Nat} (d : Nat) (hd : 1 ≤ d) (k468 : AH → Nat → Nat → Int32 → Int32 → Int32 → Option (AH × Nat)) (hk468 : ∀ (h : AH) (a0 : Nat) (a1 : Nat) (a4 : Int32) (a5 : Int32) (a6 : Int32)  (d2 : Value) (d3 : Value) (d7 : Value) (d8 : Value) (d9 : Value), k468 h a0 a1 a4 a5 a6 = some (h', r) → Eb (Ev tb mL d) 2 (468, [.ref a0, .ref a1, d2, d3, .int a4, .int a5, .int a6, d7, d8, d9], [], h) h' (some (.ref r)))  (h : AH) (a0 : Nat) (a1 : Nat) (a4 : Int32) (a5 : Int32) (a6 : Int32)  (d2 : Value) (d3 : Value) (d7 : Value) (d8 : Value) (d9 : Value) (e : f_Law_chosen_b468 k468 h a0 a1 a4 a5 a6 = some (h', r)) : Eb (Ev tb mL d) 2 (468, [.ref a0, .ref a1, d2, d3, .int a4, .int a5, .int a6, d7, d8, d9], [], h) h' (some (.ref r)) := by
  unfold f_Law_chosen_b468 at e
  refine eb_n 2 (472, [.ref a0, .ref a1, d2, d3, .int a4, .int a5, .int a6, d7, d8, d9], [.int (nI 12), .int a6], h) (rfl) ?_
  refine eb_b (c := (nI 12) ≤ a6) (515, [.ref a0, .ref a1, d2, d3, .int a4, .int a5, .int a6, d7, d8, d9], [], h) (475, [.ref a0, .ref a1, d2, d3, .int a4, .int a5, .int a6, d7, d8, d9], [], h) rfl (fun c1 => ?_) (fun c1 => ?_)
  · replace e := ite_t c1 e
    refine eb_n 2 (518, [.ref a0, .ref a1, d2, d3, .int a4, .int a5, .int (nI 0), d7, d8, d9], [], h) (rfl) ?_
    exact f_Law_chosen_l518_ev d hd   FU _ _ _ _ _ _ _ _ _ _ _ e
  · replace e := ite_f c1 e
    refine eb_n 2 (478, [.ref a0, .ref a1, d2, d3, .int a4, .int a5, .int a6, d7, d8, d9], [.int a6, .ref a0], h) (rfl) ?_
    obtain ⟨h2, r3, eh2, e⟩ := bn_some e
    refine eb_c rfl (f_Law_cell_ev d (Nat.le_trans (by decide) hd) eh2) ?_
    show Eb _ 2 (481, [.ref a0, .ref a1, d2, d3, .int a4, .int a5, .int a6, d7, d8, d9], [.int r3], h2) _ _
    refine eb_n 3 (484, [.ref a0, .ref a1, d2, d3, .int a4, .int a5, .int a6, d7, d8, d9], [.int (nI 3), .int (r3 >>> ((nI 5) &&& 31))], h2) (rfl) ?_
    obtain ⟨h4, r5, eh4, e⟩ := bn_some e
    refine eb_c rfl (f_Law_below_ev d (Nat.le_trans (by decide) hd) eh4) ?_
    show Eb _ 2 (487, [.ref a0, .ref a1, d2, d3, .int a4, .int a5, .int a6, d7, d8, d9], [.int r5], h4) _ _
    refine eb_b (c := ¬ r5 = 0) (509, [.ref a0, .ref a1, d2, d3, .int a4, .int a5, .int a6, d7, d8, d9], [], h4) (490, [.ref a0, .ref a1, d2, d3, .int a4, .int a5, .int a6, d7, d8, d9], [], h4) rfl (fun c6 => ?_) (fun c6 => ?_)
    · replace e := ite_t c6 e
      exact f_Law_chosen_b509_ev d hd k468 hk468 _ _ _ _ _ _ _ _ _ _ _ e
    · replace e := ite_f c6 e
      refine eb_n 1 (491, [.ref a0, .ref a1, d2, d3, .int a4, .int a5, .int a6, d7, d8, d9], [.ref a1], h4) (rfl) ?_
      obtain ⟨g7, e⟩ := gd_some e
      refine eb_g (p := hT h4 a1 = 13) (494, [.ref a0, .ref a1, d2, d3, .int a4, .int a5, .int a6, d7, d8, d9], [.ref (hR h4 a1 7)], h4) rfl g7 ?_
      refine eb_n 3 (499, [.ref a0, .ref a1, d2, d3, .int a4, .int a5, .int a6, d7, d8, d9], [.int a6, .ref a0, .int a6, .ref (hR h4 a1 7)], h4) (rfl) ?_
      obtain ⟨h8, r9, eh8, e⟩ := bn_some e
      refine eb_c rfl (f_Law_cell_ev d (Nat.le_trans (by decide) hd) eh8) ?_
      show Eb _ 2 (502, [.ref a0, .ref a1, d2, d3, .int a4, .int a5, .int a6, d7, d8, d9], [.int r9, .int a6, .ref (hR h4 a1 7)], h8) _ _
      refine eb_n 3 (505, [.ref a0, .ref a1, d2, d3, .int a4, .int a5, .int a6, d7, d8, d9], [.int (nI 4), .int (r9 >>> ((nI 3) &&& 31)), .int a6, .ref (hR h4 a1 7)], h8) (rfl) ?_
      obtain ⟨h10, r11, eh10, e⟩ := bn_some e
      refine eb_c rfl (f_Law_below_ev d (Nat.le_trans (by decide) hd) eh10) ?_
      show Eb _ 2 (508, [.ref a0, .ref a1, d2, d3, .int a4, .int a5, .int a6, d7, d8, d9], [.int r11, .int a6, .ref (hR h4 a1 7)], h10) _ _
      obtain ⟨g12, e⟩ := gd_some e
      obtain ⟨h13, eh13, e⟩ := lq_some e
      refine eb_g (p := hT h10 (hR h4 a1 7) = 101 ∧ inb a6 (hL h10 (hR h4 a1 7))) (509, [.ref a0, .ref a1, d2, d3, .int a4, .int a5, .int a6, d7, d8, d9], [], h13) (by rw [eh13]; rfl) g12 ?_
      exact f_Law_chosen_b509_ev d hd k468 hk468 _ _ _ _ _ _ _ _ _ _ _ e
set_option maxRecDepth 100000 in
set_option maxHeartbeats 4000000 in
theorem f_Law_chosen_l468_ev {h' : AH} {r : Nat} (d : Nat) (hd : 1 ≤ d)  : ∀ (n : Nat) (h : AH) (a0 : Nat) (a1 : Nat) (a4 : Int32) (a5 : Int32) (a6 : Int32)  (d2 : Value) (d3 : Value) (d7 : Value) (d8 : Value) (d9 : Value) (_ : f_Law_chosen_l468  n h a0 a1 a4 a5 a6 = some (h', r)), Eb (Ev tb mL d) 2 (468, [.ref a0, .ref a1, d2, d3, .int a4, .int a5, .int a6, d7, d8, d9], [], h) h' (some (.ref r)) := by
  intro n
  induction n with
  | zero => intro h a0 a1 a4 a5 a6 d2 d3 d7 d8 d9 e; exact nomatch e
  | succ n ih =>
    intro h a0 a1 a4 a5 a6 d2 d3 d7 d8 d9 e
    exact f_Law_chosen_b468_ev d hd _ (fun h a0 a1 a4 a5 a6 d2 d3 d7 d8 d9 e => ih h a0 a1 a4 a5 a6 d2 d3 d7 d8 d9 e) h a0 a1 a4 a5 a6 d2 d3 d7 d8 d9 e
set_option maxRecDepth 100000 in
set_option maxHeartbeats 4000000 in
theorem f_Law_chosen_b465_ev {h' : AH} {r : Nat} (d : Nat) (hd : 1 ≤ d)  (h : AH) (a0 : Nat) (a1 : Nat) (a4 : Int32) (a5 : Int32)  (d2 : Value) (d3 : Value) (d6 : Value) (d7 : Value) (d8 : Value) (d9 : Value) (e : f_Law_chosen_b465  h a0 a1 a4 a5 = some (h', r)) : Eb (Ev tb mL d) 2 (465, [.ref a0, .ref a1, d2, d3, .int a4, .int a5, d6, d7, d8, d9], [], h) h' (some (.ref r)) := by
  unfold f_Law_chosen_b465 at e
  refine eb_n 2 (468, [.ref a0, .ref a1, d2, d3, .int a4, .int a5, .int (nI 0), d7, d8, d9], [], h) (rfl) ?_
  exact f_Law_chosen_l468_ev d hd   FU _ _ _ _ _ _ _ _ _ _ _ e
set_option maxRecDepth 100000 in
set_option maxHeartbeats 4000000 in
theorem f_Law_chosen_b332_ev {h' : AH} {r : Nat} (d : Nat) (hd : 1 ≤ d) (k332 : AH → Nat → Nat → Int32 → Int32 → Int32 → Option (AH × Nat)) (hk332 : ∀ (h : AH) (a0 : Nat) (a1 : Nat) (a4 : Int32) (a5 : Int32) (a6 : Int32)  (d2 : Value) (d3 : Value) (d7 : Value) (d8 : Value) (d9 : Value), k332 h a0 a1 a4 a5 a6 = some (h', r) → Eb (Ev tb mL d) 2 (332, [.ref a0, .ref a1, d2, d3, .int a4, .int a5, .int a6, d7, d8, d9], [], h) h' (some (.ref r)))  (h : AH) (a0 : Nat) (a1 : Nat) (a4 : Int32) (a5 : Int32) (a6 : Int32)  (d2 : Value) (d3 : Value) (d7 : Value) (d8 : Value) (d9 : Value) (e : f_Law_chosen_b332 k332 h a0 a1 a4 a5 a6 = some (h', r)) : Eb (Ev tb mL d) 2 (332, [.ref a0, .ref a1, d2, d3, .int a4, .int a5, .int a6, d7, d8, d9], [], h) h' (some (.ref r)) := by
  unfold f_Law_chosen_b332 at e
  refine eb_n 2 (336, [.ref a0, .ref a1, d2, d3, .int a4, .int a5, .int a6, d7, d8, d9], [.int a5, .int a6], h) (rfl) ?_
  refine eb_b (c := a5 ≤ a6) (419, [.ref a0, .ref a1, d2, d3, .int a4, .int a5, .int a6, d7, d8, d9], [], h) (339, [.ref a0, .ref a1, d2, d3, .int a4, .int a5, .int a6, d7, d8, d9], [], h) rfl (fun c1 => ?_) (fun c1 => ?_)
  · replace e := ite_t c1 e
    refine eb_n 2 (421, [.ref a0, .ref a1, d2, d3, .int a4, .int a5, .int a6, d7, d8, d9], [.int (nI 3), .ref a0], h) (rfl) ?_
    obtain ⟨h2, r3, eh2, e⟩ := bn_some e
    refine eb_c rfl (f_Law_cell_ev d (Nat.le_trans (by decide) hd) eh2) ?_
    show Eb _ 2 (424, [.ref a0, .ref a1, d2, d3, .int a4, .int a5, .int a6, d7, d8, d9], [.int r3], h2) _ _
    refine eb_n 1 (425, [.ref a0, .ref a1, d2, d3, .int a4, .int a5, .int a6, d7, d8, d9], [.int (nI 3), .int r3], h2) (rfl) ?_
    obtain ⟨h4, r5, eh4, e⟩ := bn_some e
    refine eb_c rfl (f_Law_below_ev d (Nat.le_trans (by decide) hd) eh4) ?_
    show Eb _ 2 (428, [.ref a0, .ref a1, d2, d3, .int a4, .int a5, .int a6, d7, d8, d9], [.int r5], h4) _ _
    refine eb_b (c := r5 ≤ 0) (465, [.ref a0, .ref a1, d2, d3, .int a4, .int a5, .int a6, d7, d8, d9], [], h4) (431, [.ref a0, .ref a1, d2, d3, .int a4, .int a5, .int a6, d7, d8, d9], [], h4) rfl (fun c6 => ?_) (fun c6 => ?_)
    · replace e := ite_t c6 e
      exact f_Law_chosen_b465_ev d hd   _ _ _ _ _ _ _ _ _ _ _ e
    · replace e := ite_f c6 e
      refine eb_n 4 (435, [.ref a0, .ref a1, d2, d3, .int a4, .int a5, .int a6, d7, d8, d9], [.int (nI 3), .ref a0, .int (nI 1), .ref a1], h4) (rfl) ?_
      obtain ⟨h7, r8, eh7, e⟩ := bn_some e
      refine eb_c rfl (f_Law_cell_ev d (Nat.le_trans (by decide) hd) eh7) ?_
      show Eb _ 2 (438, [.ref a0, .ref a1, d2, d3, .int a4, .int a5, .int a6, d7, d8, d9], [.int r8, .int (nI 1), .ref a1], h7) _ _
      refine eb_n 3 (442, [.ref a0, .ref a1, d2, d3, .int a4, .int a5, .int a6, d7, d8, d9], [.int (nI 60), .int (r8 >>> ((nI 2) &&& 31)), .int (nI 1), .ref a1], h7) (rfl) ?_
      obtain ⟨h9, r10, eh9, e⟩ := bn_some e
      refine eb_c rfl (f_Law_below_ev d (Nat.le_trans (by decide) hd) eh9) ?_
      show Eb _ 2 (445, [.ref a0, .ref a1, d2, d3, .int a4, .int a5, .int a6, d7, d8, d9], [.int r10, .int (nI 1), .ref a1], h9) _ _
      refine eb_n 1 (446, [.ref a0, .ref a1, d2, d3, .int a4, .int a5, .int a6, d7, d8, d9], [.int ((nI 1) + r10), .ref a1], h9) (rfl) ?_
      obtain ⟨g11, e⟩ := gd_some e
      obtain ⟨h12, eh12, e⟩ := lq_some e
      refine eb_g (p := hT h9 a1 = 13) (449, [.ref a0, .ref a1, d2, d3, .int a4, .int a5, .int a6, d7, d8, d9], [], h12) (by rw [eh12]; rfl) g11 ?_
      refine eb_n 3 (452, [.ref a0, .ref a1, d2, d3, .int a4, .int a5, .int a6, d7, d8, d9], [.int (nI 4), .ref a0, .ref a1], h12) (rfl) ?_
      obtain ⟨h13, r14, eh13, e⟩ := bn_some e
      refine eb_c rfl (f_Law_cell_ev d (Nat.le_trans (by decide) hd) eh13) ?_
      show Eb _ 2 (455, [.ref a0, .ref a1, d2, d3, .int a4, .int a5, .int a6, d7, d8, d9], [.int r14, .ref a1], h13) _ _
      refine eb_n 3 (459, [.ref a0, .ref a1, d2, d3, .int a4, .int a5, .int a6, d7, d8, d9], [.int (nI 6), .int (r14 >>> ((nI 2) &&& 31)), .ref a1], h13) (rfl) ?_
      obtain ⟨h15, r16, eh15, e⟩ := bn_some e
      refine eb_c rfl (f_Law_below_ev d (Nat.le_trans (by decide) hd) eh15) ?_
      show Eb _ 2 (462, [.ref a0, .ref a1, d2, d3, .int a4, .int a5, .int a6, d7, d8, d9], [.int r16, .ref a1], h15) _ _
      obtain ⟨g17, e⟩ := gd_some e
      obtain ⟨h18, eh18, e⟩ := lq_some e
      refine eb_g (p := hT h15 a1 = 13) (465, [.ref a0, .ref a1, d2, d3, .int a4, .int a5, .int a6, d7, d8, d9], [], h18) (by rw [eh18]; rfl) g17 ?_
      exact f_Law_chosen_b465_ev d hd   _ _ _ _ _ _ _ _ _ _ _ e
  · replace e := ite_f c1 e
    refine eb_n 1 (340, [.ref a0, .ref a1, d2, d3, .int a4, .int a5, .int a6, d7, d8, d9], [.ref a1], h) (rfl) ?_
    obtain ⟨g19, e⟩ := gd_some e
    refine eb_g (p := hT h a1 = 13) (343, [.ref a0, .ref a1, d2, d3, .int a4, .int a5, .int a6, d7, d8, d9], [.ref (hR h a1 16)], h) rfl g19 ?_
    refine eb_n 2 (347, [.ref a0, .ref a1, d2, d3, .int a4, .int a5, .int a6, d7, d8, d9], [.int (nI 7), .int a6, .ref (hR h a1 16)], h) (rfl) ?_
    obtain ⟨h20, eh20, e⟩ := lq_some e
    refine eb_g (p := ¬ (nI 7) < 0 ∧ ix (nI 7) ≤ 65536) (349, [.ref a0, .ref a1, d2, d3, .int a4, .int a5, .int a6, d7, d8, d9], [.ref (hN h), .int a6, .ref (hR h a1 16)], h20) (by rw [eh20]; rfl) (by decide) ?_
    refine eb_n 5 (355, [.ref a0, .ref a1, d2, d3, .int a4, .int a5, .int a6, d7, d8, d9], [.int (nI 14), .ref a0, .int (nI 1), .int (nI 0), .ref (hN h), .ref (hN h), .int a6, .ref (hR h a1 16)], h20) (rfl) ?_
    obtain ⟨h21, r22, eh21, e⟩ := bn_some e
    refine eb_c rfl (f_Law_cell_ev d (Nat.le_trans (by decide) hd) eh21) ?_
    show Eb _ 2 (358, [.ref a0, .ref a1, d2, d3, .int a4, .int a5, .int a6, d7, d8, d9], [.int r22, .int (nI 1), .int (nI 0), .ref (hN h), .ref (hN h), .int a6, .ref (hR h a1 16)], h21) _ _
    refine eb_n 5 (365, [.ref a0, .ref a1, d2, d3, .int a4, .int a5, .int a6, d7, d8, d9], [.int (nI 40), .int (r22 >>> (((nI 2) * a6) &&& 31)), .int (nI 1), .int (nI 0), .ref (hN h), .ref (hN h), .int a6, .ref (hR h a1 16)], h21) (rfl) ?_
    obtain ⟨h23, r24, eh23, e⟩ := bn_some e
    refine eb_c rfl (f_Law_below_ev d (Nat.le_trans (by decide) hd) eh23) ?_
    show Eb _ 2 (368, [.ref a0, .ref a1, d2, d3, .int a4, .int a5, .int a6, d7, d8, d9], [.int r24, .int (nI 1), .int (nI 0), .ref (hN h), .ref (hN h), .int a6, .ref (hR h a1 16)], h23) _ _
    refine eb_n 1 (369, [.ref a0, .ref a1, d2, d3, .int a4, .int a5, .int a6, d7, d8, d9], [.int ((nI 1) + r24), .int (nI 0), .ref (hN h), .ref (hN h), .int a6, .ref (hR h a1 16)], h23) (rfl) ?_
    obtain ⟨g25, e⟩ := gd_some e
    obtain ⟨h26, eh26, e⟩ := lq_some e
    refine eb_g (p := hT h23 (hN h) = 101 ∧ inb (nI 0) (hL h23 (hN h))) (370, [.ref a0, .ref a1, d2, d3, .int a4, .int a5, .int a6, d7, d8, d9], [.ref (hN h), .int a6, .ref (hR h a1 16)], h26) (by rw [eh26]; rfl) g25 ?_
    refine eb_n 5 (376, [.ref a0, .ref a1, d2, d3, .int a4, .int a5, .int a6, d7, d8, d9], [.int (nI 15), .ref a0, .int (nI 1), .int (nI 1), .ref (hN h), .ref (hN h), .int a6, .ref (hR h a1 16)], h26) (rfl) ?_
    obtain ⟨h27, r28, eh27, e⟩ := bn_some e
    refine eb_c rfl (f_Law_cell_ev d (Nat.le_trans (by decide) hd) eh27) ?_
    show Eb _ 2 (379, [.ref a0, .ref a1, d2, d3, .int a4, .int a5, .int a6, d7, d8, d9], [.int r28, .int (nI 1), .int (nI 1), .ref (hN h), .ref (hN h), .int a6, .ref (hR h a1 16)], h27) _ _
    refine eb_n 5 (386, [.ref a0, .ref a1, d2, d3, .int a4, .int a5, .int a6, d7, d8, d9], [.int (nI 9), .int (r28 >>> (((nI 2) * a6) &&& 31)), .int (nI 1), .int (nI 1), .ref (hN h), .ref (hN h), .int a6, .ref (hR h a1 16)], h27) (rfl) ?_
    obtain ⟨h29, r30, eh29, e⟩ := bn_some e
    refine eb_c rfl (f_Law_below_ev d (Nat.le_trans (by decide) hd) eh29) ?_
    show Eb _ 2 (389, [.ref a0, .ref a1, d2, d3, .int a4, .int a5, .int a6, d7, d8, d9], [.int r30, .int (nI 1), .int (nI 1), .ref (hN h), .ref (hN h), .int a6, .ref (hR h a1 16)], h29) _ _
    refine eb_n 1 (390, [.ref a0, .ref a1, d2, d3, .int a4, .int a5, .int a6, d7, d8, d9], [.int ((nI 1) + r30), .int (nI 1), .ref (hN h), .ref (hN h), .int a6, .ref (hR h a1 16)], h29) (rfl) ?_
    obtain ⟨g31, e⟩ := gd_some e
    obtain ⟨h32, eh32, e⟩ := lq_some e
    refine eb_g (p := hT h29 (hN h) = 101 ∧ inb (nI 1) (hL h29 (hN h))) (391, [.ref a0, .ref a1, d2, d3, .int a4, .int a5, .int a6, d7, d8, d9], [.ref (hN h), .int a6, .ref (hR h a1 16)], h32) (by rw [eh32]; rfl) g31 ?_
    refine eb_n 3 (394, [.ref a0, .ref a1, d2, d3, .int a4, .int a5, .int a6, d7, d8, d9], [.int (nI 0), .int (nI 2), .ref (hN h), .ref (hN h), .int a6, .ref (hR h a1 16)], h32) (rfl) ?_
    obtain ⟨g33, e⟩ := gd_some e
    obtain ⟨h34, eh34, e⟩ := lq_some e
    refine eb_g (p := hT h32 (hN h) = 101 ∧ inb (nI 2) (hL h32 (hN h))) (395, [.ref a0, .ref a1, d2, d3, .int a4, .int a5, .int a6, d7, d8, d9], [.ref (hN h), .int a6, .ref (hR h a1 16)], h34) (by rw [eh34]; rfl) g33 ?_
    refine eb_n 3 (398, [.ref a0, .ref a1, d2, d3, .int a4, .int a5, .int a6, d7, d8, d9], [.int (nI 0), .int (nI 3), .ref (hN h), .ref (hN h), .int a6, .ref (hR h a1 16)], h34) (rfl) ?_
    obtain ⟨g35, e⟩ := gd_some e
    obtain ⟨h36, eh36, e⟩ := lq_some e
    refine eb_g (p := hT h34 (hN h) = 101 ∧ inb (nI 3) (hL h34 (hN h))) (399, [.ref a0, .ref a1, d2, d3, .int a4, .int a5, .int a6, d7, d8, d9], [.ref (hN h), .int a6, .ref (hR h a1 16)], h36) (by rw [eh36]; rfl) g35 ?_
    refine eb_n 3 (402, [.ref a0, .ref a1, d2, d3, .int a4, .int a5, .int a6, d7, d8, d9], [.int (nI 0), .int (nI 4), .ref (hN h), .ref (hN h), .int a6, .ref (hR h a1 16)], h36) (rfl) ?_
    obtain ⟨g37, e⟩ := gd_some e
    obtain ⟨h38, eh38, e⟩ := lq_some e
    refine eb_g (p := hT h36 (hN h) = 101 ∧ inb (nI 4) (hL h36 (hN h))) (403, [.ref a0, .ref a1, d2, d3, .int a4, .int a5, .int a6, d7, d8, d9], [.ref (hN h), .int a6, .ref (hR h a1 16)], h38) (by rw [eh38]; rfl) g37 ?_
    refine eb_n 3 (406, [.ref a0, .ref a1, d2, d3, .int a4, .int a5, .int a6, d7, d8, d9], [.int (nI 0), .int (nI 5), .ref (hN h), .ref (hN h), .int a6, .ref (hR h a1 16)], h38) (rfl) ?_
    obtain ⟨g39, e⟩ := gd_some e
    obtain ⟨h40, eh40, e⟩ := lq_some e
    refine eb_g (p := hT h38 (hN h) = 101 ∧ inb (nI 5) (hL h38 (hN h))) (407, [.ref a0, .ref a1, d2, d3, .int a4, .int a5, .int a6, d7, d8, d9], [.ref (hN h), .int a6, .ref (hR h a1 16)], h40) (by rw [eh40]; rfl) g39 ?_
    refine eb_n 3 (411, [.ref a0, .ref a1, d2, d3, .int a4, .int a5, .int a6, d7, d8, d9], [.int (nI 0), .int (nI 6), .ref (hN h), .ref (hN h), .int a6, .ref (hR h a1 16)], h40) (rfl) ?_
    obtain ⟨g41, e⟩ := gd_some e
    obtain ⟨h42, eh42, e⟩ := lq_some e
    refine eb_g (p := hT h40 (hN h) = 101 ∧ inb (nI 6) (hL h40 (hN h))) (412, [.ref a0, .ref a1, d2, d3, .int a4, .int a5, .int a6, d7, d8, d9], [.ref (hN h), .int a6, .ref (hR h a1 16)], h42) (by rw [eh42]; rfl) g41 ?_
    obtain ⟨g43, e⟩ := gd_some e
    obtain ⟨h44, eh44, e⟩ := lq_some e
    refine eb_g (p := hT h42 (hR h a1 16) = 109 ∧ inb a6 (hL h42 (hR h a1 16)) ∧ hT h42 (hN h) = 101) (413, [.ref a0, .ref a1, d2, d3, .int a4, .int a5, .int a6, d7, d8, d9], [], h44) (by rw [eh44]; rfl) g43 ?_
    obtain ⟨x45, hx45, e⟩ := lq_some e
    refine eb_n 1 (416, [.ref a0, .ref a1, d2, d3, .int a4, .int a5, .int x45, d7, d8, d9], [], h44) (by subst hx45; rfl) ?_
    refine eb_n 1 (332, [.ref a0, .ref a1, d2, d3, .int a4, .int a5, .int x45, d7, d8, d9], [], h44) (rfl) ?_
    exact hk332 _ _ _ _ _ _ _ _ _ _ _ e
set_option maxRecDepth 100000 in
set_option maxHeartbeats 4000000 in
theorem f_Law_chosen_l332_ev {h' : AH} {r : Nat} (d : Nat) (hd : 1 ≤ d)  : ∀ (n : Nat) (h : AH) (a0 : Nat) (a1 : Nat) (a4 : Int32) (a5 : Int32) (a6 : Int32)  (d2 : Value) (d3 : Value) (d7 : Value) (d8 : Value) (d9 : Value) (_ : f_Law_chosen_l332  n h a0 a1 a4 a5 a6 = some (h', r)), Eb (Ev tb mL d) 2 (332, [.ref a0, .ref a1, d2, d3, .int a4, .int a5, .int a6, d7, d8, d9], [], h) h' (some (.ref r)) := by
  intro n
  induction n with
  | zero => intro h a0 a1 a4 a5 a6 d2 d3 d7 d8 d9 e; exact nomatch e
  | succ n ih =>
    intro h a0 a1 a4 a5 a6 d2 d3 d7 d8 d9 e
    exact f_Law_chosen_b332_ev d hd _ (fun h a0 a1 a4 a5 a6 d2 d3 d7 d8 d9 e => ih h a0 a1 a4 a5 a6 d2 d3 d7 d8 d9 e) h a0 a1 a4 a5 a6 d2 d3 d7 d8 d9 e
set_option maxRecDepth 100000 in
set_option maxHeartbeats 4000000 in
theorem f_Law_chosen_b209_ev {h' : AH} {r : Nat} (d : Nat) (hd : 1 ≤ d) (k209 : AH → Nat → Nat → Int32 → Int32 → Int32 → Int32 → Option (AH × Nat)) (hk209 : ∀ (h : AH) (a0 : Nat) (a1 : Nat) (a2 : Int32) (a3 : Int32) (a4 : Int32) (a5 : Int32)  (d6 : Value) (d7 : Value) (d8 : Value) (d9 : Value), k209 h a0 a1 a2 a3 a4 a5 = some (h', r) → Eb (Ev tb mL d) 2 (209, [.ref a0, .ref a1, .int a2, .int a3, .int a4, .int a5, d6, d7, d8, d9], [], h) h' (some (.ref r)))  (h : AH) (a0 : Nat) (a1 : Nat) (a2 : Int32) (a3 : Int32) (a4 : Int32) (a5 : Int32)  (d6 : Value) (d7 : Value) (d8 : Value) (d9 : Value) (e : f_Law_chosen_b209 k209 h a0 a1 a2 a3 a4 a5 = some (h', r)) : Eb (Ev tb mL d) 2 (209, [.ref a0, .ref a1, .int a2, .int a3, .int a4, .int a5, d6, d7, d8, d9], [], h) h' (some (.ref r)) := by
  unfold f_Law_chosen_b209 at e
  refine eb_n 2 (213, [.ref a0, .ref a1, .int a2, .int a3, .int a4, .int a5, d6, d7, d8, d9], [.int a4, .int a5], h) (rfl) ?_
  refine eb_b (c := a4 ≤ a5) (306, [.ref a0, .ref a1, .int a2, .int a3, .int a4, .int a5, d6, d7, d8, d9], [], h) (216, [.ref a0, .ref a1, .int a2, .int a3, .int a4, .int a5, d6, d7, d8, d9], [], h) rfl (fun c1 => ?_) (fun c1 => ?_)
  · replace e := ite_t c1 e
    refine eb_n 3 (310, [.ref a0, .ref a1, .int a2, .int a3, .int a4, .int a5, d6, d7, d8, d9], [.int (nI 13), .ref a0, .int (nI 1)], h) (rfl) ?_
    obtain ⟨h2, r3, eh2, e⟩ := bn_some e
    refine eb_c rfl (f_Law_cell_ev d (Nat.le_trans (by decide) hd) eh2) ?_
    show Eb _ 2 (313, [.ref a0, .ref a1, .int a2, .int a3, .int a4, .int a5, d6, d7, d8, d9], [.int r3, .int (nI 1)], h2) _ _
    refine eb_n 1 (314, [.ref a0, .ref a1, .int a2, .int a3, .int a4, .int a5, d6, d7, d8, d9], [.int (nI 3), .int r3, .int (nI 1)], h2) (rfl) ?_
    obtain ⟨h4, r5, eh4, e⟩ := bn_some e
    refine eb_c rfl (f_Law_below_ev d (Nat.le_trans (by decide) hd) eh4) ?_
    show Eb _ 2 (317, [.ref a0, .ref a1, .int a2, .int a3, .int a4, .int a5, d6, d7, d8, d9], [.int r5, .int (nI 1)], h4) _ _
    obtain ⟨x6, hx6, e⟩ := lq_some e
    refine eb_n 2 (320, [.ref a0, .ref a1, .int a2, .int a3, .int a4, .int x6, d6, d7, d8, d9], [], h4) (by subst hx6; rfl) ?_
    refine eb_n 2 (323, [.ref a0, .ref a1, .int a2, .int a3, .int a4, .int x6, d6, d7, d8, d9], [.int x6, .ref a1], h4) (rfl) ?_
    obtain ⟨g7, e⟩ := gd_some e
    obtain ⟨h8, eh8, e⟩ := lq_some e
    refine eb_g (p := ¬ x6 < 0 ∧ ix x6 ≤ 65536) (326, [.ref a0, .ref a1, .int a2, .int a3, .int a4, .int x6, d6, d7, d8, d9], [.ref (hN h4), .ref a1], h8) (by rw [eh8]; rfl) g7 ?_
    obtain ⟨g9, e⟩ := gd_some e
    obtain ⟨h10, eh10, e⟩ := lq_some e
    refine eb_g (p := hT h8 a1 = 13) (329, [.ref a0, .ref a1, .int a2, .int a3, .int a4, .int x6, d6, d7, d8, d9], [], h10) (by rw [eh10]; rfl) g9 ?_
    refine eb_n 2 (332, [.ref a0, .ref a1, .int a2, .int a3, .int a4, .int x6, .int (nI 0), d7, d8, d9], [], h10) (rfl) ?_
    exact f_Law_chosen_l332_ev d hd   FU _ _ _ _ _ _ _ _ _ _ _ e
  · replace e := ite_f c1 e
    refine eb_n 1 (217, [.ref a0, .ref a1, .int a2, .int a3, .int a4, .int a5, d6, d7, d8, d9], [.ref a1], h) (rfl) ?_
    obtain ⟨g11, e⟩ := gd_some e
    refine eb_g (p := hT h a1 = 13) (220, [.ref a0, .ref a1, .int a2, .int a3, .int a4, .int a5, d6, d7, d8, d9], [.ref (hR h a1 15)], h) rfl g11 ?_
    refine eb_n 2 (224, [.ref a0, .ref a1, .int a2, .int a3, .int a4, .int a5, d6, d7, d8, d9], [.int (nI 7), .int a5, .ref (hR h a1 15)], h) (rfl) ?_
    obtain ⟨h12, eh12, e⟩ := lq_some e
    refine eb_g (p := ¬ (nI 7) < 0 ∧ ix (nI 7) ≤ 65536) (226, [.ref a0, .ref a1, .int a2, .int a3, .int a4, .int a5, d6, d7, d8, d9], [.ref (hN h), .int a5, .ref (hR h a1 15)], h12) (by rw [eh12]; rfl) (by decide) ?_
    refine eb_n 6 (234, [.ref a0, .ref a1, .int a2, .int a3, .int a4, .int a5, d6, d7, d8, d9], [.int ((nI 9) + a5), .ref a0, .int (nI 0), .ref (hN h), .ref (hN h), .int a5, .ref (hR h a1 15)], h12) (rfl) ?_
    obtain ⟨h13, r14, eh13, e⟩ := bn_some e
    refine eb_c rfl (f_Law_cell_ev d (Nat.le_trans (by decide) hd) eh13) ?_
    show Eb _ 2 (237, [.ref a0, .ref a1, .int a2, .int a3, .int a4, .int a5, d6, d7, d8, d9], [.int r14, .int (nI 0), .ref (hN h), .ref (hN h), .int a5, .ref (hR h a1 15)], h13) _ _
    refine eb_n 1 (238, [.ref a0, .ref a1, .int a2, .int a3, .int a4, .int a5, d6, d7, d8, d9], [.int a2, .int r14, .int (nI 0), .ref (hN h), .ref (hN h), .int a5, .ref (hR h a1 15)], h13) (rfl) ?_
    obtain ⟨h15, r16, eh15, e⟩ := bn_some e
    refine eb_c rfl (f_Law_below_ev d (Nat.le_trans (by decide) hd) eh15) ?_
    show Eb _ 2 (241, [.ref a0, .ref a1, .int a2, .int a3, .int a4, .int a5, d6, d7, d8, d9], [.int r16, .int (nI 0), .ref (hN h), .ref (hN h), .int a5, .ref (hR h a1 15)], h15) _ _
    obtain ⟨g17, e⟩ := gd_some e
    obtain ⟨h18, eh18, e⟩ := lq_some e
    refine eb_g (p := hT h15 (hN h) = 101 ∧ inb (nI 0) (hL h15 (hN h))) (242, [.ref a0, .ref a1, .int a2, .int a3, .int a4, .int a5, d6, d7, d8, d9], [.ref (hN h), .int a5, .ref (hR h a1 15)], h18) (by rw [eh18]; rfl) g17 ?_
    refine eb_n 6 (250, [.ref a0, .ref a1, .int a2, .int a3, .int a4, .int a5, d6, d7, d8, d9], [.int ((nI 9) + a5), .ref a0, .int (nI 1), .ref (hN h), .ref (hN h), .int a5, .ref (hR h a1 15)], h18) (rfl) ?_
    obtain ⟨h19, r20, eh19, e⟩ := bn_some e
    refine eb_c rfl (f_Law_cell_ev d (Nat.le_trans (by decide) hd) eh19) ?_
    show Eb _ 2 (253, [.ref a0, .ref a1, .int a2, .int a3, .int a4, .int a5, d6, d7, d8, d9], [.int r20, .int (nI 1), .ref (hN h), .ref (hN h), .int a5, .ref (hR h a1 15)], h19) _ _
    refine eb_n 3 (256, [.ref a0, .ref a1, .int a2, .int a3, .int a4, .int a5, d6, d7, d8, d9], [.int a3, .int (r20 >>> ((nI 2) &&& 31)), .int (nI 1), .ref (hN h), .ref (hN h), .int a5, .ref (hR h a1 15)], h19) (rfl) ?_
    obtain ⟨h21, r22, eh21, e⟩ := bn_some e
    refine eb_c rfl (f_Law_below_ev d (Nat.le_trans (by decide) hd) eh21) ?_
    show Eb _ 2 (259, [.ref a0, .ref a1, .int a2, .int a3, .int a4, .int a5, d6, d7, d8, d9], [.int r22, .int (nI 1), .ref (hN h), .ref (hN h), .int a5, .ref (hR h a1 15)], h21) _ _
    obtain ⟨g23, e⟩ := gd_some e
    obtain ⟨h24, eh24, e⟩ := lq_some e
    refine eb_g (p := hT h21 (hN h) = 101 ∧ inb (nI 1) (hL h21 (hN h))) (260, [.ref a0, .ref a1, .int a2, .int a3, .int a4, .int a5, d6, d7, d8, d9], [.ref (hN h), .int a5, .ref (hR h a1 15)], h24) (by rw [eh24]; rfl) g23 ?_
    refine eb_n 7 (269, [.ref a0, .ref a1, .int a2, .int a3, .int a4, .int a5, d6, d7, d8, d9], [.int ((nI 9) + a5), .ref a0, .int (nI 1), .int (nI 2), .ref (hN h), .ref (hN h), .int a5, .ref (hR h a1 15)], h24) (rfl) ?_
    obtain ⟨h25, r26, eh25, e⟩ := bn_some e
    refine eb_c rfl (f_Law_cell_ev d (Nat.le_trans (by decide) hd) eh25) ?_
    show Eb _ 2 (272, [.ref a0, .ref a1, .int a2, .int a3, .int a4, .int a5, d6, d7, d8, d9], [.int r26, .int (nI 1), .int (nI 2), .ref (hN h), .ref (hN h), .int a5, .ref (hR h a1 15)], h25) _ _
    refine eb_n 3 (276, [.ref a0, .ref a1, .int a2, .int a3, .int a4, .int a5, d6, d7, d8, d9], [.int (nI 9), .int (r26 >>> ((nI 3) &&& 31)), .int (nI 1), .int (nI 2), .ref (hN h), .ref (hN h), .int a5, .ref (hR h a1 15)], h25) (rfl) ?_
    obtain ⟨h27, r28, eh27, e⟩ := bn_some e
    refine eb_c rfl (f_Law_below_ev d (Nat.le_trans (by decide) hd) eh27) ?_
    show Eb _ 2 (279, [.ref a0, .ref a1, .int a2, .int a3, .int a4, .int a5, d6, d7, d8, d9], [.int r28, .int (nI 1), .int (nI 2), .ref (hN h), .ref (hN h), .int a5, .ref (hR h a1 15)], h27) _ _
    refine eb_n 1 (280, [.ref a0, .ref a1, .int a2, .int a3, .int a4, .int a5, d6, d7, d8, d9], [.int ((nI 1) + r28), .int (nI 2), .ref (hN h), .ref (hN h), .int a5, .ref (hR h a1 15)], h27) (rfl) ?_
    obtain ⟨g29, e⟩ := gd_some e
    obtain ⟨h30, eh30, e⟩ := lq_some e
    refine eb_g (p := hT h27 (hN h) = 101 ∧ inb (nI 2) (hL h27 (hN h))) (281, [.ref a0, .ref a1, .int a2, .int a3, .int a4, .int a5, d6, d7, d8, d9], [.ref (hN h), .int a5, .ref (hR h a1 15)], h30) (by rw [eh30]; rfl) g29 ?_
    refine eb_n 3 (285, [.ref a0, .ref a1, .int a2, .int a3, .int a4, .int a5, d6, d7, d8, d9], [.int (nI 20), .int (nI 3), .ref (hN h), .ref (hN h), .int a5, .ref (hR h a1 15)], h30) (rfl) ?_
    obtain ⟨g31, e⟩ := gd_some e
    obtain ⟨h32, eh32, e⟩ := lq_some e
    refine eb_g (p := hT h30 (hN h) = 101 ∧ inb (nI 3) (hL h30 (hN h))) (286, [.ref a0, .ref a1, .int a2, .int a3, .int a4, .int a5, d6, d7, d8, d9], [.ref (hN h), .int a5, .ref (hR h a1 15)], h32) (by rw [eh32]; rfl) g31 ?_
    refine eb_n 3 (289, [.ref a0, .ref a1, .int a2, .int a3, .int a4, .int a5, d6, d7, d8, d9], [.int (nI 0), .int (nI 4), .ref (hN h), .ref (hN h), .int a5, .ref (hR h a1 15)], h32) (rfl) ?_
    obtain ⟨g33, e⟩ := gd_some e
    obtain ⟨h34, eh34, e⟩ := lq_some e
    refine eb_g (p := hT h32 (hN h) = 101 ∧ inb (nI 4) (hL h32 (hN h))) (290, [.ref a0, .ref a1, .int a2, .int a3, .int a4, .int a5, d6, d7, d8, d9], [.ref (hN h), .int a5, .ref (hR h a1 15)], h34) (by rw [eh34]; rfl) g33 ?_
    refine eb_n 3 (293, [.ref a0, .ref a1, .int a2, .int a3, .int a4, .int a5, d6, d7, d8, d9], [.int (nI 0), .int (nI 5), .ref (hN h), .ref (hN h), .int a5, .ref (hR h a1 15)], h34) (rfl) ?_
    obtain ⟨g35, e⟩ := gd_some e
    obtain ⟨h36, eh36, e⟩ := lq_some e
    refine eb_g (p := hT h34 (hN h) = 101 ∧ inb (nI 5) (hL h34 (hN h))) (294, [.ref a0, .ref a1, .int a2, .int a3, .int a4, .int a5, d6, d7, d8, d9], [.ref (hN h), .int a5, .ref (hR h a1 15)], h36) (by rw [eh36]; rfl) g35 ?_
    refine eb_n 3 (298, [.ref a0, .ref a1, .int a2, .int a3, .int a4, .int a5, d6, d7, d8, d9], [.int (nI 0), .int (nI 6), .ref (hN h), .ref (hN h), .int a5, .ref (hR h a1 15)], h36) (rfl) ?_
    obtain ⟨g37, e⟩ := gd_some e
    obtain ⟨h38, eh38, e⟩ := lq_some e
    refine eb_g (p := hT h36 (hN h) = 101 ∧ inb (nI 6) (hL h36 (hN h))) (299, [.ref a0, .ref a1, .int a2, .int a3, .int a4, .int a5, d6, d7, d8, d9], [.ref (hN h), .int a5, .ref (hR h a1 15)], h38) (by rw [eh38]; rfl) g37 ?_
    obtain ⟨g39, e⟩ := gd_some e
    obtain ⟨h40, eh40, e⟩ := lq_some e
    refine eb_g (p := hT h38 (hR h a1 15) = 109 ∧ inb a5 (hL h38 (hR h a1 15)) ∧ hT h38 (hN h) = 101) (300, [.ref a0, .ref a1, .int a2, .int a3, .int a4, .int a5, d6, d7, d8, d9], [], h40) (by rw [eh40]; rfl) g39 ?_
    obtain ⟨x41, hx41, e⟩ := lq_some e
    refine eb_n 1 (303, [.ref a0, .ref a1, .int a2, .int a3, .int a4, .int x41, d6, d7, d8, d9], [], h40) (by subst hx41; rfl) ?_
    refine eb_n 1 (209, [.ref a0, .ref a1, .int a2, .int a3, .int a4, .int x41, d6, d7, d8, d9], [], h40) (rfl) ?_
    exact hk209 _ _ _ _ _ _ _ _ _ _ _ e
set_option maxRecDepth 100000 in
set_option maxHeartbeats 4000000 in
theorem f_Law_chosen_l209_ev {h' : AH} {r : Nat} (d : Nat) (hd : 1 ≤ d)  : ∀ (n : Nat) (h : AH) (a0 : Nat) (a1 : Nat) (a2 : Int32) (a3 : Int32) (a4 : Int32) (a5 : Int32)  (d6 : Value) (d7 : Value) (d8 : Value) (d9 : Value) (_ : f_Law_chosen_l209  n h a0 a1 a2 a3 a4 a5 = some (h', r)), Eb (Ev tb mL d) 2 (209, [.ref a0, .ref a1, .int a2, .int a3, .int a4, .int a5, d6, d7, d8, d9], [], h) h' (some (.ref r)) := by
  intro n
  induction n with
  | zero => intro h a0 a1 a2 a3 a4 a5 d6 d7 d8 d9 e; exact nomatch e
  | succ n ih =>
    intro h a0 a1 a2 a3 a4 a5 d6 d7 d8 d9 e
    exact f_Law_chosen_b209_ev d hd _ (fun h a0 a1 a2 a3 a4 a5 d6 d7 d8 d9 e => ih h a0 a1 a2 a3 a4 a5 d6 d7 d8 d9 e) h a0 a1 a2 a3 a4 a5 d6 d7 d8 d9 e
set_option maxRecDepth 100000 in
set_option maxHeartbeats 4000000 in
theorem f_Law_chosen_b149_ev {h' : AH} {r : Nat} (d : Nat) (hd : 1 ≤ d) (k149 : AH → Nat → Nat → Int32 → Int32 → Int32 → Option (AH × Nat)) (hk149 : ∀ (h : AH) (a0 : Nat) (a1 : Nat) (a2 : Int32) (a3 : Int32) (a4 : Int32)  (d5 : Value) (d6 : Value) (d7 : Value) (d8 : Value) (d9 : Value), k149 h a0 a1 a2 a3 a4 = some (h', r) → Eb (Ev tb mL d) 2 (149, [.ref a0, .ref a1, .int a2, .int a3, .int a4, d5, d6, d7, d8, d9], [], h) h' (some (.ref r)))  (h : AH) (a0 : Nat) (a1 : Nat) (a2 : Int32) (a3 : Int32) (a4 : Int32)  (d5 : Value) (d6 : Value) (d7 : Value) (d8 : Value) (d9 : Value) (e : f_Law_chosen_b149 k149 h a0 a1 a2 a3 a4 = some (h', r)) : Eb (Ev tb mL d) 2 (149, [.ref a0, .ref a1, .int a2, .int a3, .int a4, d5, d6, d7, d8, d9], [], h) h' (some (.ref r)) := by
  unfold f_Law_chosen_b149 at e
  refine eb_n 2 (152, [.ref a0, .ref a1, .int a2, .int a3, .int a4, d5, d6, d7, d8, d9], [.int a3, .int a4], h) (rfl) ?_
  refine eb_b (c := a3 ≤ a4) (183, [.ref a0, .ref a1, .int a2, .int a3, .int a4, d5, d6, d7, d8, d9], [], h) (155, [.ref a0, .ref a1, .int a2, .int a3, .int a4, d5, d6, d7, d8, d9], [], h) rfl (fun c1 => ?_) (fun c1 => ?_)
  · replace e := ite_t c1 e
    refine eb_n 3 (187, [.ref a0, .ref a1, .int a2, .int a3, .int a4, d5, d6, d7, d8, d9], [.int (nI 8), .ref a0, .int (nI 1)], h) (rfl) ?_
    obtain ⟨h2, r3, eh2, e⟩ := bn_some e
    refine eb_c rfl (f_Law_cell_ev d (Nat.le_trans (by decide) hd) eh2) ?_
    show Eb _ 2 (190, [.ref a0, .ref a1, .int a2, .int a3, .int a4, d5, d6, d7, d8, d9], [.int r3, .int (nI 1)], h2) _ _
    refine eb_n 1 (191, [.ref a0, .ref a1, .int a2, .int a3, .int a4, d5, d6, d7, d8, d9], [.int (nI 4), .int r3, .int (nI 1)], h2) (rfl) ?_
    obtain ⟨h4, r5, eh4, e⟩ := bn_some e
    refine eb_c rfl (f_Law_below_ev d (Nat.le_trans (by decide) hd) eh4) ?_
    show Eb _ 2 (194, [.ref a0, .ref a1, .int a2, .int a3, .int a4, d5, d6, d7, d8, d9], [.int r5, .int (nI 1)], h4) _ _
    obtain ⟨x6, hx6, e⟩ := lq_some e
    refine eb_n 2 (197, [.ref a0, .ref a1, .int a2, .int a3, .int x6, d5, d6, d7, d8, d9], [], h4) (by subst hx6; rfl) ?_
    refine eb_n 2 (200, [.ref a0, .ref a1, .int a2, .int a3, .int x6, d5, d6, d7, d8, d9], [.int x6, .ref a1], h4) (rfl) ?_
    obtain ⟨g7, e⟩ := gd_some e
    obtain ⟨h8, eh8, e⟩ := lq_some e
    refine eb_g (p := ¬ x6 < 0 ∧ ix x6 ≤ 65536) (203, [.ref a0, .ref a1, .int a2, .int a3, .int x6, d5, d6, d7, d8, d9], [.ref (hN h4), .ref a1], h8) (by rw [eh8]; rfl) g7 ?_
    obtain ⟨g9, e⟩ := gd_some e
    obtain ⟨h10, eh10, e⟩ := lq_some e
    refine eb_g (p := hT h8 a1 = 13) (206, [.ref a0, .ref a1, .int a2, .int a3, .int x6, d5, d6, d7, d8, d9], [], h10) (by rw [eh10]; rfl) g9 ?_
    refine eb_n 2 (209, [.ref a0, .ref a1, .int a2, .int a3, .int x6, .int (nI 0), d6, d7, d8, d9], [], h10) (rfl) ?_
    exact f_Law_chosen_l209_ev d hd   FU _ _ _ _ _ _ _ _ _ _ _ e
  · replace e := ite_f c1 e
    refine eb_n 1 (156, [.ref a0, .ref a1, .int a2, .int a3, .int a4, d5, d6, d7, d8, d9], [.ref a1], h) (rfl) ?_
    obtain ⟨g11, e⟩ := gd_some e
    refine eb_g (p := hT h a1 = 13) (159, [.ref a0, .ref a1, .int a2, .int a3, .int a4, d5, d6, d7, d8, d9], [.ref (hR h a1 13)], h) rfl g11 ?_
    refine eb_n 6 (167, [.ref a0, .ref a1, .int a2, .int a3, .int a4, d5, d6, d7, d8, d9], [.int ((nI 5) + a4), .ref a0, .int (nI 1), .int a4, .ref (hR h a1 13)], h) (rfl) ?_
    obtain ⟨h12, r13, eh12, e⟩ := bn_some e
    refine eb_c rfl (f_Law_cell_ev d (Nat.le_trans (by decide) hd) eh12) ?_
    show Eb _ 2 (170, [.ref a0, .ref a1, .int a2, .int a3, .int a4, d5, d6, d7, d8, d9], [.int r13, .int (nI 1), .int a4, .ref (hR h a1 13)], h12) _ _
    refine eb_n 1 (172, [.ref a0, .ref a1, .int a2, .int a3, .int a4, d5, d6, d7, d8, d9], [.int (nI 60), .int r13, .int (nI 1), .int a4, .ref (hR h a1 13)], h12) (rfl) ?_
    obtain ⟨h14, r15, eh14, e⟩ := bn_some e
    refine eb_c rfl (f_Law_below_ev d (Nat.le_trans (by decide) hd) eh14) ?_
    show Eb _ 2 (175, [.ref a0, .ref a1, .int a2, .int a3, .int a4, d5, d6, d7, d8, d9], [.int r15, .int (nI 1), .int a4, .ref (hR h a1 13)], h14) _ _
    refine eb_n 1 (176, [.ref a0, .ref a1, .int a2, .int a3, .int a4, d5, d6, d7, d8, d9], [.int ((nI 1) + r15), .int a4, .ref (hR h a1 13)], h14) (rfl) ?_
    obtain ⟨g16, e⟩ := gd_some e
    obtain ⟨h17, eh17, e⟩ := lq_some e
    refine eb_g (p := hT h14 (hR h a1 13) = 101 ∧ inb a4 (hL h14 (hR h a1 13))) (177, [.ref a0, .ref a1, .int a2, .int a3, .int a4, d5, d6, d7, d8, d9], [], h17) (by rw [eh17]; rfl) g16 ?_
    obtain ⟨x18, hx18, e⟩ := lq_some e
    refine eb_n 1 (180, [.ref a0, .ref a1, .int a2, .int a3, .int x18, d5, d6, d7, d8, d9], [], h17) (by subst hx18; rfl) ?_
    refine eb_n 1 (149, [.ref a0, .ref a1, .int a2, .int a3, .int x18, d5, d6, d7, d8, d9], [], h17) (rfl) ?_
    exact hk149 _ _ _ _ _ _ _ _ _ _ _ e
set_option maxRecDepth 100000 in
set_option maxHeartbeats 4000000 in
theorem f_Law_chosen_l149_ev {h' : AH} {r : Nat} (d : Nat) (hd : 1 ≤ d)  : ∀ (n : Nat) (h : AH) (a0 : Nat) (a1 : Nat) (a2 : Int32) (a3 : Int32) (a4 : Int32)  (d5 : Value) (d6 : Value) (d7 : Value) (d8 : Value) (d9 : Value) (_ : f_Law_chosen_l149  n h a0 a1 a2 a3 a4 = some (h', r)), Eb (Ev tb mL d) 2 (149, [.ref a0, .ref a1, .int a2, .int a3, .int a4, d5, d6, d7, d8, d9], [], h) h' (some (.ref r)) := by
  intro n
  induction n with
  | zero => intro h a0 a1 a2 a3 a4 d5 d6 d7 d8 d9 e; exact nomatch e
  | succ n ih =>
    intro h a0 a1 a2 a3 a4 d5 d6 d7 d8 d9 e
    exact f_Law_chosen_b149_ev d hd _ (fun h a0 a1 a2 a3 a4 d5 d6 d7 d8 d9 e => ih h a0 a1 a2 a3 a4 d5 d6 d7 d8 d9 e) h a0 a1 a2 a3 a4 d5 d6 d7 d8 d9 e
set_option maxRecDepth 100000 in
set_option maxHeartbeats 4000000 in
theorem f_Law_chosen_b105_ev {h' : AH} {r : Nat} (d : Nat) (hd : 1 ≤ d) (k30 : AH → Nat → Nat → Int32 → Int32 → Option (AH × Nat)) (hk30 : ∀ (h : AH) (a0 : Nat) (a1 : Nat) (a2 : Int32) (a3 : Int32)  (d4 : Value) (d5 : Value) (d6 : Value) (d7 : Value) (d8 : Value) (d9 : Value), k30 h a0 a1 a2 a3 = some (h', r) → Eb (Ev tb mL d) 2 (30, [.ref a0, .ref a1, .int a2, .int a3, d4, d5, d6, d7, d8, d9], [], h) h' (some (.ref r)))  (h : AH) (a0 : Nat) (a1 : Nat) (a2 : Int32) (a3 : Int32) (s0 : Nat) (s1 : Int32) (s2 : Nat) (s3 : Nat) (s4 : Int32) (s5 : Int32) (s6 : Int32) (s7 : Int32) (d4 : Value) (d5 : Value) (d6 : Value) (d7 : Value) (d8 : Value) (d9 : Value) (e : f_Law_chosen_b105 k30 h a0 a1 a2 a3 s0 s1 s2 s3 s4 s5 s6 s7 = some (h', r)) : Eb (Ev tb mL d) 2 (105, [.ref a0, .ref a1, .int a2, .int a3, d4, d5, d6, d7, d8, d9], [.int s7, .int s6, .int s5, .int s4, .ref s3, .ref s2, .int s1, .ref s0], h) h' (some (.ref r)) := by
  unfold f_Law_chosen_b105 at e
  obtain ⟨h1, r2, eh1, e⟩ := bn_some e
  refine eb_c rfl (f_Law_below_ev d (Nat.le_trans (by decide) hd) eh1) ?_
  show Eb _ 2 (108, [.ref a0, .ref a1, .int a2, .int a3, d4, d5, d6, d7, d8, d9], [.int r2, .int s5, .int s4, .ref s3, .ref s2, .int s1, .ref s0], h1) _ _
  refine eb_n 1 (109, [.ref a0, .ref a1, .int a2, .int a3, d4, d5, d6, d7, d8, d9], [.int (s5 + r2), .int s4, .ref s3, .ref s2, .int s1, .ref s0], h1) (rfl) ?_
  obtain ⟨g3, e⟩ := gd_some e
  obtain ⟨h4, eh4, e⟩ := lq_some e
  refine eb_g (p := hT h1 s3 = 101 ∧ inb s4 (hL h1 s3)) (110, [.ref a0, .ref a1, .int a2, .int a3, d4, d5, d6, d7, d8, d9], [.ref s2, .int s1, .ref s0], h4) (by rw [eh4]; rfl) g3 ?_
  obtain ⟨g5, e⟩ := gd_some e
  obtain ⟨h6, eh6, e⟩ := lq_some e
  refine eb_g (p := hT h4 s0 = 109 ∧ inb s1 (hL h4 s0) ∧ hT h4 s2 = 101) (111, [.ref a0, .ref a1, .int a2, .int a3, d4, d5, d6, d7, d8, d9], [], h6) (by rw [eh6]; rfl) g5 ?_
  obtain ⟨x7, hx7, e⟩ := lq_some e
  refine eb_n 1 (114, [.ref a0, .ref a1, .int a2, .int x7, d4, d5, d6, d7, d8, d9], [], h6) (by subst hx7; rfl) ?_
  refine eb_n 1 (30, [.ref a0, .ref a1, .int a2, .int x7, d4, d5, d6, d7, d8, d9], [], h6) (rfl) ?_
  exact hk30 _ _ _ _ _ _ _ _ _ _ _ e
set_option maxRecDepth 100000 in
set_option maxHeartbeats 4000000 in
theorem f_Law_chosen_b30_ev {h' : AH} {r : Nat} (d : Nat) (hd : 1 ≤ d) (k30 : AH → Nat → Nat → Int32 → Int32 → Option (AH × Nat)) (hk30 : ∀ (h : AH) (a0 : Nat) (a1 : Nat) (a2 : Int32) (a3 : Int32)  (d4 : Value) (d5 : Value) (d6 : Value) (d7 : Value) (d8 : Value) (d9 : Value), k30 h a0 a1 a2 a3 = some (h', r) → Eb (Ev tb mL d) 2 (30, [.ref a0, .ref a1, .int a2, .int a3, d4, d5, d6, d7, d8, d9], [], h) h' (some (.ref r)))  (h : AH) (a0 : Nat) (a1 : Nat) (a2 : Int32) (a3 : Int32)  (d4 : Value) (d5 : Value) (d6 : Value) (d7 : Value) (d8 : Value) (d9 : Value) (e : f_Law_chosen_b30 k30 h a0 a1 a2 a3 = some (h', r)) : Eb (Ev tb mL d) 2 (30, [.ref a0, .ref a1, .int a2, .int a3, d4, d5, d6, d7, d8, d9], [], h) h' (some (.ref r)) := by
  unfold f_Law_chosen_b30 at e
  refine eb_n 2 (32, [.ref a0, .ref a1, .int a2, .int a3, d4, d5, d6, d7, d8, d9], [.int a2, .int a3], h) (rfl) ?_
  refine eb_b (c := a2 ≤ a3) (117, [.ref a0, .ref a1, .int a2, .int a3, d4, d5, d6, d7, d8, d9], [], h) (35, [.ref a0, .ref a1, .int a2, .int a3, d4, d5, d6, d7, d8, d9], [], h) rfl (fun c1 => ?_) (fun c1 => ?_)
  · replace e := ite_t c1 e
    refine eb_n 3 (120, [.ref a0, .ref a1, .int a2, .int a3, d4, d5, d6, d7, d8, d9], [.int (nI 4), .ref a0, .int (nI 1)], h) (rfl) ?_
    obtain ⟨h2, r3, eh2, e⟩ := bn_some e
    refine eb_c rfl (f_Law_cell_ev d (Nat.le_trans (by decide) hd) eh2) ?_
    show Eb _ 2 (123, [.ref a0, .ref a1, .int a2, .int a3, d4, d5, d6, d7, d8, d9], [.int r3, .int (nI 1)], h2) _ _
    refine eb_n 1 (124, [.ref a0, .ref a1, .int a2, .int a3, d4, d5, d6, d7, d8, d9], [.int (nI 3), .int r3, .int (nI 1)], h2) (rfl) ?_
    obtain ⟨h4, r5, eh4, e⟩ := bn_some e
    refine eb_c rfl (f_Law_below_ev d (Nat.le_trans (by decide) hd) eh4) ?_
    show Eb _ 2 (127, [.ref a0, .ref a1, .int a2, .int a3, d4, d5, d6, d7, d8, d9], [.int r5, .int (nI 1)], h4) _ _
    obtain ⟨x6, hx6, e⟩ := lq_some e
    refine eb_n 2 (129, [.ref a0, .ref a1, .int a2, .int x6, d4, d5, d6, d7, d8, d9], [], h4) (by subst hx6; rfl) ?_
    refine eb_n 2 (131, [.ref a0, .ref a1, .int a2, .int x6, d4, d5, d6, d7, d8, d9], [.int x6, .ref a1], h4) (rfl) ?_
    obtain ⟨g7, e⟩ := gd_some e
    obtain ⟨h8, eh8, e⟩ := lq_some e
    refine eb_g (p := ¬ x6 < 0 ∧ ix x6 ≤ 65536) (133, [.ref a0, .ref a1, .int a2, .int x6, d4, d5, d6, d7, d8, d9], [.ref (hN h4), .ref a1], h8) (by rw [eh8]; rfl) g7 ?_
    obtain ⟨g9, e⟩ := gd_some e
    obtain ⟨h10, eh10, e⟩ := lq_some e
    refine eb_g (p := hT h8 a1 = 13) (136, [.ref a0, .ref a1, .int a2, .int x6, d4, d5, d6, d7, d8, d9], [], h10) (by rw [eh10]; rfl) g9 ?_
    refine eb_n 3 (139, [.ref a0, .ref a1, .int a2, .int x6, d4, d5, d6, d7, d8, d9], [.int (nI 0), .int x6, .ref a1], h10) (rfl) ?_
    obtain ⟨g11, e⟩ := gd_some e
    obtain ⟨h12, eh12, e⟩ := lq_some e
    refine eb_g (p := (nI 0) = 0 ∧ ¬ x6 < 0 ∧ ix x6 ≤ 64) (143, [.ref a0, .ref a1, .int a2, .int x6, d4, d5, d6, d7, d8, d9], [.ref (hN h10), .ref a1], h12) (by rw [eh12]; rfl) g11 ?_
    obtain ⟨g13, e⟩ := gd_some e
    obtain ⟨h14, eh14, e⟩ := lq_some e
    refine eb_g (p := hT h12 a1 = 13) (146, [.ref a0, .ref a1, .int a2, .int x6, d4, d5, d6, d7, d8, d9], [], h14) (by rw [eh14]; rfl) g13 ?_
    refine eb_n 2 (149, [.ref a0, .ref a1, .int a2, .int x6, .int (nI 0), d5, d6, d7, d8, d9], [], h14) (rfl) ?_
    exact f_Law_chosen_l149_ev d hd   FU _ _ _ _ _ _ _ _ _ _ _ e
  · replace e := ite_f c1 e
    refine eb_n 1 (36, [.ref a0, .ref a1, .int a2, .int a3, d4, d5, d6, d7, d8, d9], [.ref a1], h) (rfl) ?_
    obtain ⟨g15, e⟩ := gd_some e
    refine eb_g (p := hT h a1 = 13) (39, [.ref a0, .ref a1, .int a2, .int a3, d4, d5, d6, d7, d8, d9], [.ref (hR h a1 12)], h) rfl g15 ?_
    refine eb_n 2 (41, [.ref a0, .ref a1, .int a2, .int a3, d4, d5, d6, d7, d8, d9], [.int (nI 3), .int a3, .ref (hR h a1 12)], h) (rfl) ?_
    obtain ⟨h16, eh16, e⟩ := lq_some e
    refine eb_g (p := ¬ (nI 3) < 0 ∧ ix (nI 3) ≤ 65536) (43, [.ref a0, .ref a1, .int a2, .int a3, d4, d5, d6, d7, d8, d9], [.ref (hN h), .int a3, .ref (hR h a1 12)], h16) (by rw [eh16]; rfl) (by decide) ?_
    refine eb_n 6 (49, [.ref a0, .ref a1, .int a2, .int a3, d4, d5, d6, d7, d8, d9], [.int ((nI 1) + a3), .ref a0, .int (nI 0), .ref (hN h), .ref (hN h), .int a3, .ref (hR h a1 12)], h16) (rfl) ?_
    obtain ⟨h17, r18, eh17, e⟩ := bn_some e
    refine eb_c rfl (f_Law_cell_ev d (Nat.le_trans (by decide) hd) eh17) ?_
    show Eb _ 2 (52, [.ref a0, .ref a1, .int a2, .int a3, d4, d5, d6, d7, d8, d9], [.int r18, .int (nI 0), .ref (hN h), .ref (hN h), .int a3, .ref (hR h a1 12)], h17) _ _
    refine eb_n 1 (54, [.ref a0, .ref a1, .int a2, .int a3, d4, d5, d6, d7, d8, d9], [.int (nI 100), .int r18, .int (nI 0), .ref (hN h), .ref (hN h), .int a3, .ref (hR h a1 12)], h17) (rfl) ?_
    obtain ⟨h19, r20, eh19, e⟩ := bn_some e
    refine eb_c rfl (f_Law_below_ev d (Nat.le_trans (by decide) hd) eh19) ?_
    show Eb _ 2 (57, [.ref a0, .ref a1, .int a2, .int a3, d4, d5, d6, d7, d8, d9], [.int r20, .int (nI 0), .ref (hN h), .ref (hN h), .int a3, .ref (hR h a1 12)], h19) _ _
    obtain ⟨g21, e⟩ := gd_some e
    obtain ⟨h22, eh22, e⟩ := lq_some e
    refine eb_g (p := hT h19 (hN h) = 101 ∧ inb (nI 0) (hL h19 (hN h))) (58, [.ref a0, .ref a1, .int a2, .int a3, d4, d5, d6, d7, d8, d9], [.ref (hN h), .int a3, .ref (hR h a1 12)], h22) (by rw [eh22]; rfl) g21 ?_
    refine eb_n 6 (64, [.ref a0, .ref a1, .int a2, .int a3, d4, d5, d6, d7, d8, d9], [.int ((nI 1) + a3), .ref a0, .int (nI 1), .ref (hN h), .ref (hN h), .int a3, .ref (hR h a1 12)], h22) (rfl) ?_
    obtain ⟨h23, r24, eh23, e⟩ := bn_some e
    refine eb_c rfl (f_Law_cell_ev d (Nat.le_trans (by decide) hd) eh23) ?_
    show Eb _ 2 (67, [.ref a0, .ref a1, .int a2, .int a3, d4, d5, d6, d7, d8, d9], [.int r24, .int (nI 1), .ref (hN h), .ref (hN h), .int a3, .ref (hR h a1 12)], h23) _ _
    refine eb_n 3 (71, [.ref a0, .ref a1, .int a2, .int a3, d4, d5, d6, d7, d8, d9], [.int (nI 21), .int (r24 >>> ((nI 2) &&& 31)), .int (nI 1), .ref (hN h), .ref (hN h), .int a3, .ref (hR h a1 12)], h23) (rfl) ?_
    obtain ⟨h25, r26, eh25, e⟩ := bn_some e
    refine eb_c rfl (f_Law_below_ev d (Nat.le_trans (by decide) hd) eh25) ?_
    show Eb _ 2 (74, [.ref a0, .ref a1, .int a2, .int a3, d4, d5, d6, d7, d8, d9], [.int r26, .int (nI 1), .ref (hN h), .ref (hN h), .int a3, .ref (hR h a1 12)], h25) _ _
    obtain ⟨g27, e⟩ := gd_some e
    obtain ⟨h28, eh28, e⟩ := lq_some e
    refine eb_g (p := hT h25 (hN h) = 101 ∧ inb (nI 1) (hL h25 (hN h))) (75, [.ref a0, .ref a1, .int a2, .int a3, d4, d5, d6, d7, d8, d9], [.ref (hN h), .int a3, .ref (hR h a1 12)], h28) (by rw [eh28]; rfl) g27 ?_
    refine eb_n 7 (82, [.ref a0, .ref a1, .int a2, .int a3, d4, d5, d6, d7, d8, d9], [.int ((nI 1) + a3), .ref a0, .int (nI 1), .int (nI 2), .ref (hN h), .ref (hN h), .int a3, .ref (hR h a1 12)], h28) (rfl) ?_
    obtain ⟨h29, r30, eh29, e⟩ := bn_some e
    refine eb_c rfl (f_Law_cell_ev d (Nat.le_trans (by decide) hd) eh29) ?_
    show Eb _ 2 (85, [.ref a0, .ref a1, .int a2, .int a3, d4, d5, d6, d7, d8, d9], [.int r30, .int (nI 1), .int (nI 2), .ref (hN h), .ref (hN h), .int a3, .ref (hR h a1 12)], h29) _ _
    refine eb_n 4 (89, [.ref a0, .ref a1, .int a2, .int a3, d4, d5, d6, d7, d8, d9], [.int (nI 2), .ref a0, .int (r30 >>> ((nI 4) &&& 31)), .int (nI 1), .int (nI 2), .ref (hN h), .ref (hN h), .int a3, .ref (hR h a1 12)], h29) (rfl) ?_
    obtain ⟨h31, r32, eh31, e⟩ := bn_some e
    refine eb_c rfl (f_Law_cell_ev d (Nat.le_trans (by decide) hd) eh31) ?_
    show Eb _ 2 (92, [.ref a0, .ref a1, .int a2, .int a3, d4, d5, d6, d7, d8, d9], [.int r32, .int (r30 >>> ((nI 4) &&& 31)), .int (nI 1), .int (nI 2), .ref (hN h), .ref (hN h), .int a3, .ref (hR h a1 12)], h31) _ _
    refine eb_n 1 (93, [.ref a0, .ref a1, .int a2, .int a3, d4, d5, d6, d7, d8, d9], [.int (nI 2), .int r32, .int (r30 >>> ((nI 4) &&& 31)), .int (nI 1), .int (nI 2), .ref (hN h), .ref (hN h), .int a3, .ref (hR h a1 12)], h31) (rfl) ?_
    obtain ⟨h33, r34, eh33, e⟩ := bn_some e
    refine eb_c rfl (f_Law_below_ev d (Nat.le_trans (by decide) hd) eh33) ?_
    show Eb _ 2 (96, [.ref a0, .ref a1, .int a2, .int a3, d4, d5, d6, d7, d8, d9], [.int r34, .int (r30 >>> ((nI 4) &&& 31)), .int (nI 1), .int (nI 2), .ref (hN h), .ref (hN h), .int a3, .ref (hR h a1 12)], h33) _ _
    refine eb_b (c := ¬ r34 = 0) (104, [.ref a0, .ref a1, .int a2, .int a3, d4, d5, d6, d7, d8, d9], [.int (r30 >>> ((nI 4) &&& 31)), .int (nI 1), .int (nI 2), .ref (hN h), .ref (hN h), .int a3, .ref (hR h a1 12)], h33) (99, [.ref a0, .ref a1, .int a2, .int a3, d4, d5, d6, d7, d8, d9], [.int (r30 >>> ((nI 4) &&& 31)), .int (nI 1), .int (nI 2), .ref (hN h), .ref (hN h), .int a3, .ref (hR h a1 12)], h33) rfl (fun c35 => ?_) (fun c35 => ?_)
    · replace e := ite_t c35 e
      refine eb_n 1 (105, [.ref a0, .ref a1, .int a2, .int a3, d4, d5, d6, d7, d8, d9], [.int (nI 3), .int (r30 >>> ((nI 4) &&& 31)), .int (nI 1), .int (nI 2), .ref (hN h), .ref (hN h), .int a3, .ref (hR h a1 12)], h33) (rfl) ?_
      exact f_Law_chosen_b105_ev d hd k30 hk30 _ _ _ _ _ _ _ _ _ _ _ _ _ _ _ _ _ _ _ e
    · replace e := ite_f c35 e
      refine eb_n 2 (105, [.ref a0, .ref a1, .int a2, .int a3, d4, d5, d6, d7, d8, d9], [.int (nI 9), .int (r30 >>> ((nI 4) &&& 31)), .int (nI 1), .int (nI 2), .ref (hN h), .ref (hN h), .int a3, .ref (hR h a1 12)], h33) (rfl) ?_
      exact f_Law_chosen_b105_ev d hd k30 hk30 _ _ _ _ _ _ _ _ _ _ _ _ _ _ _ _ _ _ _ e
set_option maxRecDepth 100000 in
set_option maxHeartbeats 4000000 in
theorem f_Law_chosen_l30_ev {h' : AH} {r : Nat} (d : Nat) (hd : 1 ≤ d)  : ∀ (n : Nat) (h : AH) (a0 : Nat) (a1 : Nat) (a2 : Int32) (a3 : Int32)  (d4 : Value) (d5 : Value) (d6 : Value) (d7 : Value) (d8 : Value) (d9 : Value) (_ : f_Law_chosen_l30  n h a0 a1 a2 a3 = some (h', r)), Eb (Ev tb mL d) 2 (30, [.ref a0, .ref a1, .int a2, .int a3, d4, d5, d6, d7, d8, d9], [], h) h' (some (.ref r)) := by
  intro n
  induction n with
  | zero => intro h a0 a1 a2 a3 d4 d5 d6 d7 d8 d9 e; exact nomatch e
  | succ n ih =>
    intro h a0 a1 a2 a3 d4 d5 d6 d7 d8 d9 e
    exact f_Law_chosen_b30_ev d hd _ (fun h a0 a1 a2 a3 d4 d5 d6 d7 d8 d9 e => ih h a0 a1 a2 a3 d4 d5 d6 d7 d8 d9 e) h a0 a1 a2 a3 d4 d5 d6 d7 d8 d9 e
set_option maxRecDepth 100000 in
set_option maxHeartbeats 4000000 in
theorem f_Law_chosen_ev (d0 : Nat) (hd0 : 2 ≤ d0) {h' : AH} {r : Nat} {h : AH} {a0 : Nat} (e : f_Law_chosen h a0 = some (h', r)) : Ev tb mL d0 2 [.ref a0] h h' (some (.ref r)) := by
  obtain ⟨d, rfl⟩ : ∃ d, d0 = d + 1 := ⟨d0 - 1, by omega⟩
  have hd : 1 ≤ d := by omega
  refine ⟨Nat.le_of_ble_eq_true rfl, ?_⟩
  show Eb (Ev tb mL d) 2 (0, [.ref a0, .retAddr 0, .retAddr 0, .retAddr 0, .retAddr 0, .retAddr 0, .retAddr 0, .retAddr 0, .retAddr 0, .retAddr 0], [], h) h' (some (.ref r))
  unfold f_Law_chosen at e
  obtain ⟨h1, eh1, e⟩ := lq_some e
  refine eb_n 1 (3, [.ref a0, .retAddr 0, .retAddr 0, .retAddr 0, .retAddr 0, .retAddr 0, .retAddr 0, .retAddr 0, .retAddr 0, .retAddr 0], [.ref (hN h)], h1) (by rw [eh1]; rfl) ?_
  refine eb_n 1 (4, [.ref a0, .retAddr 0, .retAddr 0, .retAddr 0, .retAddr 0, .retAddr 0, .retAddr 0, .retAddr 0, .retAddr 0, .retAddr 0], [.ref (hN h), .ref (hN h)], h1) (rfl) ?_
  obtain ⟨g2, e⟩ := gd_some e
  obtain ⟨h3, eh3, e⟩ := bv_some e
  refine eb_cg (p := hT h1 (hN h) = 13) rfl g2 (f_Sim_init_ev d (Nat.le_trans (by decide) hd) eh3) ?_
  show Eb _ 2 (7, [.ref a0, .retAddr 0, .retAddr 0, .retAddr 0, .retAddr 0, .retAddr 0, .retAddr 0, .retAddr 0, .retAddr 0, .retAddr 0], [.ref (hN h)], h3) _ _
  obtain ⟨x4, hx4, e⟩ := lq_some e
  refine eb_n 1 (8, [.ref a0, .ref x4, .retAddr 0, .retAddr 0, .retAddr 0, .retAddr 0, .retAddr 0, .retAddr 0, .retAddr 0, .retAddr 0], [], h3) (by subst hx4; rfl) ?_
  refine eb_n 3 (11, [.ref a0, .ref x4, .retAddr 0, .retAddr 0, .retAddr 0, .retAddr 0, .retAddr 0, .retAddr 0, .retAddr 0, .retAddr 0], [.int (nI 0), .ref a0, .int (nI 1)], h3) (rfl) ?_
  obtain ⟨h5, r6, eh5, e⟩ := bn_some e
  refine eb_c rfl (f_Law_cell_ev d (Nat.le_trans (by decide) hd) eh5) ?_
  show Eb _ 2 (14, [.ref a0, .ref x4, .retAddr 0, .retAddr 0, .retAddr 0, .retAddr 0, .retAddr 0, .retAddr 0, .retAddr 0, .retAddr 0], [.int r6, .int (nI 1)], h5) _ _
  refine eb_n 1 (15, [.ref a0, .ref x4, .retAddr 0, .retAddr 0, .retAddr 0, .retAddr 0, .retAddr 0, .retAddr 0, .retAddr 0, .retAddr 0], [.int (nI 3), .int r6, .int (nI 1)], h5) (rfl) ?_
  obtain ⟨h7, r8, eh7, e⟩ := bn_some e
  refine eb_c rfl (f_Law_below_ev d (Nat.le_trans (by decide) hd) eh7) ?_
  show Eb _ 2 (18, [.ref a0, .ref x4, .retAddr 0, .retAddr 0, .retAddr 0, .retAddr 0, .retAddr 0, .retAddr 0, .retAddr 0, .retAddr 0], [.int r8, .int (nI 1)], h7) _ _
  obtain ⟨x9, hx9, e⟩ := lq_some e
  refine eb_n 2 (20, [.ref a0, .ref x4, .int x9, .retAddr 0, .retAddr 0, .retAddr 0, .retAddr 0, .retAddr 0, .retAddr 0, .retAddr 0], [], h7) (by subst hx9; rfl) ?_
  refine eb_n 2 (22, [.ref a0, .ref x4, .int x9, .retAddr 0, .retAddr 0, .retAddr 0, .retAddr 0, .retAddr 0, .retAddr 0, .retAddr 0], [.int x9, .ref x4], h7) (rfl) ?_
  obtain ⟨g10, e⟩ := gd_some e
  obtain ⟨h11, eh11, e⟩ := lq_some e
  refine eb_g (p := ¬ x9 < 0 ∧ ix x9 ≤ 65536) (25, [.ref a0, .ref x4, .int x9, .retAddr 0, .retAddr 0, .retAddr 0, .retAddr 0, .retAddr 0, .retAddr 0, .retAddr 0], [.ref (hN h7), .ref x4], h11) (by rw [eh11]; rfl) g10 ?_
  obtain ⟨g12, e⟩ := gd_some e
  obtain ⟨h13, eh13, e⟩ := lq_some e
  refine eb_g (p := hT h11 x4 = 13) (28, [.ref a0, .ref x4, .int x9, .retAddr 0, .retAddr 0, .retAddr 0, .retAddr 0, .retAddr 0, .retAddr 0, .retAddr 0], [], h13) (by rw [eh13]; rfl) g12 ?_
  refine eb_n 2 (30, [.ref a0, .ref x4, .int x9, .int (nI 0), .retAddr 0, .retAddr 0, .retAddr 0, .retAddr 0, .retAddr 0, .retAddr 0], [], h13) (rfl) ?_
  exact f_Law_chosen_l30_ev d hd   FU _ _ _ _ _ _ _ _ _ _ _ e
set_option maxRecDepth 100000 in
set_option maxHeartbeats 4000000 in
theorem f_ASB_init_ev (d0 : Nat) (hd0 : 1 ≤ d0) {h' : AH} {h : AH} {a0 : Nat} {a1 : Int32} (e : f_ASB_init h a0 a1 = some h') : Ev tb mL d0 86 [.ref a0, .int a1] h h' none := by
  obtain ⟨d, rfl⟩ : ∃ d, d0 = d + 1 := ⟨d0 - 1, by omega⟩
  have hd : 0 ≤ d := by omega
  refine ⟨Nat.le_of_ble_eq_true rfl, ?_⟩
  show Eb (Ev tb mL d) 86 (0, [.ref a0, .int a1], [], h) h' none
  unfold f_ASB_init at e
  refine eb_n 1 (1, [.ref a0, .int a1], [.ref a0], h) (rfl) ?_
  obtain ⟨g1, e⟩ := gd_some e
  refine eb_g (p := hT h a0 = 14) (4, [.ref a0, .int a1], [], h) rfl g1 ?_
  refine eb_n 1 (7, [.ref a0, .int a1], [.int (nI 1)], h) (rfl) ?_
  refine eb_b (c := (nI 1) = 0) (25, [.ref a0, .int a1], [], h) (10, [.ref a0, .int a1], [], h) rfl (fun c2 => ?_) (fun c2 => ?_)
  · replace e := ite_t c2 e
    exact nomatch e
  · replace e := ite_f c2 e
    refine eb_n 2 (12, [.ref a0, .int a1], [.int a1, .ref a0], h) (rfl) ?_
    obtain ⟨g3, e⟩ := gd_some e
    obtain ⟨h4, eh4, e⟩ := lq_some e
    refine eb_g (p := ¬ a1 < 0 ∧ ix a1 ≤ 65536) (14, [.ref a0, .int a1], [.ref (hN h), .ref a0], h4) (by rw [eh4]; rfl) g3 ?_
    obtain ⟨g5, e⟩ := gd_some e
    obtain ⟨h6, eh6, e⟩ := lq_some e
    refine eb_g (p := hT h4 a0 = 14) (17, [.ref a0, .int a1], [], h6) (by rw [eh6]; rfl) g5 ?_
    refine eb_n 2 (19, [.ref a0, .int a1], [.int (nI 0), .ref a0], h6) (rfl) ?_
    obtain ⟨g7, e⟩ := gd_some e
    obtain ⟨h8, eh8, e⟩ := lq_some e
    refine eb_g (p := hT h6 a0 = 14 ∧ KK ≤ a0 ∧ Int8.toInt32 (Int32.toInt8 (nI 0)) = (nI 0)) (22, [.ref a0, .int a1], [], h8) (by rw [eh8]; rfl) g7 ?_
    refine eb_n 1 (38, [.ref a0, .int a1], [], h8) (rfl) ?_
    rw [sv_inj e]
    exact eb_r rfl
set_option maxRecDepth 100000 in
set_option maxHeartbeats 4000000 in
theorem f_SB_init_ev (d0 : Nat) (hd0 : 2 ≤ d0) {h' : AH} {h : AH} {a0 : Nat} (e : f_SB_init h a0 = some h') : Ev tb mL d0 27 [.ref a0] h h' none := by
  obtain ⟨d, rfl⟩ : ∃ d, d0 = d + 1 := ⟨d0 - 1, by omega⟩
  have hd : 1 ≤ d := by omega
  refine ⟨Nat.le_of_ble_eq_true rfl, ?_⟩
  show Eb (Ev tb mL d) 27 (0, [.ref a0], [], h) h' none
  unfold f_SB_init at e
  refine eb_n 2 (3, [.ref a0], [.int (nI 16), .ref a0], h) (rfl) ?_
  obtain ⟨g1, e⟩ := gd_some e
  obtain ⟨h2, eh2, e⟩ := bv_some e
  refine eb_cg (p := hT h a0 = 14) rfl g1 (f_ASB_init_ev d (Nat.le_trans (by decide) hd) eh2) ?_
  show Eb _ 27 (6, [.ref a0], [], h2) _ _
  rw [sv_inj e]
  exact eb_r rfl
set_option maxRecDepth 100000 in
set_option maxHeartbeats 4000000 in
theorem f_ArS_newLength_b21_ev {h' : AH} {r : Int32} (d : Nat) (hd : 1 ≤ d)  (h : AH) (a0 : Int32) (a1 : Int32)  (d2 : Value) (d3 : Value) (e : f_ArS_newLength_b21  h a0 a1 = some (h', r)) : Eb (Ev tb mL d) 181 (21, [.int a0, .int a1, d2, d3], [], h) h' (some (.int r)) := by
  unfold f_ArS_newLength_b21 at e
  exact nomatch e
set_option maxRecDepth 100000 in
set_option maxHeartbeats 4000000 in
theorem f_ArS_newLength_ev (d0 : Nat) (hd0 : 2 ≤ d0) {h' : AH} {r : Int32} {h : AH} {a0 : Int32} {a1 : Int32} {a2 : Int32} (e : f_ArS_newLength h a0 a1 a2 = some (h', r)) : Ev tb mL d0 181 [.int a0, .int a1, .int a2] h h' (some (.int r)) := by
  obtain ⟨d, rfl⟩ : ∃ d, d0 = d + 1 := ⟨d0 - 1, by omega⟩
  have hd : 1 ≤ d := by omega
  refine ⟨Nat.le_of_ble_eq_true rfl, ?_⟩
  show Eb (Ev tb mL d) 181 (0, [.int a0, .int a1, .int a2, .retAddr 0], [], h) h' (some (.int r))
  unfold f_ArS_newLength at e
  refine eb_n 3 (3, [.int a0, .int a1, .int a2, .retAddr 0], [.int a2, .int a1, .int a0], h) (rfl) ?_
  obtain ⟨h1, r2, eh1, e⟩ := bn_some e
  refine eb_c rfl (f_Math_max_ev d (Nat.le_trans (by decide) hd) eh1) ?_
  show Eb _ 181 (6, [.int a0, .int a1, .int a2, .retAddr 0], [.int r2, .int a0], h1) _ _
  obtain ⟨x3, hx3, e⟩ := lq_some e
  refine eb_n 2 (8, [.int a0, .int a1, .int a2, .int x3], [], h1) (by subst hx3; rfl) ?_
  refine eb_n 2 (10, [.int a0, .int a1, .int a2, .int x3], [.int x3, .int (nI 0)], h1) (rfl) ?_
  refine eb_b (c := x3 ≤ (nI 0)) (21, [.int a0, .int a1, .int a2, .int x3], [], h1) (13, [.int a0, .int a1, .int a2, .int x3], [], h1) rfl (fun c4 => ?_) (fun c4 => ?_)
  · replace e := ite_t c4 e
    exact f_ArS_newLength_b21_ev d hd   _ _ _ _ _ e
  · replace e := ite_f c4 e
    refine eb_n 2 (16, [.int a0, .int a1, .int a2, .int x3], [.int (nI 2147483639), .int x3], h1) (rfl) ?_
    refine eb_b (c := (nI 2147483639) < x3) (21, [.int a0, .int a1, .int a2, .int x3], [], h1) (19, [.int a0, .int a1, .int a2, .int x3], [], h1) rfl (fun c5 => ?_) (fun c5 => ?_)
    · replace e := ite_t c5 e
      exact f_ArS_newLength_b21_ev d hd   _ _ _ _ _ e
    · replace e := ite_f c5 e
      refine eb_n 1 (20, [.int a0, .int a1, .int a2, .int x3], [.int x3], h1) (rfl) ?_
      rw [(sp_inj e).1, (sp_inj e).2]
      exact eb_rg (p := nrm 0 x3) rfl (nrm_0 _)
set_option maxRecDepth 100000 in
set_option maxHeartbeats 4000000 in
theorem f_ASB_newCapacity_ev (d0 : Nat) (hd0 : 3 ≤ d0) {h' : AH} {r : Int32} {h : AH} {a0 : Nat} {a1 : Int32} (e : f_ASB_newCapacity h a0 a1 = some (h', r)) : Ev tb mL d0 152 [.ref a0, .int a1] h h' (some (.int r)) := by
  obtain ⟨d, rfl⟩ : ∃ d, d0 = d + 1 := ⟨d0 - 1, by omega⟩
  have hd : 2 ≤ d := by omega
  refine ⟨Nat.le_of_ble_eq_true rfl, ?_⟩
  show Eb (Ev tb mL d) 152 (0, [.ref a0, .int a1, .retAddr 0, .retAddr 0, .retAddr 0, .retAddr 0], [], h) h' (some (.int r))
  unfold f_ASB_newCapacity at e
  refine eb_n 1 (1, [.ref a0, .int a1, .retAddr 0, .retAddr 0, .retAddr 0, .retAddr 0], [.ref a0], h) (rfl) ?_
  obtain ⟨g1, e⟩ := gd_some e
  refine eb_g (p := hT h a0 = 14) (4, [.ref a0, .int a1, .retAddr 0, .retAddr 0, .retAddr 0, .retAddr 0], [.ref (hR h a0 0)], h) rfl g1 ?_
  obtain ⟨g2, e⟩ := gd_some e
  refine eb_g (p := hT h (hR h a0 0) = 102) (5, [.ref a0, .int a1, .retAddr 0, .retAddr 0, .retAddr 0, .retAddr 0], [.int (nI (hL h (hR h a0 0)))], h) rfl g2 ?_
  obtain ⟨x3, hx3, e⟩ := lq_some e
  refine eb_n 1 (6, [.ref a0, .int a1, .int x3, .retAddr 0, .retAddr 0, .retAddr 0], [], h) (by subst hx3; rfl) ?_
  refine eb_n 2 (8, [.ref a0, .int a1, .int x3, .retAddr 0, .retAddr 0, .retAddr 0], [.ref a0, .int a1], h) (rfl) ?_
  refine eb_g (p := hT h a0 = 14) (11, [.ref a0, .int a1, .int x3, .retAddr 0, .retAddr 0, .retAddr 0], [.int (hI h a0 1), .int a1], h) rfl g1 ?_
  obtain ⟨x4, hx4, e⟩ := lq_some e
  refine eb_n 2 (13, [.ref a0, .int a1, .int x3, .int x4, .retAddr 0, .retAddr 0], [], h) (by subst hx4; rfl) ?_
  obtain ⟨x5, hx5, e⟩ := lq_some e
  refine eb_n 4 (18, [.ref a0, .int a1, .int x3, .int x4, .int x5, .retAddr 0], [], h) (by subst hx5; rfl) ?_
  refine eb_n 5 (24, [.ref a0, .int a1, .int x3, .int x4, .int x5, .retAddr 0], [.ref a0, .int (nI 2), .int x3, .int x5, .int x3], h) (rfl) ?_
  refine eb_g (p := hT h a0 = 14) (27, [.ref a0, .int a1, .int x3, .int x4, .int x5, .retAddr 0], [.int (hI h a0 1), .int (nI 2), .int x3, .int x5, .int x3], h) rfl g1 ?_
  refine eb_n 2 (29, [.ref a0, .int a1, .int x3, .int x4, .int x5, .retAddr 0], [.int (x3 + ((nI 2) <<< ((hI h a0 1) &&& 31))), .int x5, .int x3], h) (rfl) ?_
  obtain ⟨h6, r7, eh6, e⟩ := bn_some e
  refine eb_c rfl (f_ArS_newLength_ev d (Nat.le_trans (by decide) hd) eh6) ?_
  show Eb _ 152 (32, [.ref a0, .int a1, .int x3, .int x4, .int x5, .retAddr 0], [.int r7], h6) _ _
  refine eb_n 3 (38, [.ref a0, .int a1, .int x3, .int x4, .int x5, .int r7], [.int (nI 2147483647), .int r7], h6) (rfl) ?_
  refine eb_b (c := ¬ r7 = (nI 2147483647)) (51, [.ref a0, .int a1, .int x3, .int x4, .int x5, .int r7], [], h6) (41, [.ref a0, .int a1, .int x3, .int x4, .int x5, .int r7], [], h6) rfl (fun c8 => ?_) (fun c8 => ?_)
  · replace e := ite_t c8 e
    refine eb_n 2 (54, [.ref a0, .int a1, .int x3, .int x4, .int x5, .int r7], [.ref a0, .int r7], h6) (rfl) ?_
    obtain ⟨g9, e⟩ := gd_some e
    refine eb_g (p := hT h6 a0 = 14) (57, [.ref a0, .int a1, .int x3, .int x4, .int x5, .int r7], [.int (hI h6 a0 1), .int r7], h6) rfl g9 ?_
    refine eb_n 1 (58, [.ref a0, .int a1, .int x3, .int x4, .int x5, .int r7], [.int (r7 >>> ((hI h6 a0 1) &&& 31))], h6) (rfl) ?_
    rw [(sp_inj e).1, (sp_inj e).2]
    exact eb_rg (p := nrm 0 (r7 >>> ((hI h6 a0 1) &&& 31))) rfl (nrm_0 _)
  · replace e := ite_f c8 e
    exact nomatch e
set_option maxRecDepth 100000 in
set_option maxHeartbeats 4000000 in
theorem f_Math_min_ev (d0 : Nat) (hd0 : 1 ≤ d0) {h' : AH} {r : Int32} {h : AH} {a0 : Int32} {a1 : Int32} (e : f_Math_min h a0 a1 = some (h', r)) : Ev tb mL d0 46 [.int a0, .int a1] h h' (some (.int r)) := by
  obtain ⟨d, rfl⟩ : ∃ d, d0 = d + 1 := ⟨d0 - 1, by omega⟩
  have hd : 0 ≤ d := by omega
  refine ⟨Nat.le_of_ble_eq_true rfl, ?_⟩
  show Eb (Ev tb mL d) 46 (0, [.int a0, .int a1], [], h) h' (some (.int r))
  unfold f_Math_min at e
  refine eb_n 2 (2, [.int a0, .int a1], [.int a1, .int a0], h) (rfl) ?_
  refine eb_b (c := a1 < a0) (9, [.int a0, .int a1], [], h) (5, [.int a0, .int a1], [], h) rfl (fun c1 => ?_) (fun c1 => ?_)
  · replace e := ite_t c1 e
    refine eb_n 1 (10, [.int a0, .int a1], [.int a1], h) (rfl) ?_
    rw [(sp_inj e).1, (sp_inj e).2]
    exact eb_rg (p := nrm 0 a1) rfl (nrm_0 _)
  · replace e := ite_f c1 e
    refine eb_n 2 (10, [.int a0, .int a1], [.int a0], h) (rfl) ?_
    rw [(sp_inj e).1, (sp_inj e).2]
    exact eb_rg (p := nrm 0 a0) rfl (nrm_0 _)
set_option maxRecDepth 100000 in
set_option maxHeartbeats 4000000 in
theorem f_Arrays_copyOf_ev (d0 : Nat) (hd0 : 2 ≤ d0) {h' : AH} {r : Nat} {h : AH} {a0 : Nat} {a1 : Int32} (e : f_Arrays_copyOf h a0 a1 = some (h', r)) : Ev tb mL d0 153 [.ref a0, .int a1] h h' (some (.ref r)) := by
  obtain ⟨d, rfl⟩ : ∃ d, d0 = d + 1 := ⟨d0 - 1, by omega⟩
  have hd : 1 ≤ d := by omega
  refine ⟨Nat.le_of_ble_eq_true rfl, ?_⟩
  show Eb (Ev tb mL d) 153 (0, [.ref a0, .int a1, .retAddr 0], [], h) h' (some (.ref r))
  unfold f_Arrays_copyOf at e
  refine eb_n 2 (2, [.ref a0, .int a1, .retAddr 0], [.ref a0, .int a1], h) (rfl) ?_
  obtain ⟨g1, e⟩ := gd_some e
  refine eb_g (p := hT h a0 = 102) (3, [.ref a0, .int a1, .retAddr 0], [.int (nI (hL h a0)), .int a1], h) rfl g1 ?_
  refine eb_b (c := ¬ a1 = (nI (hL h a0))) (14, [.ref a0, .int a1, .retAddr 0], [], h) (6, [.ref a0, .int a1, .retAddr 0], [], h) rfl (fun c2 => ?_) (fun c2 => ?_)
  · replace e := ite_t c2 e
    refine eb_n 1 (15, [.ref a0, .int a1, .retAddr 0], [.int a1], h) (rfl) ?_
    obtain ⟨g3, e⟩ := gd_some e
    obtain ⟨h4, eh4, e⟩ := lq_some e
    refine eb_g (p := ¬ a1 < 0 ∧ ix a1 ≤ 65536) (17, [.ref a0, .int a1, .retAddr 0], [.ref (hN h)], h4) (by rw [eh4]; rfl) g3 ?_
    obtain ⟨x5, hx5, e⟩ := lq_some e
    refine eb_n 1 (18, [.ref a0, .int a1, .ref x5], [], h4) (by subst hx5; rfl) ?_
    refine eb_n 5 (23, [.ref a0, .int a1, .ref x5], [.ref a0, .int (nI 0), .ref x5, .int (nI 0), .ref a0], h4) (rfl) ?_
    obtain ⟨g6, e⟩ := gd_some e
    refine eb_g (p := hT h4 a0 = 102) (24, [.ref a0, .int a1, .ref x5], [.int (nI (hL h4 a0)), .int (nI 0), .ref x5, .int (nI 0), .ref a0], h4) rfl g6 ?_
    refine eb_n 1 (25, [.ref a0, .int a1, .ref x5], [.int a1, .int (nI (hL h4 a0)), .int (nI 0), .ref x5, .int (nI 0), .ref a0], h4) (rfl) ?_
    obtain ⟨h7, r8, eh7, e⟩ := bn_some e
    refine eb_c rfl (f_Math_min_ev d (Nat.le_trans (by decide) hd) eh7) ?_
    show Eb _ 153 (28, [.ref a0, .int a1, .ref x5], [.int r8, .int (nI 0), .ref x5, .int (nI 0), .ref a0], h7) _ _
    obtain ⟨g9, e⟩ := gd_some e
    obtain ⟨h10, eh10, e⟩ := lq_some e
    refine eb_g (p := hT h7 a0 = 102 ∧ hT h7 x5 = 102 ∧ KK ≤ x5 ∧ ¬ (nI 0) < 0 ∧ ¬ (nI 0) < 0 ∧ ¬ r8 < 0 ∧ ix (nI 0) + ix r8 ≤ hL h7 a0 ∧ ix (nI 0) + ix r8 ≤ hL h7 x5) (31, [.ref a0, .int a1, .ref x5], [], h10) (by rw [eh10]; rfl) g9 ?_
    refine eb_n 1 (32, [.ref a0, .int a1, .ref x5], [.ref x5], h10) (rfl) ?_
    rw [(sp_inj e).1, (sp_inj e).2]
    exact eb_r rfl
  · replace e := ite_f c2 e
    refine eb_n 1 (7, [.ref a0, .int a1, .retAddr 0], [.ref a0], h) (rfl) ?_
    obtain ⟨h11, eh11, e⟩ := lq_some e
    refine eb_g (p := hT h a0 = 102) (10, [.ref a0, .int a1, .retAddr 0], [.ref (hN h)], h11) (by rw [eh11]; rfl) g1 ?_
    obtain ⟨g12, e⟩ := gd_some e
    refine eb_g (p := hT h11 (hN h) = 102) (13, [.ref a0, .int a1, .retAddr 0], [.ref (hN h)], h11) rfl g12 ?_
    rw [(sp_inj e).1, (sp_inj e).2]
    exact eb_r rfl
set_option maxRecDepth 100000 in
set_option maxHeartbeats 4000000 in
theorem f_ASB_ensureCapacityInternal_ev (d0 : Nat) (hd0 : 4 ≤ d0) {h' : AH} {h : AH} {a0 : Nat} {a1 : Int32} (e : f_ASB_ensureCapacityInternal h a0 a1 = some h') : Ev tb mL d0 120 [.ref a0, .int a1] h h' none := by
  obtain ⟨d, rfl⟩ : ∃ d, d0 = d + 1 := ⟨d0 - 1, by omega⟩
  have hd : 3 ≤ d := by omega
  refine ⟨Nat.le_of_ble_eq_true rfl, ?_⟩
  show Eb (Ev tb mL d) 120 (0, [.ref a0, .int a1, .retAddr 0], [], h) h' none
  unfold f_ASB_ensureCapacityInternal at e
  refine eb_n 1 (1, [.ref a0, .int a1, .retAddr 0], [.ref a0], h) (rfl) ?_
  obtain ⟨g1, e⟩ := gd_some e
  refine eb_g (p := hT h a0 = 14) (4, [.ref a0, .int a1, .retAddr 0], [.ref (hR h a0 0)], h) rfl g1 ?_
  obtain ⟨g2, e⟩ := gd_some e
  refine eb_g (p := hT h (hR h a0 0) = 102) (5, [.ref a0, .int a1, .retAddr 0], [.int (nI (hL h (hR h a0 0)))], h) rfl g2 ?_
  refine eb_n 1 (6, [.ref a0, .int a1, .retAddr 0], [.ref a0, .int (nI (hL h (hR h a0 0)))], h) (rfl) ?_
  refine eb_g (p := hT h a0 = 14) (9, [.ref a0, .int a1, .retAddr 0], [.int (hI h a0 1), .int (nI (hL h (hR h a0 0)))], h) rfl g1 ?_
  obtain ⟨x3, hx3, e⟩ := lq_some e
  refine eb_n 2 (11, [.ref a0, .int a1, .int x3], [], h) (by subst hx3; rfl) ?_
  refine eb_n 3 (14, [.ref a0, .int a1, .int x3], [.int (a1 - x3)], h) (rfl) ?_
  refine eb_b (c := (a1 - x3) ≤ 0) (38, [.ref a0, .int a1, .int x3], [], h) (17, [.ref a0, .int a1, .int x3], [], h) rfl (fun c4 => ?_) (fun c4 => ?_)
  · replace e := ite_t c4 e
    rw [sv_inj e]
    exact eb_r rfl
  · replace e := ite_f c4 e
    refine eb_n 2 (19, [.ref a0, .int a1, .int x3], [.ref a0, .ref a0], h) (rfl) ?_
    refine eb_g (p := hT h a0 = 14) (22, [.ref a0, .int a1, .int x3], [.ref (hR h a0 0), .ref a0], h) rfl g1 ?_
    refine eb_n 2 (24, [.ref a0, .int a1, .int x3], [.int a1, .ref a0, .ref (hR h a0 0), .ref a0], h) (rfl) ?_
    obtain ⟨h5, r6, eh5, e⟩ := bn_some e
    refine eb_cg (p := hT h a0 = 14) rfl g1 (f_ASB_newCapacity_ev d (Nat.le_trans (by decide) hd) eh5) ?_
    show Eb _ 120 (27, [.ref a0, .int a1, .int x3], [.int r6, .ref (hR h a0 0), .ref a0], h5) _ _
    refine eb_n 1 (28, [.ref a0, .int a1, .int x3], [.ref a0, .int r6, .ref (hR h a0 0), .ref a0], h5) (rfl) ?_
    obtain ⟨g7, e⟩ := gd_some e
    refine eb_g (p := hT h5 a0 = 14) (31, [.ref a0, .int a1, .int x3], [.int (hI h5 a0 1), .int r6, .ref (hR h a0 0), .ref a0], h5) rfl g7 ?_
    refine eb_n 1 (32, [.ref a0, .int a1, .int x3], [.int (r6 <<< ((hI h5 a0 1) &&& 31)), .ref (hR h a0 0), .ref a0], h5) (rfl) ?_
    obtain ⟨h8, r9, eh8, e⟩ := bn_some e
    refine eb_c rfl (f_Arrays_copyOf_ev d (Nat.le_trans (by decide) hd) eh8) ?_
    show Eb _ 120 (35, [.ref a0, .int a1, .int x3], [.ref r9, .ref a0], h8) _ _
    obtain ⟨g10, e⟩ := gd_some e
    obtain ⟨h11, eh11, e⟩ := lq_some e
    refine eb_g (p := hT h8 a0 = 14) (38, [.ref a0, .int a1, .int x3], [], h11) (by rw [eh11]; rfl) g10 ?_
    rw [sv_inj e]
    exact eb_r rfl
set_option maxRecDepth 100000 in
set_option maxHeartbeats 4000000 in
theorem f_ASB_inflateIfNeededFor_ev (d0 : Nat) (hd0 : 2 ≤ d0) {h' : AH} {h : AH} {a0 : Nat} {a1 : Nat} (e : f_ASB_inflateIfNeededFor h a0 a1 = some h') : Ev tb mL d0 154 [.ref a0, .ref a1] h h' none := by
  obtain ⟨d, rfl⟩ : ∃ d, d0 = d + 1 := ⟨d0 - 1, by omega⟩
  have hd : 1 ≤ d := by omega
  refine ⟨Nat.le_of_ble_eq_true rfl, ?_⟩
  show Eb (Ev tb mL d) 154 (0, [.ref a0, .ref a1], [], h) h' none
  unfold f_ASB_inflateIfNeededFor at e
  refine eb_n 1 (3, [.ref a0, .ref a1], [.int (nI 1)], h) (rfl) ?_
  refine eb_b (c := (nI 1) = 0) (21, [.ref a0, .ref a1], [], h) (6, [.ref a0, .ref a1], [], h) rfl (fun c1 => ?_) (fun c1 => ?_)
  · replace e := ite_t c1 e
    rw [sv_inj e]
    exact eb_r rfl
  · replace e := ite_f c1 e
    refine eb_n 1 (7, [.ref a0, .ref a1], [.ref a0], h) (rfl) ?_
    obtain ⟨g2, e⟩ := gd_some e
    refine eb_g (p := hT h a0 = 14) (10, [.ref a0, .ref a1], [.int (hI h a0 1)], h) rfl g2 ?_
    refine eb_n 1 (11, [.ref a0, .ref a1], [.ref a1, .int (hI h a0 1)], h) (rfl) ?_
    obtain ⟨g3, e⟩ := gd_some e
    obtain ⟨h4, r5, eh4, e⟩ := bn_some e
    refine eb_cg (p := hT h a1 = 15) rfl g3 (f_String_coder_ev d (Nat.le_trans (by decide) hd) eh4) ?_
    show Eb _ 154 (14, [.ref a0, .ref a1], [.int r5, .int (hI h a0 1)], h4) _ _
    refine eb_b (c := (hI h a0 1) = r5) (21, [.ref a0, .ref a1], [], h4) (17, [.ref a0, .ref a1], [], h4) rfl (fun c6 => ?_) (fun c6 => ?_)
    · replace e := ite_t c6 e
      rw [sv_inj e]
      exact eb_r rfl
    · replace e := ite_f c6 e
      exact nomatch e
set_option maxRecDepth 100000 in
set_option maxHeartbeats 4000000 in
theorem f_Lat_inflate_ev (d0 : Nat) (hd0 : 1 ≤ d0) {h' : AH} {h : AH} {a0 : Nat} {a1 : Int32} {a2 : Nat} {a3 : Int32} {a4 : Int32} (e : f_Lat_inflate h a0 a1 a2 a3 a4 = some h') : Ev tb mL d0 182 [.ref a0, .int a1, .ref a2, .int a3, .int a4] h h' none := by
  obtain ⟨d, rfl⟩ : ∃ d, d0 = d + 1 := ⟨d0 - 1, by omega⟩
  have hd : 0 ≤ d := by omega
  refine ⟨Nat.le_of_ble_eq_true rfl, ?_⟩
  show Eb (Ev tb mL d) 182 (0, [.ref a0, .int a1, .ref a2, .int a3, .int a4], [], h) h' none
  unfold f_Lat_inflate at e
  exact nomatch e
set_option maxRecDepth 100000 in
set_option maxHeartbeats 4000000 in
theorem f_String_getBytes_ev (d0 : Nat) (hd0 : 2 ≤ d0) {h' : AH} {h : AH} {a0 : Nat} {a1 : Nat} {a2 : Int32} {a3 : Int32} (e : f_String_getBytes h a0 a1 a2 a3 = some h') : Ev tb mL d0 155 [.ref a0, .ref a1, .int a2, .int a3] h h' none := by
  obtain ⟨d, rfl⟩ : ∃ d, d0 = d + 1 := ⟨d0 - 1, by omega⟩
  have hd : 1 ≤ d := by omega
  refine ⟨Nat.le_of_ble_eq_true rfl, ?_⟩
  show Eb (Ev tb mL d) 155 (0, [.ref a0, .ref a1, .int a2, .int a3], [], h) h' none
  unfold f_String_getBytes at e
  refine eb_n 1 (1, [.ref a0, .ref a1, .int a2, .int a3], [.ref a0], h) (rfl) ?_
  obtain ⟨g1, e⟩ := gd_some e
  obtain ⟨h2, r3, eh2, e⟩ := bn_some e
  refine eb_cg (p := hT h a0 = 15) rfl g1 (f_String_coder_ev d (Nat.le_trans (by decide) hd) eh2) ?_
  show Eb _ 155 (4, [.ref a0, .ref a1, .int a2, .int a3], [.int r3], h2) _ _
  refine eb_n 1 (5, [.ref a0, .ref a1, .int a2, .int a3], [.int a3, .int r3], h2) (rfl) ?_
  refine eb_b (c := ¬ r3 = a3) (28, [.ref a0, .ref a1, .int a2, .int a3], [], h2) (8, [.ref a0, .ref a1, .int a2, .int a3], [], h2) rfl (fun c4 => ?_) (fun c4 => ?_)
  · replace e := ite_t c4 e
    refine eb_n 1 (29, [.ref a0, .ref a1, .int a2, .int a3], [.ref a0], h2) (rfl) ?_
    obtain ⟨g5, e⟩ := gd_some e
    refine eb_g (p := hT h2 a0 = 15) (32, [.ref a0, .ref a1, .int a2, .int a3], [.ref (hR h2 a0 0)], h2) rfl g5 ?_
    refine eb_n 4 (36, [.ref a0, .ref a1, .int a2, .int a3], [.ref a0, .int a2, .ref a1, .int (nI 0), .ref (hR h2 a0 0)], h2) (rfl) ?_
    refine eb_g (p := hT h2 a0 = 15) (39, [.ref a0, .ref a1, .int a2, .int a3], [.ref (hR h2 a0 0), .int a2, .ref a1, .int (nI 0), .ref (hR h2 a0 0)], h2) rfl g5 ?_
    obtain ⟨g6, e⟩ := gd_some e
    refine eb_g (p := hT h2 (hR h2 a0 0) = 102) (40, [.ref a0, .ref a1, .int a2, .int a3], [.int (nI (hL h2 (hR h2 a0 0))), .int a2, .ref a1, .int (nI 0), .ref (hR h2 a0 0)], h2) rfl g6 ?_
    obtain ⟨h7, eh7, e⟩ := bv_some e
    refine eb_c rfl (f_Lat_inflate_ev d (Nat.le_trans (by decide) hd) eh7) ?_
    show Eb _ 155 (43, [.ref a0, .ref a1, .int a2, .int a3], [], h7) _ _
    rw [sv_inj e]
    exact eb_r rfl
  · replace e := ite_f c4 e
    refine eb_n 1 (9, [.ref a0, .ref a1, .int a2, .int a3], [.ref a0], h2) (rfl) ?_
    obtain ⟨g8, e⟩ := gd_some e
    refine eb_g (p := hT h2 a0 = 15) (12, [.ref a0, .ref a1, .int a2, .int a3], [.ref (hR h2 a0 0)], h2) rfl g8 ?_
    refine eb_n 6 (18, [.ref a0, .ref a1, .int a2, .int a3], [.ref a0, .int (a2 <<< (a3 &&& 31)), .ref a1, .int (nI 0), .ref (hR h2 a0 0)], h2) (rfl) ?_
    refine eb_g (p := hT h2 a0 = 15) (21, [.ref a0, .ref a1, .int a2, .int a3], [.ref (hR h2 a0 0), .int (a2 <<< (a3 &&& 31)), .ref a1, .int (nI 0), .ref (hR h2 a0 0)], h2) rfl g8 ?_
    obtain ⟨g9, e⟩ := gd_some e
    refine eb_g (p := hT h2 (hR h2 a0 0) = 102) (22, [.ref a0, .ref a1, .int a2, .int a3], [.int (nI (hL h2 (hR h2 a0 0))), .int (a2 <<< (a3 &&& 31)), .ref a1, .int (nI 0), .ref (hR h2 a0 0)], h2) rfl g9 ?_
    obtain ⟨g10, e⟩ := gd_some e
    obtain ⟨h11, eh11, e⟩ := lq_some e
    refine eb_g (p := hT h2 (hR h2 a0 0) = 102 ∧ hT h2 a1 = 102 ∧ KK ≤ a1 ∧ ¬ (nI 0) < 0 ∧ ¬ (a2 <<< (a3 &&& 31)) < 0 ∧ ¬ (nI (hL h2 (hR h2 a0 0))) < 0 ∧ ix (nI 0) + ix (nI (hL h2 (hR h2 a0 0))) ≤ hL h2 (hR h2 a0 0) ∧ ix (a2 <<< (a3 &&& 31)) + ix (nI (hL h2 (hR h2 a0 0))) ≤ hL h2 a1) (25, [.ref a0, .ref a1, .int a2, .int a3], [], h11) (by rw [eh11]; rfl) g10 ?_
    refine eb_n 1 (43, [.ref a0, .ref a1, .int a2, .int a3], [], h11) (rfl) ?_
    rw [sv_inj e]
    exact eb_r rfl
set_option maxRecDepth 100000 in
set_option maxHeartbeats 4000000 in
theorem f_ASB_putStringAt_ev (d0 : Nat) (hd0 : 3 ≤ d0) {h' : AH} {h : AH} {a0 : Nat} {a1 : Int32} {a2 : Nat} (e : f_ASB_putStringAt h a0 a1 a2 = some h') : Ev tb mL d0 121 [.ref a0, .int a1, .ref a2] h h' none := by
  obtain ⟨d, rfl⟩ : ∃ d, d0 = d + 1 := ⟨d0 - 1, by omega⟩
  have hd : 2 ≤ d := by omega
  refine ⟨Nat.le_of_ble_eq_true rfl, ?_⟩
  show Eb (Ev tb mL d) 121 (0, [.ref a0, .int a1, .ref a2], [], h) h' none
  unfold f_ASB_putStringAt at e
  refine eb_n 2 (2, [.ref a0, .int a1, .ref a2], [.ref a2, .ref a0], h) (rfl) ?_
  obtain ⟨g1, e⟩ := gd_some e
  obtain ⟨h2, eh2, e⟩ := bv_some e
  refine eb_cg (p := hT h a0 = 14) rfl g1 (f_ASB_inflateIfNeededFor_ev d (Nat.le_trans (by decide) hd) eh2) ?_
  show Eb _ 121 (5, [.ref a0, .int a1, .ref a2], [], h2) _ _
  refine eb_n 2 (7, [.ref a0, .int a1, .ref a2], [.ref a0, .ref a2], h2) (rfl) ?_
  obtain ⟨g3, e⟩ := gd_some e
  refine eb_g (p := hT h2 a0 = 14) (10, [.ref a0, .int a1, .ref a2], [.ref (hR h2 a0 0), .ref a2], h2) rfl g3 ?_
  refine eb_n 2 (12, [.ref a0, .int a1, .ref a2], [.ref a0, .int a1, .ref (hR h2 a0 0), .ref a2], h2) (rfl) ?_
  refine eb_g (p := hT h2 a0 = 14) (15, [.ref a0, .int a1, .ref a2], [.int (hI h2 a0 1), .int a1, .ref (hR h2 a0 0), .ref a2], h2) rfl g3 ?_
  obtain ⟨g4, e⟩ := gd_some e
  obtain ⟨h5, eh5, e⟩ := bv_some e
  refine eb_cg (p := hT h2 a2 = 15) rfl g4 (f_String_getBytes_ev d (Nat.le_trans (by decide) hd) eh5) ?_
  show Eb _ 121 (18, [.ref a0, .int a1, .ref a2], [], h5) _ _
  rw [sv_inj e]
  exact eb_r rfl
set_option maxRecDepth 100000 in
set_option maxHeartbeats 4000000 in
theorem f_ASB_append_s_ev (d0 : Nat) (hd0 : 5 ≤ d0) {h' : AH} {r : Nat} {h : AH} {a0 : Nat} {a1 : Nat} (e : f_ASB_append_s h a0 a1 = some (h', r)) : Ev tb mL d0 87 [.ref a0, .ref a1] h h' (some (.ref r)) := by
  obtain ⟨d, rfl⟩ : ∃ d, d0 = d + 1 := ⟨d0 - 1, by omega⟩
  have hd : 4 ≤ d := by omega
  refine ⟨Nat.le_of_ble_eq_true rfl, ?_⟩
  show Eb (Ev tb mL d) 87 (0, [.ref a0, .ref a1, .retAddr 0], [], h) h' (some (.ref r))
  unfold f_ASB_append_s at e
  refine eb_n 1 (1, [.ref a0, .ref a1, .retAddr 0], [.ref a1], h) (rfl) ?_
  obtain ⟨g1, e⟩ := gd_some e
  refine eb_g (p := ¬ hT h a1 = 0) (9, [.ref a0, .ref a1, .retAddr 0], [], h) rfl g1 ?_
  refine eb_n 1 (10, [.ref a0, .ref a1, .retAddr 0], [.ref a1], h) (rfl) ?_
  obtain ⟨g2, e⟩ := gd_some e
  obtain ⟨h3, r4, eh3, e⟩ := bn_some e
  refine eb_cg (p := hT h a1 = 15) rfl g2 (f_String_length_ev d (Nat.le_trans (by decide) hd) eh3) ?_
  show Eb _ 87 (13, [.ref a0, .ref a1, .retAddr 0], [.int r4], h3) _ _
  refine eb_n 3 (16, [.ref a0, .ref a1, .int r4], [.ref a0, .ref a0], h3) (rfl) ?_
  obtain ⟨g5, e⟩ := gd_some e
  refine eb_g (p := hT h3 a0 = 14) (19, [.ref a0, .ref a1, .int r4], [.int (hI h3 a0 3), .ref a0], h3) rfl g5 ?_
  refine eb_n 2 (21, [.ref a0, .ref a1, .int r4], [.int ((hI h3 a0 3) + r4), .ref a0], h3) (rfl) ?_
  obtain ⟨h6, eh6, e⟩ := bv_some e
  refine eb_cg (p := hT h3 a0 = 14) rfl g5 (f_ASB_ensureCapacityInternal_ev d (Nat.le_trans (by decide) hd) eh6) ?_
  show Eb _ 87 (24, [.ref a0, .ref a1, .int r4], [], h6) _ _
  refine eb_n 2 (26, [.ref a0, .ref a1, .int r4], [.ref a0, .ref a0], h6) (rfl) ?_
  obtain ⟨g7, e⟩ := gd_some e
  refine eb_g (p := hT h6 a0 = 14) (29, [.ref a0, .ref a1, .int r4], [.int (hI h6 a0 3), .ref a0], h6) rfl g7 ?_
  refine eb_n 1 (30, [.ref a0, .ref a1, .int r4], [.ref a1, .int (hI h6 a0 3), .ref a0], h6) (rfl) ?_
  obtain ⟨h8, eh8, e⟩ := bv_some e
  refine eb_cg (p := hT h6 a0 = 14) rfl g7 (f_ASB_putStringAt_ev d (Nat.le_trans (by decide) hd) eh8) ?_
  show Eb _ 87 (33, [.ref a0, .ref a1, .int r4], [], h8) _ _
  refine eb_n 2 (35, [.ref a0, .ref a1, .int r4], [.ref a0, .ref a0], h8) (rfl) ?_
  obtain ⟨g9, e⟩ := gd_some e
  refine eb_g (p := hT h8 a0 = 14) (38, [.ref a0, .ref a1, .int r4], [.int (hI h8 a0 3), .ref a0], h8) rfl g9 ?_
  refine eb_n 2 (40, [.ref a0, .ref a1, .int r4], [.int ((hI h8 a0 3) + r4), .ref a0], h8) (rfl) ?_
  obtain ⟨h10, eh10, e⟩ := lq_some e
  refine eb_g (p := hT h8 a0 = 14) (43, [.ref a0, .ref a1, .int r4], [], h10) (by rw [eh10]; rfl) g9 ?_
  refine eb_n 1 (44, [.ref a0, .ref a1, .int r4], [.ref a0], h10) (rfl) ?_
  rw [(sp_inj e).1, (sp_inj e).2]
  exact eb_r rfl
set_option maxRecDepth 100000 in
set_option maxHeartbeats 4000000 in
theorem f_SB_append_s_ev (d0 : Nat) (hd0 : 6 ≤ d0) {h' : AH} {r : Nat} {h : AH} {a0 : Nat} {a1 : Nat} (e : f_SB_append_s h a0 a1 = some (h', r)) : Ev tb mL d0 28 [.ref a0, .ref a1] h h' (some (.ref r)) := by
  obtain ⟨d, rfl⟩ : ∃ d, d0 = d + 1 := ⟨d0 - 1, by omega⟩
  have hd : 5 ≤ d := by omega
  refine ⟨Nat.le_of_ble_eq_true rfl, ?_⟩
  show Eb (Ev tb mL d) 28 (0, [.ref a0, .ref a1], [], h) h' (some (.ref r))
  unfold f_SB_append_s at e
  refine eb_n 2 (2, [.ref a0, .ref a1], [.ref a1, .ref a0], h) (rfl) ?_
  obtain ⟨g1, e⟩ := gd_some e
  obtain ⟨h2, r3, eh2, e⟩ := bn_some e
  refine eb_cg (p := hT h a0 = 14) rfl g1 (f_ASB_append_s_ev d (Nat.le_trans (by decide) hd) eh2) ?_
  show Eb _ 28 (5, [.ref a0, .ref a1], [.ref r3], h2) _ _
  refine eb_n 2 (7, [.ref a0, .ref a1], [.ref a0], h2) (rfl) ?_
  rw [(sp_inj e).1, (sp_inj e).2]
  exact eb_r rfl
set_option maxRecDepth 100000 in
set_option maxHeartbeats 4000000 in
theorem f_Integer_stringSize_b16_ev {h' : AH} {r : Int32} (d : Nat) (hd : 0 ≤ d) (k16 : AH → Int32 → Int32 → Int32 → Int32 → Option (AH × Int32)) (hk16 : ∀ (h : AH) (a0 : Int32) (a1 : Int32) (a2 : Int32) (a3 : Int32)  , k16 h a0 a1 a2 a3 = some (h', r) → Eb (Ev tb mL d) 122 (16, [.int a0, .int a1, .int a2, .int a3], [], h) h' (some (.int r)))  (h : AH) (a0 : Int32) (a1 : Int32) (a2 : Int32) (a3 : Int32)   (e : f_Integer_stringSize_b16 k16 h a0 a1 a2 a3 = some (h', r)) : Eb (Ev tb mL d) 122 (16, [.int a0, .int a1, .int a2, .int a3], [], h) h' (some (.int r)) := by
  unfold f_Integer_stringSize_b16 at e
  refine eb_n 2 (19, [.int a0, .int a1, .int a2, .int a3], [.int (nI 10), .int a3], h) (rfl) ?_
  refine eb_b (c := (nI 10) ≤ a3) (42, [.int a0, .int a1, .int a2, .int a3], [], h) (22, [.int a0, .int a1, .int a2, .int a3], [], h) rfl (fun c1 => ?_) (fun c1 => ?_)
  · replace e := ite_t c1 e
    refine eb_n 3 (46, [.int a0, .int a1, .int a2, .int a3], [.int ((nI 10) + a1)], h) (rfl) ?_
    rw [(sp_inj e).1, (sp_inj e).2]
    exact eb_rg (p := nrm 0 ((nI 10) + a1)) rfl (nrm_0 _)
  · replace e := ite_f c1 e
    refine eb_n 2 (24, [.int a0, .int a1, .int a2, .int a3], [.int a2, .int a0], h) (rfl) ?_
    refine eb_b (c := a0 ≤ a2) (31, [.int a0, .int a1, .int a2, .int a3], [], h) (27, [.int a0, .int a1, .int a2, .int a3], [], h) rfl (fun c2 => ?_) (fun c2 => ?_)
    · replace e := ite_t c2 e
      obtain ⟨x3, hx3, e⟩ := lq_some e
      refine eb_n 4 (36, [.int a0, .int a1, .int x3, .int a3], [], h) (by subst hx3; rfl) ?_
      obtain ⟨x4, hx4, e⟩ := lq_some e
      refine eb_n 1 (39, [.int a0, .int a1, .int x3, .int x4], [], h) (by subst hx4; rfl) ?_
      refine eb_n 1 (16, [.int a0, .int a1, .int x3, .int x4], [], h) (rfl) ?_
      exact hk16 _ _ _ _ _  e
    · replace e := ite_f c2 e
      refine eb_n 3 (30, [.int a0, .int a1, .int a2, .int a3], [.int (a3 + a1)], h) (rfl) ?_
      rw [(sp_inj e).1, (sp_inj e).2]
      exact eb_rg (p := nrm 0 (a3 + a1)) rfl (nrm_0 _)
set_option maxRecDepth 100000 in
set_option maxHeartbeats 4000000 in
theorem f_Integer_stringSize_l16_ev {h' : AH} {r : Int32} (d : Nat) (hd : 0 ≤ d)  : ∀ (n : Nat) (h : AH) (a0 : Int32) (a1 : Int32) (a2 : Int32) (a3 : Int32)   (_ : f_Integer_stringSize_l16  n h a0 a1 a2 a3 = some (h', r)), Eb (Ev tb mL d) 122 (16, [.int a0, .int a1, .int a2, .int a3], [], h) h' (some (.int r)) := by
  intro n
  induction n with
  | zero => intro h a0 a1 a2 a3  e; exact nomatch e
  | succ n ih =>
    intro h a0 a1 a2 a3  e
    exact f_Integer_stringSize_b16_ev d hd _ (fun h a0 a1 a2 a3  e => ih h a0 a1 a2 a3  e) h a0 a1 a2 a3  e
set_option maxRecDepth 100000 in
set_option maxHeartbeats 4000000 in
theorem f_Integer_stringSize_b11_ev {h' : AH} {r : Int32} (d : Nat) (hd : 0 ≤ d)  (h : AH) (a0 : Int32) (a1 : Int32)  (d2 : Value) (d3 : Value) (e : f_Integer_stringSize_b11  h a0 a1 = some (h', r)) : Eb (Ev tb mL d) 122 (11, [.int a0, .int a1, d2, d3], [], h) h' (some (.int r)) := by
  unfold f_Integer_stringSize_b11 at e
  refine eb_n 4 (16, [.int a0, .int a1, .int (-nI 10), .int (nI 1)], [], h) (rfl) ?_
  exact f_Integer_stringSize_l16_ev d hd   FU _ _ _ _ _  e
set_option maxRecDepth 100000 in
set_option maxHeartbeats 4000000 in
theorem f_Integer_stringSize_ev (d0 : Nat) (hd0 : 1 ≤ d0) {h' : AH} {r : Int32} {h : AH} {a0 : Int32} (e : f_Integer_stringSize h a0 = some (h', r)) : Ev tb mL d0 122 [.int a0] h h' (some (.int r)) := by
  obtain ⟨d, rfl⟩ : ∃ d, d0 = d + 1 := ⟨d0 - 1, by omega⟩
  have hd : 0 ≤ d := by omega
  refine ⟨Nat.le_of_ble_eq_true rfl, ?_⟩
  show Eb (Ev tb mL d) 122 (0, [.int a0, .retAddr 0, .retAddr 0, .retAddr 0], [], h) h' (some (.int r))
  unfold f_Integer_stringSize at e
  refine eb_n 3 (3, [.int a0, .int (nI 1), .retAddr 0, .retAddr 0], [.int a0], h) (rfl) ?_
  refine eb_b (c := a0 < 0) (11, [.int a0, .int (nI 1), .retAddr 0, .retAddr 0], [], h) (6, [.int a0, .int (nI 1), .retAddr 0, .retAddr 0], [], h) rfl (fun c1 => ?_) (fun c1 => ?_)
  · replace e := ite_t c1 e
    exact f_Integer_stringSize_b11_ev d hd   _ _ _ _ _ e
  · replace e := ite_f c1 e
    obtain ⟨x2, hx2, e⟩ := lq_some e
    refine eb_n 5 (11, [.int x2, .int (nI 0), .retAddr 0, .retAddr 0], [], h) (by subst hx2; rfl) ?_
    exact f_Integer_stringSize_b11_ev d hd   _ _ _ _ _ e
set_option maxRecDepth 100000 in
set_option maxHeartbeats 4000000 in
theorem f_ASB_isLatin1_ev (d0 : Nat) (hd0 : 1 ≤ d0) {h' : AH} {r : Int32} {h : AH} {a0 : Nat} (e : f_ASB_isLatin1 h a0 = some (h', r)) : Ev tb mL d0 123 [.ref a0] h h' (some (.int r)) := by
  obtain ⟨d, rfl⟩ : ∃ d, d0 = d + 1 := ⟨d0 - 1, by omega⟩
  have hd : 0 ≤ d := by omega
  refine ⟨Nat.le_of_ble_eq_true rfl, ?_⟩
  show Eb (Ev tb mL d) 123 (0, [.ref a0], [], h) h' (some (.int r))
  unfold f_ASB_isLatin1 at e
  refine eb_n 1 (3, [.ref a0], [.int (nI 1)], h) (rfl) ?_
  refine eb_b (c := (nI 1) = 0) (17, [.ref a0], [], h) (6, [.ref a0], [], h) rfl (fun c1 => ?_) (fun c1 => ?_)
  · replace e := ite_t c1 e
    refine eb_n 1 (18, [.ref a0], [.int (nI 0)], h) (rfl) ?_
    rw [(sp_inj e).1, (sp_inj e).2]
    exact eb_rg (p := nrm 3 (nI 0)) rfl nrm_30
  · replace e := ite_f c1 e
    refine eb_n 1 (7, [.ref a0], [.ref a0], h) (rfl) ?_
    obtain ⟨g2, e⟩ := gd_some e
    refine eb_g (p := hT h a0 = 14) (10, [.ref a0], [.int (hI h a0 1)], h) rfl g2 ?_
    refine eb_b (c := ¬ (hI h a0 1) = 0) (17, [.ref a0], [], h) (13, [.ref a0], [], h) rfl (fun c3 => ?_) (fun c3 => ?_)
    · replace e := ite_t c3 e
      refine eb_n 1 (18, [.ref a0], [.int (nI 0)], h) (rfl) ?_
      rw [(sp_inj e).1, (sp_inj e).2]
      exact eb_rg (p := nrm 3 (nI 0)) rfl nrm_30
    · replace e := ite_f c3 e
      refine eb_n 2 (18, [.ref a0], [.int (nI 1)], h) (rfl) ?_
      rw [(sp_inj e).1, (sp_inj e).2]
      exact eb_rg (p := nrm 3 (nI 1)) rfl nrm_31

/-! 98zt L3: constructors, II: a new river (written by l3/gen98zt.py) -/
theorem anewR_l {r : Nat} : ∀ (j : Nat) {h : AH} {i N : Nat}, j + i = 12 → SkR h r → ∃ F, f_River_beginAnew_l59 (j + 1 + N) h r (iI (i : Int)) = f_River_beginAnew_l59 (1 + N) (sI h F) r (iI 12) ∧ ∀ c, ¬ c = r + 6 → F c = hI h c := by
  intro j
  induction j with
  | zero =>
    intro h i N hj S
    obtain rfl : i = 12 := by omega
    exact ⟨hI h, by rw [Nat.zero_add, sI_id]; rfl, fun _ _ => rfl⟩
  | succ j ih =>
    intro h i N hj S
    obtain ⟨F, e, f2⟩ := ih (h := wI h (r + 6) i (iI 1)) (i := i + 1) (N := N) (by omega) (SkR.s _ S)
    have ei : iI (i : Int) + nI 1 = iI ((i + 1 : Nat) : Int) := by rw [nI_L, iI_add]; rfl
    refine ⟨F, ?_, fun c n => ?_⟩
    · rw [show j + 1 + 1 + N = (j + 1 + N) + 1 by omega]
      show f_River_beginAnew_b59 (f_River_beginAnew_l59 (j + 1 + N)) h r (iI (i : Int)) = _
      unfold f_River_beginAnew_b59
      rw [if_neg (by rw [nI_L, iI_le (by omega) (by omega) (by omega) (by omega)]; omega), gd_P S.t, S.f5, gd_P ⟨S.at6, by rw [S.al6]; exact inb_i (by omega) (by omega)⟩, ix_i (by omega), ei, nI_L, lq_E, lq_E]
      exact e
    · rw [f2 c n]
      exact up2_f n
theorem anewR_e {h : AH} {N r : Nat} (S : SkR h r) : ∃ F, f_River_beginAnew_l59 (1 + N) h r (iI 12) = some (sI h F) ∧ ∀ c, ¬ (r + 43 ≤ c ∧ c < r + 47) → F c = hI h c := by
  have r0 : hR h (r + 5) 0 = r + (43 + 0) := S.qR (i := 0) (by decide)
  have r1 : hR h (r + 5) 1 = r + (43 + 1) := S.qR (i := 1) (by decide)
  have r2 : hR h (r + 5) 2 = r + (43 + 2) := S.qR (i := 2) (by decide)
  have r3 : hR h (r + 5) 3 = r + (43 + 3) := S.qR (i := 3) (by decide)
  have t0 : hT h (r + (43 + 0)) = 8 := S.qT (i := 0) (by decide)
  have t1 : hT h (r + (43 + 1)) = 8 := S.qT (i := 1) (by decide)
  have t2 : hT h (r + (43 + 2)) = 8 := S.qT (i := 2) (by decide)
  have t3 : hT h (r + (43 + 3)) = 8 := S.qT (i := 3) (by decide)
  have q4 : hR h r 4 = r + 5 := S.f4
  have q5 : hT h (r + 5) = 108 := S.at5
  have q6 : hL h (r + 5) = 4 := S.al5
  have q7 : hT h r = 3 := S.t
  obtain ⟨F0, e0, -, f0⟩ := clear8 (h := h) (v := nI 8) t0
  obtain ⟨F1, e1, -, f1⟩ := clear8 (h := sI h F0) (v := nI 5) (c := r + (43 + 1)) t1
  obtain ⟨F2, e2, -, f2⟩ := clear8 (h := sI (sI h F0) F1) (v := nI 3) (c := r + (43 + 2)) t2
  obtain ⟨F3, e3, -, f3⟩ := clear8 (h := sI (sI (sI h F0) F1) F2) (v := nI 1) (c := r + (43 + 3)) t3
  rw [hI_s] at f1 f2 f3
  refine ⟨F3, ?_, fun c n => funext fun s => by rw [f3 c s (by omega), f2 c s (by omega), f1 c s (by omega), f0 c s (by omega)]⟩
  have i0 : ix (nI 0) = 0 := by decide
  have i1 : ix (nI 1) = 1 := by decide
  have i2 : ix (nI 2) = 2 := by decide
  have i3 : ix (nI 3) = 3 := by decide
  rw [show 1 + N = N + 1 by omega]
  show f_River_beginAnew_b59 (f_River_beginAnew_l59 N) h r (iI 12) = _
  unfold f_River_beginAnew_b59
  rw [if_pos (by decide), gd_P q7, q4, gd_P ⟨q5, by rw [q6]; decide⟩, i0, r0, gd_P t0, e0, bv_S, hT_s, hR_s, hL_s, gd_P q7, q4, gd_P ⟨q5, by rw [q6]; decide⟩, i1, r1, gd_P t1, e1, bv_S, hT_s, hR_s, hL_s, hT_s, hR_s, hL_s, gd_P q7, q4, gd_P ⟨q5, by rw [q6]; decide⟩, i2, r2, gd_P t2, e2, bv_S, hT_s, hR_s, hL_s, hT_s, hR_s, hL_s, hT_s, hR_s, hL_s, gd_P q7, q4, gd_P ⟨q5, by rw [q6]; decide⟩, i3, r3, gd_P t3, e3, bv_S]
  rfl
theorem anewR {h : AH} {r : Nat} (S : SkR h r) : ∃ F, f_River_beginAnew h r = some (sI h F) ∧ F r 11 = hI h r 11 ∧ ∀ c, ¬ (r ≤ c ∧ c < r + 47) → F c = hI h c := by
  have t := S.t
  obtain ⟨G, eG⟩ : ∃ G, G = up2 (up2 (up2 (up2 (up2 (up2 (up2 (up2 (up2 (up2 (up2 (hI h) r 6 (nI 0)) r 7 (nI 0)) r 8 (nI 0)) r 9 (nI 0)) r 10 (nI 0)) r 12 (nI 50)) r 13 (nI 20)) r 14 (nI 1)) r 15 (nI 0)) r 16 (nI 0)) r 17 (nI 0) := ⟨_, rfl⟩
  have g11 : G r 11 = hI h r 11 := by
    rw [eG]
    rw [up2_n _ _ _ _ _ _ (by omega), up2_n _ _ _ _ _ _ (by omega), up2_n _ _ _ _ _ _ (by omega), up2_n _ _ _ _ _ _ (by omega), up2_n _ _ _ _ _ _ (by omega), up2_n _ _ _ _ _ _ (by omega), up2_n _ _ _ _ _ _ (by omega), up2_n _ _ _ _ _ _ (by omega), up2_n _ _ _ _ _ _ (by omega), up2_n _ _ _ _ _ _ (by omega), up2_n _ _ _ _ _ _ (by omega)]
  have gx : ∀ c, ¬ c = r → G c = hI h c := fun c n => by
    rw [eG, up2_f n, up2_f n, up2_f n, up2_f n, up2_f n, up2_f n, up2_f n, up2_f n, up2_f n, up2_f n, up2_f n]
  obtain ⟨N, hN'⟩ : ∃ N, FU = 12 + 1 + N := ⟨FU - 13, by unfold FU; omega⟩
  obtain ⟨F1, e1, f1⟩ := anewR_l (r := r) 12 (h := sI h G) (i := 0) (N := N) (by omega) (SkR.s _ S)
  obtain ⟨F2, e2, f2⟩ := anewR_e (N := N) (h := sI (sI h G) F1) (r := r) (SkR.s _ (SkR.s _ S))
  rw [hI_s] at f1 f2
  refine ⟨F2, ?_, by rw [f2 r (by omega), f1 r (by omega), g11], fun c n => by rw [f2 c (by omega), f1 c (by omega), gx c (by omega)]⟩
  have ew : f_River_beginAnew h r = f_River_beginAnew_l59 FU (sI h G) r (nI 0) := by
    rw [eG]
    simp only [f_River_beginAnew, Nat.add_zero, true_and, and_true, gd_T, bn_S, bv_S, lq_E, wI_s, sI_s, hI_s, hT_s, hL_s, hR_s, hJ_s, hN_s, hU_s, t]
  have z0 : (nI 0 : Int32) = iI ((0 : Nat) : Int) := nI_i 0
  rw [ew, hN', z0, e1, e2]
  rfl
theorem riGa {h0 : AH} {r : Nat} (n0 : hN h0 = r + 7) (tr : hT h0 r = 3) (ra : hR h0 r 0 = r + 1) (ta : hT h0 (r + 1) = 104) (la : hL h0 (r + 1) = 4) : ∃ h', f_River_init_l115 FU h0 r (nI 0) = f_River_init_l141 FU h' r (nI 0) ∧ Nw (fun x => x = r + 1) 4 12 h0 h' ∧ ∀ k, k < 4 → hR h' (r + 1) k = r + (7 + k) ∧ hT h' (r + (7 + k)) = 4 := by
  obtain ⟨h', e1, e2, e3⟩ := loopNw (fun fu h i => f_River_init_l115 fu h r (iI (i : Int))) (fun h => f_River_init_l141 FU h r (nI 0)) 4 (fun i h => Nw (fun x => x = r + 1) i (3 * i) h0 h ∧ ∀ k, k < i → hR h (r + 1) k = r + (7 + k) ∧ hT h (r + (7 + k)) = 4) (by
    intro fu i h hi ⟨w, al⟩
    have n := w.n
    have tr' : hT h r = 3 := (w.t (by omega)).trans tr
    have rr : hR h r 0 = r + 1 := (congrFun (w.r (x := r) (by omega) (fun y => absurd (show r = r + 1 from y) (by omega))) 0).trans ra
    have ta' : hT h (r + 1) = 104 := (w.t (by omega)).trans ta
    have la' : hL h (r + 1) = 4 := (w.l (by omega)).trans la
    obtain ⟨F, e, f⟩ := gaNew (h := hA h 4 3) (a := hN h) (up1_e _ _ _)
    have tA : hT (sI (hA h 4 3) F) (r + 1) = 104 := by rw [hT_s, hT_a, up1_n _ _ _ _ (by omega)]; exact ta'
    have lA : hL (sI (hA h 4 3) F) (r + 1) = 4 := by rw [hL_s, hL_a, up1_n _ _ _ _ (by omega)]; exact la'
    have tN : hT (sI (hA h 4 3) F) (hN h) = 4 := up1_e _ _ _
    have tN0 : hT (hA h 4 3) (hN h) = 4 := up1_e _ _ _
    have v : Nw (fun x => x = r + 1) 1 3 h (wR (sI (hA h 4 3) F) (r + 1) i (hN h)) := (((Nw.al (P := fun x => x = r + 1) h 4 3).trans (Nw.si (P := fun x => x = hN h) f) (fun x hx y => absurd (show x = hN h from y) (by omega))).trans (Nw.wr (P := fun x => x = r + 1) rfl) fun _ _ y => y).mono (fun _ _ y => y) rfl rfl
    refine ⟨wR (sI (hA h 4 3) F) (r + 1) i (hN h), ?_, (w.trans v fun _ _ y => y).mono (fun _ _ y => y) rfl (by omega), fun k hk => ?_⟩
    · show f_River_init_b115 (f_River_init_l115 fu) h r (iI (i : Int)) = _
      unfold f_River_init_b115
      rw [if_neg (by rw [nI_L, iI_le (by omega) (by omega) (by omega) (by omega)]; omega), gd_P tr', lq_E, gd_P tN0, e, bv_S, rr, gd_P ⟨tA, by rw [lA]; exact inb_i hi (by omega), tN⟩, ix_i (by omega), lq_E, nI_L, iI_add, lq_E]
      rfl
    · by_cases c : k = i
      · subst c
        refine ⟨?_, ?_⟩
        · show up2 _ (r + 1) k (hN h) (r + 1) k = _
          rw [up2_e]
          omega
        · show hT (sI (hA h 4 3) F) _ = _
          rw [show r + (7 + k) = hN h by omega]
          exact tN
      · obtain ⟨c1, c2⟩ := al k (by omega)
        refine ⟨?_, (v.t (by omega)).trans c2⟩
        show up2 (up1 (hR h) (hN h) (fun _ => 0)) (r + 1) i (hN h) (r + 1) k = _
        rw [up2_n _ _ _ _ _ _ (fun y => c y.2), up1_n _ _ _ _ (by omega)]
        exact c1) (by
    intro fu h hJ
    show f_River_init_b115 (f_River_init_l115 fu) h r (iI 4) = _
    unfold f_River_init_b115
    rw [if_pos (by rw [nI_L, iI_le (by omega) (by omega) (by omega) (by omega)]; omega)]) 4 0 FU h0 (by omega) (by unfold FU; omega) ⟨Nw.refl _ _, fun k hk => absurd hk (by omega)⟩
  refine ⟨h', ?_, e2, e3⟩
  rw [show (nI 0 : Int32) = iI ((0 : Nat) : Int) from nI_i 0]
  exact e1
def Rk5 (r : Nat) (h : AH) (k : Nat) : Prop := hR h (r + 2) k = r + (11 + 5 * k) ∧ hT h (r + (11 + 5 * k)) = 5 ∧ ∀ q, q < 4 → hR h (r + (11 + 5 * k)) (3 + q) = r + (12 + 5 * k + q) ∧ hT h (r + (12 + 5 * k + q)) = 101 ∧ hL h (r + (12 + 5 * k + q)) = 60
theorem riRa {h0 : AH} {r : Nat} (n0 : hN h0 = r + 11) (tr : hT h0 r = 3) (ra : hR h0 r 1 = r + 2) (ta : hT h0 (r + 2) = 105) (la : hL h0 (r + 2) = 4) : ∃ h', f_River_init_l141 FU h0 r (nI 0) = f_River_init_l167 FU h' r (nI 0) ∧ Nw (fun x => x = r + 2) 20 988 h0 h' ∧ ∀ k, k < 4 → Rk5 r h' k := by
  obtain ⟨h', e1, e2, e3⟩ := loopNw (fun fu h i => f_River_init_l141 fu h r (iI (i : Int))) (fun h => f_River_init_l167 FU h r (nI 0)) 4 (fun i h => Nw (fun x => x = r + 2) (5 * i) (247 * i) h0 h ∧ ∀ k, k < i → Rk5 r h k) (by
    intro fu i h hi ⟨w, al⟩
    have n := w.n
    have tr' : hT h r = 3 := (w.t (by omega)).trans tr
    have rr : hR h r 1 = r + 2 := (congrFun (w.r (x := r) (by omega) (fun y => absurd (show r = r + 2 from y) (by omega))) 1).trans ra
    have ta' : hT h (r + 2) = 105 := (w.t (by omega)).trans ta
    have la' : hL h (r + 2) = 4 := (w.l (by omega)).trans la
    have nA : hN (hA h 5 7) = hN h + 1 := rfl
    obtain ⟨h2, e, u, f⟩ := rkNew (h := hA h 5 7) (a := hN h) (up1_e _ _ _) (by omega)
    have tA : hT h2 (r + 2) = 105 := by rw [u.t (by omega), hT_a, up1_n _ _ _ _ (by omega)]; exact ta'
    have lA : hL h2 (r + 2) = 4 := by rw [u.l (by omega), hL_a, up1_n _ _ _ _ (by omega)]; exact la'
    have tN0 : hT (hA h 5 7) (hN h) = 5 := up1_e _ _ _
    have tN : hT h2 (hN h) = 5 := (u.t (by omega)).trans tN0
    have v : Nw (fun x => x = r + 2) 5 247 h (wR h2 (r + 2) i (hN h)) := (((Nw.al (P := fun x => x = r + 2) h 5 7).trans u (fun x hx y => absurd (show x = hN h from y) (by omega))).trans (Nw.wr (P := fun x => x = r + 2) rfl) fun _ _ y => y).mono (fun _ _ y => y) rfl rfl
    refine ⟨wR h2 (r + 2) i (hN h), ?_, (w.trans v fun _ _ y => y).mono (fun _ _ y => y) (by omega) (by omega), fun k hk => ?_⟩
    · show f_River_init_b141 (f_River_init_l141 fu) h r (iI (i : Int)) = _
      unfold f_River_init_b141
      rw [if_neg (by rw [nI_L, iI_le (by omega) (by omega) (by omega) (by omega)]; omega), gd_P tr', lq_E, gd_P tN0, e, bv_S, rr, gd_P ⟨tA, by rw [lA]; exact inb_i hi (by omega), tN⟩, ix_i (by omega), lq_E, nI_L, iI_add, lq_E]
      rfl
    · by_cases c : k = i
      · subst c
        refine ⟨?_, ?_, fun q hq => ?_⟩
        · show up2 _ (r + 2) k (hN h) (r + 2) k = _
          rw [up2_e]
          omega
        · show hT h2 _ = _
          rw [show r + (11 + 5 * k) = hN h by omega]
          exact tN
        · obtain ⟨f1, f2, f3⟩ := f q hq
          rw [show r + (11 + 5 * k) = hN h by omega, show r + (12 + 5 * k + q) = hN (hA h 5 7) + q by omega]
          refine ⟨?_, f2, f3⟩
          show up2 (hR h2) (r + 2) k (hN h) (hN h) (3 + q) = _
          rw [up2_n _ _ _ _ _ _ (by omega)]
          exact f1
      · obtain ⟨c1, c2, c3⟩ := al k (by omega)
        refine ⟨?_, (v.t (by omega)).trans c2, fun q hq => ?_⟩
        · show up2 (hR h2) (r + 2) i (hN h) (r + 2) k = _
          rw [up2_n _ _ _ _ _ _ (fun y => c y.2), u.r (x := r + 2) (by omega) (fun y => absurd (show r + 2 = hN h from y) (by omega)), hR_a, up1_n _ _ _ _ (by omega)]
          exact c1
        · obtain ⟨d1, d2, d3⟩ := c3 q hq
          rw [v.r (x := r + (11 + 5 * k)) (by omega) (fun y => absurd (show r + (11 + 5 * k) = r + 2 from y) (by omega)), v.t (x := r + (12 + 5 * k + q)) (by omega), v.l (x := r + (12 + 5 * k + q)) (by omega)]
          exact ⟨d1, d2, d3⟩) (by
    intro fu h hJ
    show f_River_init_b141 (f_River_init_l141 fu) h r (iI 4) = _
    unfold f_River_init_b141
    rw [if_pos (by rw [nI_L, iI_le (by omega) (by omega) (by omega) (by omega)]; omega)]) 4 0 FU h0 (by omega) (by unfold FU; omega) ⟨Nw.refl _ _, fun k hk => absurd hk (by omega)⟩
  refine ⟨h', ?_, e2, e3⟩
  rw [show (nI 0 : Int32) = iI ((0 : Nat) : Int) from nI_i 0]
  exact e1
theorem riPe {h0 : AH} {r : Nat} (n0 : hN h0 = r + 31) (tr : hT h0 r = 3) (ra : hR h0 r 2 = r + 3) (ta : hT h0 (r + 3) = 106) (la : hL h0 (r + 3) = 8) : ∃ h', f_River_init_l167 FU h0 r (nI 0) = f_River_init_l194 FU h' r (nI 0) ∧ Nw (fun x => x = r + 3) 8 56 h0 h' ∧ ∀ k, k < 8 → hR h' (r + 3) k = r + (31 + k) ∧ hT h' (r + (31 + k)) = 6 := by
  obtain ⟨h', e1, e2, e3⟩ := loopNw (fun fu h i => f_River_init_l167 fu h r (iI (i : Int))) (fun h => f_River_init_l194 FU h r (nI 0)) 8 (fun i h => Nw (fun x => x = r + 3) i (7 * i) h0 h ∧ ∀ k, k < i → hR h (r + 3) k = r + (31 + k) ∧ hT h (r + (31 + k)) = 6) (by
    intro fu i h hi ⟨w, al⟩
    have n := w.n
    have tr' : hT h r = 3 := (w.t (by omega)).trans tr
    have rr : hR h r 2 = r + 3 := (congrFun (w.r (x := r) (by omega) (fun y => absurd (show r = r + 3 from y) (by omega))) 2).trans ra
    have ta' : hT h (r + 3) = 106 := (w.t (by omega)).trans ta
    have la' : hL h (r + 3) = 8 := (w.l (by omega)).trans la
    obtain ⟨F, e, f⟩ := peNew (h := hA h 6 7) (a := hN h) (up1_e _ _ _)
    have tA : hT (sI (hA h 6 7) F) (r + 3) = 106 := by rw [hT_s, hT_a, up1_n _ _ _ _ (by omega)]; exact ta'
    have lA : hL (sI (hA h 6 7) F) (r + 3) = 8 := by rw [hL_s, hL_a, up1_n _ _ _ _ (by omega)]; exact la'
    have tN : hT (sI (hA h 6 7) F) (hN h) = 6 := up1_e _ _ _
    have tN0 : hT (hA h 6 7) (hN h) = 6 := up1_e _ _ _
    have v : Nw (fun x => x = r + 3) 1 7 h (wR (sI (hA h 6 7) F) (r + 3) i (hN h)) := (((Nw.al (P := fun x => x = r + 3) h 6 7).trans (Nw.si (P := fun x => x = hN h) f) (fun x hx y => absurd (show x = hN h from y) (by omega))).trans (Nw.wr (P := fun x => x = r + 3) rfl) fun _ _ y => y).mono (fun _ _ y => y) rfl rfl
    refine ⟨wR (sI (hA h 6 7) F) (r + 3) i (hN h), ?_, (w.trans v fun _ _ y => y).mono (fun _ _ y => y) rfl (by omega), fun k hk => ?_⟩
    · show f_River_init_b167 (f_River_init_l167 fu) h r (iI (i : Int)) = _
      unfold f_River_init_b167
      rw [if_neg (by rw [nI_L, iI_le (by omega) (by omega) (by omega) (by omega)]; omega), gd_P tr', lq_E, gd_P tN0, e, bv_S, rr, gd_P ⟨tA, by rw [lA]; exact inb_i hi (by omega), tN⟩, ix_i (by omega), lq_E, nI_L, iI_add, lq_E]
      rfl
    · by_cases c : k = i
      · subst c
        refine ⟨?_, ?_⟩
        · show up2 _ (r + 3) k (hN h) (r + 3) k = _
          rw [up2_e]
          omega
        · show hT (sI (hA h 6 7) F) _ = _
          rw [show r + (31 + k) = hN h by omega]
          exact tN
      · obtain ⟨c1, c2⟩ := al k (by omega)
        refine ⟨?_, (v.t (by omega)).trans c2⟩
        show up2 (up1 (hR h) (hN h) (fun _ => 0)) (r + 3) i (hN h) (r + 3) k = _
        rw [up2_n _ _ _ _ _ _ (fun y => c y.2), up1_n _ _ _ _ (by omega)]
        exact c1) (by
    intro fu h hJ
    show f_River_init_b167 (f_River_init_l167 fu) h r (iI 8) = _
    unfold f_River_init_b167
    rw [if_pos (by rw [nI_L, iI_le (by omega) (by omega) (by omega) (by omega)]; omega)]) 8 0 FU h0 (by omega) (by unfold FU; omega) ⟨Nw.refl _ _, fun k hk => absurd hk (by omega)⟩
  refine ⟨h', ?_, e2, e3⟩
  rw [show (nI 0 : Int32) = iI ((0 : Nat) : Int) from nI_i 0]
  exact e1
theorem riBo {h0 : AH} {r : Nat} (n0 : hN h0 = r + 39) (tr : hT h0 r = 3) (ra : hR h0 r 3 = r + 4) (ta : hT h0 (r + 4) = 107) (la : hL h0 (r + 4) = 4) : ∃ h', f_River_init_l194 FU h0 r (nI 0) = f_River_init_l220 FU h' r (nI 0) ∧ Nw (fun x => x = r + 4) 4 28 h0 h' ∧ ∀ k, k < 4 → hR h' (r + 4) k = r + (39 + k) ∧ hT h' (r + (39 + k)) = 7 := by
  obtain ⟨h', e1, e2, e3⟩ := loopNw (fun fu h i => f_River_init_l194 fu h r (iI (i : Int))) (fun h => f_River_init_l220 FU h r (nI 0)) 4 (fun i h => Nw (fun x => x = r + 4) i (7 * i) h0 h ∧ ∀ k, k < i → hR h (r + 4) k = r + (39 + k) ∧ hT h (r + (39 + k)) = 7) (by
    intro fu i h hi ⟨w, al⟩
    have n := w.n
    have tr' : hT h r = 3 := (w.t (by omega)).trans tr
    have rr : hR h r 3 = r + 4 := (congrFun (w.r (x := r) (by omega) (fun y => absurd (show r = r + 4 from y) (by omega))) 3).trans ra
    have ta' : hT h (r + 4) = 107 := (w.t (by omega)).trans ta
    have la' : hL h (r + 4) = 4 := (w.l (by omega)).trans la
    obtain ⟨F, e, f⟩ := boNew (h := hA h 7 7) (a := hN h) (up1_e _ _ _)
    have tA : hT (sI (hA h 7 7) F) (r + 4) = 107 := by rw [hT_s, hT_a, up1_n _ _ _ _ (by omega)]; exact ta'
    have lA : hL (sI (hA h 7 7) F) (r + 4) = 4 := by rw [hL_s, hL_a, up1_n _ _ _ _ (by omega)]; exact la'
    have tN : hT (sI (hA h 7 7) F) (hN h) = 7 := up1_e _ _ _
    have tN0 : hT (hA h 7 7) (hN h) = 7 := up1_e _ _ _
    have v : Nw (fun x => x = r + 4) 1 7 h (wR (sI (hA h 7 7) F) (r + 4) i (hN h)) := (((Nw.al (P := fun x => x = r + 4) h 7 7).trans (Nw.si (P := fun x => x = hN h) f) (fun x hx y => absurd (show x = hN h from y) (by omega))).trans (Nw.wr (P := fun x => x = r + 4) rfl) fun _ _ y => y).mono (fun _ _ y => y) rfl rfl
    refine ⟨wR (sI (hA h 7 7) F) (r + 4) i (hN h), ?_, (w.trans v fun _ _ y => y).mono (fun _ _ y => y) rfl (by omega), fun k hk => ?_⟩
    · show f_River_init_b194 (f_River_init_l194 fu) h r (iI (i : Int)) = _
      unfold f_River_init_b194
      rw [if_neg (by rw [nI_L, iI_le (by omega) (by omega) (by omega) (by omega)]; omega), gd_P tr', lq_E, gd_P tN0, e, bv_S, rr, gd_P ⟨tA, by rw [lA]; exact inb_i hi (by omega), tN⟩, ix_i (by omega), lq_E, nI_L, iI_add, lq_E]
      rfl
    · by_cases c : k = i
      · subst c
        refine ⟨?_, ?_⟩
        · show up2 _ (r + 4) k (hN h) (r + 4) k = _
          rw [up2_e]
          omega
        · show hT (sI (hA h 7 7) F) _ = _
          rw [show r + (39 + k) = hN h by omega]
          exact tN
      · obtain ⟨c1, c2⟩ := al k (by omega)
        refine ⟨?_, (v.t (by omega)).trans c2⟩
        show up2 (up1 (hR h) (hN h) (fun _ => 0)) (r + 4) i (hN h) (r + 4) k = _
        rw [up2_n _ _ _ _ _ _ (fun y => c y.2), up1_n _ _ _ _ (by omega)]
        exact c1) (by
    intro fu h hJ
    show f_River_init_b194 (f_River_init_l194 fu) h r (iI 4) = _
    unfold f_River_init_b194
    rw [if_pos (by rw [nI_L, iI_le (by omega) (by omega) (by omega) (by omega)]; omega)]) 4 0 FU h0 (by omega) (by unfold FU; omega) ⟨Nw.refl _ _, fun k hk => absurd hk (by omega)⟩
  refine ⟨h', ?_, e2, e3⟩
  rw [show (nI 0 : Int32) = iI ((0 : Nat) : Int) from nI_i 0]
  exact e1
theorem riQr {h0 : AH} {r : Nat} (n0 : hN h0 = r + 43) (tr : hT h0 r = 3) (ra : hR h0 r 4 = r + 5) (ta : hT h0 (r + 5) = 108) (la : hL h0 (r + 5) = 4) : ∃ h', f_River_init_l220 FU h0 r (nI 0) = gd (hT h' r = 3) (bv (f_River_beginAnew h' r) fun h3 => some h3) ∧ Nw (fun x => x = r + 5) 4 16 h0 h' ∧ ∀ k, k < 4 → hR h' (r + 5) k = r + (43 + k) ∧ hT h' (r + (43 + k)) = 8 := by
  obtain ⟨h', e1, e2, e3⟩ := loopNw (fun fu h i => f_River_init_l220 fu h r (iI (i : Int))) (fun h => gd (hT h r = 3) (bv (f_River_beginAnew h r) fun h3 => some h3)) 4 (fun i h => Nw (fun x => x = r + 5) i (4 * i) h0 h ∧ ∀ k, k < i → hR h (r + 5) k = r + (43 + k) ∧ hT h (r + (43 + k)) = 8) (by
    intro fu i h hi ⟨w, al⟩
    have n := w.n
    have tr' : hT h r = 3 := (w.t (by omega)).trans tr
    have rr : hR h r 4 = r + 5 := (congrFun (w.r (x := r) (by omega) (fun y => absurd (show r = r + 5 from y) (by omega))) 4).trans ra
    have ta' : hT h (r + 5) = 108 := (w.t (by omega)).trans ta
    have la' : hL h (r + 5) = 4 := (w.l (by omega)).trans la
    obtain ⟨F, e, f⟩ := qrNew (h := hA h 8 4) (a := hN h) (up1_e _ _ _)
    have tA : hT (sI (hA h 8 4) F) (r + 5) = 108 := by rw [hT_s, hT_a, up1_n _ _ _ _ (by omega)]; exact ta'
    have lA : hL (sI (hA h 8 4) F) (r + 5) = 4 := by rw [hL_s, hL_a, up1_n _ _ _ _ (by omega)]; exact la'
    have tN : hT (sI (hA h 8 4) F) (hN h) = 8 := up1_e _ _ _
    have tN0 : hT (hA h 8 4) (hN h) = 8 := up1_e _ _ _
    have v : Nw (fun x => x = r + 5) 1 4 h (wR (sI (hA h 8 4) F) (r + 5) i (hN h)) := (((Nw.al (P := fun x => x = r + 5) h 8 4).trans (Nw.si (P := fun x => x = hN h) f) (fun x hx y => absurd (show x = hN h from y) (by omega))).trans (Nw.wr (P := fun x => x = r + 5) rfl) fun _ _ y => y).mono (fun _ _ y => y) rfl rfl
    refine ⟨wR (sI (hA h 8 4) F) (r + 5) i (hN h), ?_, (w.trans v fun _ _ y => y).mono (fun _ _ y => y) rfl (by omega), fun k hk => ?_⟩
    · show f_River_init_b220 (f_River_init_l220 fu) h r (iI (i : Int)) = _
      unfold f_River_init_b220
      rw [if_neg (by rw [nI_L, iI_le (by omega) (by omega) (by omega) (by omega)]; omega), gd_P tr', lq_E, gd_P tN0, e, bv_S, rr, gd_P ⟨tA, by rw [lA]; exact inb_i hi (by omega), tN⟩, ix_i (by omega), lq_E, nI_L, iI_add, lq_E]
      rfl
    · by_cases c : k = i
      · subst c
        refine ⟨?_, ?_⟩
        · show up2 _ (r + 5) k (hN h) (r + 5) k = _
          rw [up2_e]
          omega
        · show hT (sI (hA h 8 4) F) _ = _
          rw [show r + (43 + k) = hN h by omega]
          exact tN
      · obtain ⟨c1, c2⟩ := al k (by omega)
        refine ⟨?_, (v.t (by omega)).trans c2⟩
        show up2 (up1 (hR h) (hN h) (fun _ => 0)) (r + 5) i (hN h) (r + 5) k = _
        rw [up2_n _ _ _ _ _ _ (fun y => c y.2), up1_n _ _ _ _ (by omega)]
        exact c1) (by
    intro fu h hJ
    show f_River_init_b220 (f_River_init_l220 fu) h r (iI 4) = _
    unfold f_River_init_b220
    rw [if_pos (by rw [nI_L, iI_le (by omega) (by omega) (by omega) (by omega)]; omega)]) 4 0 FU h0 (by omega) (by unfold FU; omega) ⟨Nw.refl _ _, fun k hk => absurd hk (by omega)⟩
  refine ⟨h', ?_, e2, e3⟩
  rw [show (nI 0 : Int32) = iI ((0 : Nat) : Int) from nI_i 0]
  exact e1
theorem faS {h : AH} {r A tg k f : Nat} (hn : hN h = r + A) (hA1 : 1 ≤ A) (t : hT h r = 3) : ∃ h', h' = fa h tg k r f ∧ Nw (fun x => x = r) 1 k h h' ∧ hR h' r f = r + A ∧ (∀ s, s ≠ f → hR h' r s = hR h r s) ∧ (hT h' (r + A) = tg ∧ hL h' (r + A) = k) ∧ hN h' = r + (A + 1) ∧ hT h' r = 3 ∧ r < hN h ∧ ∀ x, x < r + A → hT h' x = hT h x ∧ hL h' x = hL h x := by
  have u : Nw (fun x => x = r) 1 k h (fa h tg k r f) := fa_w (by omega)
  refine ⟨_, rfl, u, fa_R.trans hn, fun s hs => fa_R2 (by omega) hs, by rw [← hn]; exact ⟨fa_T, fa_L⟩, by rw [u.n, hn]; rfl, (u.t (by omega)).trans t, by omega, fun x hx => ⟨u.t (by omega), u.l (by omega)⟩⟩
def ArR (r : Nat) (h : AH) : Prop := hT h r = 3 ∧ (hR h r 0 = r + 1 ∧ hR h r 1 = r + 2 ∧ hR h r 2 = r + 3 ∧ hR h r 3 = r + 4 ∧ hR h r 4 = r + 5 ∧ hR h r 5 = r + 6) ∧ (hT h (r + 1) = 104 ∧ hL h (r + 1) = 4) ∧ (hT h (r + 2) = 105 ∧ hL h (r + 2) = 4) ∧ (hT h (r + 3) = 106 ∧ hL h (r + 3) = 8) ∧ (hT h (r + 4) = 107 ∧ hL h (r + 4) = 4) ∧ (hT h (r + 5) = 108 ∧ hL h (r + 5) = 4) ∧ (hT h (r + 6) = 101 ∧ hL h (r + 6) = 12)
theorem ArR.nw {P : Nat → Prop} {r c d : Nat} {h h' : AH} (k : ArR r h) (u : Nw P c d h h') (hb : r + 7 ≤ hN h) (e : ¬ P r) : ArR r h' := by
  unfold ArR
  rw [u.t (x := r) (by omega), u.r (x := r) (by omega) e, u.t (x := r + 1) (by omega), u.t (x := r + 2) (by omega), u.t (x := r + 3) (by omega), u.t (x := r + 4) (by omega), u.t (x := r + 5) (by omega), u.t (x := r + 6) (by omega), u.l (x := r + 1) (by omega), u.l (x := r + 2) (by omega), u.l (x := r + 3) (by omega), u.l (x := r + 4) (by omega), u.l (x := r + 5) (by omega), u.l (x := r + 6) (by omega)]
  exact k
theorem zero12 {h : AH} {r : Nat} (t : hT h r = 3) : ∃ G, (∀ x, ¬ x = r → G x = hI h x) ∧ G r 11 = nI 0 ∧ (gd (hT h r = 3) <| lq (wI h r 6 (nI 0)) fun h21 => gd (hT h21 r = 3) <| lq (wI h21 r 7 (nI 0)) fun h23 => gd (hT h23 r = 3) <| lq (wI h23 r 8 (nI 0)) fun h25 => gd (hT h25 r = 3) <| lq (wI h25 r 9 (nI 0)) fun h27 => gd (hT h27 r = 3) <| lq (wI h27 r 10 (nI 0)) fun h29 => gd (hT h29 r = 3) <| lq (wI h29 r 11 (nI 0)) fun h31 => gd (hT h31 r = 3) <| lq (wI h31 r 12 (nI 0)) fun h33 => gd (hT h33 r = 3) <| lq (wI h33 r 13 (nI 0)) fun h35 => gd (hT h35 r = 3) <| lq (wI h35 r 14 (nI 0)) fun h37 => gd (hT h37 r = 3) <| lq (wI h37 r 15 (nI 0)) fun h39 => gd (hT h39 r = 3) <| lq (wI h39 r 16 (nI 0)) fun h41 => gd (hT h41 r = 3) <| lq (wI h41 r 17 (nI 0)) fun h43 => f_River_init_l115 FU h43 r (nI 0)) = f_River_init_l115 FU (sI h G) r (nI 0) := by
  refine ⟨up2 (up2 (up2 (up2 (up2 (up2 (up2 (up2 (up2 (up2 (up2 (up2 (hI h) r 6 (nI 0)) r 7 (nI 0)) r 8 (nI 0)) r 9 (nI 0)) r 10 (nI 0)) r 11 (nI 0)) r 12 (nI 0)) r 13 (nI 0)) r 14 (nI 0)) r 15 (nI 0)) r 16 (nI 0)) r 17 (nI 0), fun x hx => ?_, ?_, ?_⟩
  · rw [up2_f hx, up2_f hx, up2_f hx, up2_f hx, up2_f hx, up2_f hx, up2_f hx, up2_f hx, up2_f hx, up2_f hx, up2_f hx, up2_f hx]
  · rw [up2_n _ _ _ _ _ _ (by omega), up2_n _ _ _ _ _ _ (by omega), up2_n _ _ _ _ _ _ (by omega), up2_n _ _ _ _ _ _ (by omega), up2_n _ _ _ _ _ _ (by omega), up2_n _ _ _ _ _ _ (by omega), up2_e]
  · simp only [Nat.add_zero, true_and, and_true, gd_T, bn_S, bv_S, lq_E, wI_s, sI_s, hI_s, hT_s, hL_s, hR_s, hJ_s, hN_s, hU_s, t]
theorem riArr {h : AH} {r : Nat} (t : hT h r = 3) (hr : hN h = r + 1) : ∃ h', f_River_init h r = f_River_init_l115 FU h' r (nI 0) ∧ Nw (fun x => x = r) 6 36 h h' ∧ ArR r h' ∧ hI h' r 11 = nI 0 := by
  have i4 : ix (nI 4) = 4 := by decide
  have i8 : ix (nI 8) = 8 := by decide
  have i12 : ix (nI 12) = 12 := by decide
  obtain ⟨h1, e1, w1, a1, b1, c1, n1, t1, l1, -⟩ := faS (tg := 104) (k := 4) (f := 0) hr (by decide) t
  obtain ⟨h2, e2, w2, a2, b2, c2, n2, t2, l2, m2⟩ := faS (tg := 105) (k := 4) (f := 1) n1 (by decide) t1
  obtain ⟨h3, e3, w3, a3, b3, c3, n3, t3, l3, m3⟩ := faS (tg := 106) (k := 8) (f := 2) n2 (by decide) t2
  obtain ⟨h4, e4, w4, a4, b4, c4, n4, t4, l4, m4⟩ := faS (tg := 107) (k := 4) (f := 3) n3 (by decide) t3
  obtain ⟨h5, e5, w5, a5, b5, c5, n5, t5, l5, m5⟩ := faS (tg := 108) (k := 4) (f := 4) n4 (by decide) t4
  obtain ⟨h6, e6, w6, a6, b6, c6, n6, t6, l6, m6⟩ := faS (tg := 101) (k := 12) (f := 5) n5 (by decide) t5
  have L : ∀ {a b : Nat}, a < b → r + a < r + b := fun q => Nat.add_lt_add_left q r
  obtain ⟨G, Gx, G11, eG⟩ := zero12 t6
  have ar : ArR r h6 := by
    refine ⟨t6, ⟨?_, ?_, ?_, ?_, ?_, a6⟩, ?_, ?_, ?_, ?_, ?_, c6⟩
    · rw [b6 0 (by decide), b5 0 (by decide), b4 0 (by decide), b3 0 (by decide), b2 0 (by decide)]; exact a1
    · rw [b6 1 (by decide), b5 1 (by decide), b4 1 (by decide), b3 1 (by decide)]; exact a2
    · rw [b6 2 (by decide), b5 2 (by decide), b4 2 (by decide)]; exact a3
    · rw [b6 3 (by decide), b5 3 (by decide)]; exact a4
    · rw [b6 4 (by decide)]; exact a5
    · rw [(m6 _ (L (by decide))).1, (m5 _ (L (by decide))).1, (m4 _ (L (by decide))).1, (m3 _ (L (by decide))).1, (m2 _ (L (by decide))).1, (m6 _ (L (by decide))).2, (m5 _ (L (by decide))).2, (m4 _ (L (by decide))).2, (m3 _ (L (by decide))).2, (m2 _ (L (by decide))).2]; exact c1
    · rw [(m6 _ (L (by decide))).1, (m5 _ (L (by decide))).1, (m4 _ (L (by decide))).1, (m3 _ (L (by decide))).1, (m6 _ (L (by decide))).2, (m5 _ (L (by decide))).2, (m4 _ (L (by decide))).2, (m3 _ (L (by decide))).2]; exact c2
    · rw [(m6 _ (L (by decide))).1, (m5 _ (L (by decide))).1, (m4 _ (L (by decide))).1, (m6 _ (L (by decide))).2, (m5 _ (L (by decide))).2, (m4 _ (L (by decide))).2]; exact c3
    · rw [(m6 _ (L (by decide))).1, (m5 _ (L (by decide))).1, (m6 _ (L (by decide))).2, (m5 _ (L (by decide))).2]; exact c4
    · rw [(m6 _ (L (by decide))).1, (m6 _ (L (by decide))).2]; exact c5
  have w7 : Nw (fun x => x = r) 0 0 h6 (sI h6 G) := Nw.si Gx
  refine ⟨sI h6 G, ?_, ((((((w1.trans w2 fun _ _ y => y).trans w3 fun _ _ y => y).trans w4 fun _ _ y => y).trans w5 fun _ _ y => y).trans w6 fun _ _ y => y).trans w7 fun _ _ y => y).mono (fun _ _ y => y) rfl rfl, ar, G11⟩
  unfold f_River_init
  rw [gd_P t, i4, fa_E t (by omega), ← e1, fa_E t1 l2, ← e2, i8, fa_E t2 l3, ← e3, fa_E t3 l4, ← e4, fa_E t4 l5, ← e5, i12, fa_E t5 l6, ← e6]
  exact eG
-- the objects
def GaR (r : Nat) (h : AH) : Prop := ∀ i, i < 4 → hR h (r + 1) i = r + (7 + i) ∧ hT h (r + (7 + i)) = 4
def RaR (r : Nat) (h : AH) : Prop := ∀ i, i < 4 → Rk5 r h i
def PeR (r : Nat) (h : AH) : Prop := ∀ i, i < 8 → hR h (r + 3) i = r + (31 + i) ∧ hT h (r + (31 + i)) = 6
def BoR (r : Nat) (h : AH) : Prop := ∀ i, i < 4 → hR h (r + 4) i = r + (39 + i) ∧ hT h (r + (39 + i)) = 7
section
variable {P : Nat → Prop} {r c d : Nat} {h h' : AH}
theorem GaR.nw (k : GaR r h) (u : Nw P c d h h') (hb : r + 11 ≤ hN h) (e : ¬ P (r + 1)) : GaR r h' := fun i hi => by
  rw [u.r (x := r + 1) (by omega) e, u.t (x := r + (7 + i)) (by omega)]
  exact k i hi
theorem RaR.nw (k : RaR r h) (u : Nw P c d h h') (hb : r + 31 ≤ hN h) (e : ¬ P (r + 2)) (e2 : ∀ i, i < 4 → ¬ P (r + (11 + 5 * i))) : RaR r h' := fun i hi => by
  obtain ⟨k1, k2, k3⟩ := k i hi
  refine ⟨by rw [u.r (x := r + 2) (by omega) e]; exact k1, (u.t (by omega)).trans k2, fun q hq => ?_⟩
  rw [u.r (x := r + (11 + 5 * i)) (by omega) (e2 i hi), u.t (x := r + (12 + 5 * i + q)) (by omega), u.l (x := r + (12 + 5 * i + q)) (by omega)]
  exact k3 q hq
theorem PeR.nw (k : PeR r h) (u : Nw P c d h h') (hb : r + 39 ≤ hN h) (e : ¬ P (r + 3)) : PeR r h' := fun i hi => by
  rw [u.r (x := r + 3) (by omega) e, u.t (x := r + (31 + i)) (by omega)]
  exact k i hi
theorem BoR.nw (k : BoR r h) (u : Nw P c d h h') (hb : r + 43 ≤ hN h) (e : ¬ P (r + 4)) : BoR r h' := fun i hi => by
  rw [u.r (x := r + 4) (by omega) e, u.t (x := r + (39 + i)) (by omega)]
  exact k i hi
end
theorem SkR.of {h : AH} {r : Nat} (a : ArR r h) (g : GaR r h) (k : RaR r h) (p : PeR r h) (b : BoR r h) (q : ∀ i, i < 4 → hR h (r + 5) i = r + (43 + i) ∧ hT h (r + (43 + i)) = 8) : SkR h r := by
  obtain ⟨t, ⟨r0, r1, r2, r3, r4, r5⟩, a1, a2, a3, a4, a5, a6⟩ := a
  refine ⟨t, r0, r1, r2, r3, r4, r5, ⟨a1.1, a1.2, a2.1, a2.2, a3.1, a3.2, a4.1, a4.2, a5.1, a5.2, a6.1, a6.2⟩, g, fun i hi => ?_, p, b, q⟩
  obtain ⟨c1, c2, c3⟩ := k i hi
  have k0 := c3 0 (by omega)
  have k1 := c3 1 (by omega)
  have k2 := c3 2 (by omega)
  have k3 := c3 3 (by omega)
  rw [Nat.add_zero] at k0
  rw [show 12 + 5 * i + 1 = 13 + 5 * i by omega] at k1
  rw [show 12 + 5 * i + 2 = 14 + 5 * i by omega] at k2
  rw [show 12 + 5 * i + 3 = 15 + 5 * i by omega] at k3
  exact ⟨c1, c2, k0.1, k1.1, k2.1, k3.1, k0.2.1, k1.2.1, k2.2.1, k3.2.1, k0.2.2, k1.2.2, k2.2.2, k3.2.2⟩
theorem riObj {h : AH} {r : Nat} (n : hN h = r + 7) (a : ArR r h) : ∃ h', f_River_init_l115 FU h r (nI 0) = gd (hT h' r = 3) (bv (f_River_beginAnew h' r) fun h3 => some h3) ∧ Nw (fun x => r < x ∧ x < r + 7) 40 1100 h h' ∧ SkR h' r := by
  have ne : ∀ A B : Nat, A ≠ B → ¬ r + A = r + B := fun A B q y => by omega
  have n0 : ∀ A : Nat, 1 ≤ A → ¬ r = r + A := fun A q y => by omega
  obtain ⟨h1, e1, u1, g1⟩ := riGa n a.1 a.2.1.1 a.2.2.1.1 a.2.2.1.2
  have n1 : hN h1 = r + 11 := by rw [u1.n, n]
  have a1 : ArR r h1 := a.nw u1 (by omega) (n0 1 (by decide))
  obtain ⟨h2, e2, u2, k2⟩ := riRa n1 a1.1 a1.2.1.2.1 a1.2.2.2.1.1 a1.2.2.2.1.2
  have n2 : hN h2 = r + 31 := by rw [u2.n, n1]
  have a2 : ArR r h2 := a1.nw u2 (by omega) (n0 2 (by decide))
  have g2 : GaR r h2 := GaR.nw g1 u2 (by omega) (ne 1 2 (by decide))
  obtain ⟨h3, e3, u3, p3⟩ := riPe n2 a2.1 a2.2.1.2.2.1 a2.2.2.2.2.1.1 a2.2.2.2.2.1.2
  have n3 : hN h3 = r + 39 := by rw [u3.n, n2]
  have a3 : ArR r h3 := a2.nw u3 (by omega) (n0 3 (by decide))
  have g3 : GaR r h3 := g2.nw u3 (by omega) (ne 1 3 (by decide))
  have k3 : RaR r h3 := RaR.nw k2 u3 (by omega) (ne 2 3 (by decide)) fun i hi => ne (11 + 5 * i) 3 (by omega)
  obtain ⟨h4, e4, u4, b4⟩ := riBo n3 a3.1 a3.2.1.2.2.2.1 a3.2.2.2.2.2.1.1 a3.2.2.2.2.2.1.2
  have n4 : hN h4 = r + 43 := by rw [u4.n, n3]
  have a4 : ArR r h4 := a3.nw u4 (by omega) (n0 4 (by decide))
  have g4 : GaR r h4 := g3.nw u4 (by omega) (ne 1 4 (by decide))
  have k4 : RaR r h4 := k3.nw u4 (by omega) (ne 2 4 (by decide)) fun i hi => ne (11 + 5 * i) 4 (by omega)
  have p4 : PeR r h4 := PeR.nw p3 u4 (by omega) (ne 3 4 (by decide))
  obtain ⟨h5, e5, u5, q5⟩ := riQr n4 a4.1 a4.2.1.2.2.2.2.1 a4.2.2.2.2.2.2.1.1 a4.2.2.2.2.2.2.1.2
  have a5 : ArR r h5 := a4.nw u5 (by omega) (n0 5 (by decide))
  have g5 : GaR r h5 := g4.nw u5 (by omega) (ne 1 5 (by decide))
  have k5 : RaR r h5 := k4.nw u5 (by omega) (ne 2 5 (by decide)) fun i hi => ne (11 + 5 * i) 5 (by omega)
  have p5 : PeR r h5 := p4.nw u5 (by omega) (ne 3 5 (by decide))
  have b5 : BoR r h5 := BoR.nw b4 u5 (by omega) (ne 4 5 (by decide))
  have M : ∀ A : Nat, 1 ≤ A → A < 7 → ∀ x, x = r + A → r < x ∧ x < r + 7 := fun A q1 q2 x y => by omega
  have v1 := u1.mono (Q := fun x => r < x ∧ x < r + 7) (fun x _ y => M 1 (by decide) (by decide) x y) rfl rfl
  have v2 := u2.mono (Q := fun x => r < x ∧ x < r + 7) (fun x _ y => M 2 (by decide) (by decide) x y) rfl rfl
  have v3 := u3.mono (Q := fun x => r < x ∧ x < r + 7) (fun x _ y => M 3 (by decide) (by decide) x y) rfl rfl
  have v4 := u4.mono (Q := fun x => r < x ∧ x < r + 7) (fun x _ y => M 4 (by decide) (by decide) x y) rfl rfl
  have v5 := u5.mono (Q := fun x => r < x ∧ x < r + 7) (fun x _ y => M 5 (by decide) (by decide) x y) rfl rfl
  exact ⟨h5, by rw [e1, e2, e3, e4, e5], ((((v1.trans v2 fun _ _ y => y).trans v3 fun _ _ y => y).trans v4 fun _ _ y => y).trans v5 fun _ _ y => y).mono (fun _ _ y => y) rfl rfl, SkR.of a5 g5 k5 p5 b5 q5⟩
theorem riNew {h : AH} {r : Nat} (t : hT h r = 3) (hr : hN h = r + 1) : ∃ h', f_River_init h r = some h' ∧ Nw (fun x => x = r) 46 1136 h h' ∧ SkR h' r ∧ hI h' r 11 = nI 0 := by
  obtain ⟨h1, e1, u1, a1, z1⟩ := riArr t hr
  have n1 : hN h1 = r + 7 := by rw [u1.n, hr]
  obtain ⟨h2, e2, u2, S⟩ := riObj n1 a1
  obtain ⟨F, eF, f11, fx⟩ := anewR S
  have n2 : hN h2 = r + 47 := by rw [u2.n, n1]
  have u3 : Nw (fun x => r ≤ x ∧ x < r + 47) 0 0 h2 (sI h2 F) := Nw.si fx
  refine ⟨sI h2 F, by rw [e1, e2, gd_P S.t, eF, bv_S], ?_, SkR.s F S, ?_⟩
  · exact ((u1.trans u2 fun x hx y => absurd (show r < x from y.1) (by omega)).trans u3 fun x hx y => by have q : r ≤ x := y.1; show x = r; omega).mono (fun _ _ y => y) rfl rfl
  · rw [hI_s, f11, u2.i (x := r) (by omega) (fun y => absurd (show r < r from y.1) (by omega)), z1]

/-! 44 L3: loading and resting by orders; whole orders -/
theorem tk_load {n m p b r : Nat} (hN : Nm n m p b) (hr : 206 ≤ r) {g : GM} (hk : Ok n m p b g) {l : List Int} (hl : l.length < 390) {i k : Nat} (hi : i < b) (hk4 : k < 4) {w : Int} (w1 : -1000000 ≤ w) (w2 : w ≤ 1000000) {v : Int} (hv : v = 0 ∨ v = 1) : Tk n m p b r (nI 23) (iI (i : Int)) (v :: (k : Int) :: w :: l) g l (if v = 1 ∧ 1 ≤ mMany g i k w then mDone (mLoad i k (mMany g i k w) g) else g) := by
  intro h hS hO hP hs
  obtain ⟨-, -, -, k3, -, -, -, k7, k10⟩ := hk
  obtain ⟨k8, k9, k11, k12⟩ := k7 i hi
  obtain ⟨k13, k14⟩ := k10 k hk4
  have hb : b ≤ 4 := by unfold Nm at hN; omega
  have hm : m ≤ 4 := by unfold Nm at hN; omega
  obtain ⟨e1, e2⟩ := pop_E hO hs (by simp only [List.length_cons]; omega)
  obtain ⟨d1, d2⟩ := pop_E (h := sI h (up2 (hI h) 202 4 (iI (((k : Int) :: w :: l).length : Int)))) hO e2 (by simp only [List.length_cons]; omega)
  obtain ⟨c1, c2⟩ := pop_E (h := sI h (up2 (up2 (hI h) 202 4 (iI (((k : Int) :: w :: l).length : Int))) 202 4 (iI ((w :: l).length : Int)))) hO d2 (by omega)
  simp only [List.length_cons, hI_s, sI_s] at e1 e2 d1 d2 c1 c2
  generalize hF3 : up2 (up2 (up2 (hI h) 202 4 (iI ((l.length + 1 + 1 : Nat) : Int))) 202 4 (iI ((l.length + 1 : Nat) : Int))) 202 4 (iI (l.length : Int)) = F3 at *
  have P1 : RP n m p b r F3 g := by subst hF3; exact hP.fr hN (fun c s _ => by rw [up2_n _ _ _ _ _ _ (by omega), up2_n _ _ _ _ _ _ (by omega), up2_n _ _ _ _ _ _ (by omega)])
  have R1 : Fo r (hI h) F3 := by subst hF3; exact ((((Fo.refl _ _).hg _).hg _).hg _)
  clear hF3
  have f1 := hasBoat_E (h := sI h F3) hS P1 (i := (i : Int)) (by omega) (by omega) hb k3
  have f2 := hasGrade_E (h := sI h F3) (r := r) (i := (k : Int)) (by omega) (by omega)
  rcases hv with rfl | rfl
  · rw [if_neg (by omega)]
    refine ⟨_, ?_, P1, c2, R1⟩
    simp (disch := first | decide | omega) only [f_Orders_take, f_Orders_loadByOrder, f_Orders_loadByOrder_b12, Nat.add_zero, true_and, and_true, gd_T, bn_S, bv_S, lq_E, wI_s, sI_s, hI_s, hT_s, hL_s, hR_s, hJ_s, hN_s, hU_s, nI_L, z_i, o_i, iI_add, iI_sub, iI_mul, iI_neg, iI_lt, iI_le, iI_eq, iI_ix, Int.toNat_natCast, if_neg, if_pos, gd_P, inb, ix, hO.t, e1, d1, c1]
  · by_cases c : 1 ≤ mMany g i k w
    · rw [if_pos ⟨rfl, c⟩]
      obtain ⟨F, q1, q2, q3⟩ := load_E (h := sI h F3) hm hb hS P1 k3 hi hk4 w1 w2 k8 k9 k13 k14 k11 k12 c
      have q4 : mMany g i k w ≤ 40 := by unfold mMany; split <;> omega
      refine ⟨_, ?_, q2.up hm 0 17 (v := mLoad i k (mMany g i k w) g 0 17 + 1) rfl (by omega), ?_, (R1.trans q3.o).up 0 17 _ (by omega)⟩
      · generalize mMany g i k w = q at *
        simp (disch := first | decide | omega) only [f_Orders_take, f_Orders_loadByOrder, f_Orders_loadByOrder_b12, Nat.add_zero, true_and, and_true, gd_T, bn_S, bv_S, lq_E, wI_s, sI_s, hI_s, hT_s, hL_s, hR_s, hJ_s, hN_s, hU_s, nI_L, z_i, o_i, iI_add, iI_sub, iI_mul, iI_neg, iI_lt, iI_le, iI_eq, iI_ix, Int.toNat_natCast, if_neg, if_pos, gd_P, inb, ix, hO.t, hS.t, e1, d1, c1, f1, f2, q1, q2.sc]
      · refine c2.fr fun c s hc => ?_
        rw [up2_n _ _ _ _ _ _ (by omega)]
        exact q3 c s (by omega)
    · rw [if_neg (fun q => c q.2)]
      have q1 := load_N (h := sI h F3) hb hS P1 k3 hi hk4 w1 w2 k8 k9 k13 k14 k11 k12 c
      refine ⟨_, ?_, P1, c2, R1⟩
      simp (disch := first | decide | omega) only [f_Orders_take, f_Orders_loadByOrder, f_Orders_loadByOrder_b12, Nat.add_zero, true_and, and_true, gd_T, bn_S, bv_S, lq_E, wI_s, sI_s, hI_s, hT_s, hL_s, hR_s, hJ_s, hN_s, hU_s, nI_L, z_i, o_i, iI_add, iI_sub, iI_mul, iI_neg, iI_lt, iI_le, iI_eq, iI_ix, Int.toNat_natCast, if_neg, if_pos, gd_P, inb, ix, hO.t, hS.t, e1, d1, c1, f1, f2, q1]
theorem tk_rest {n m p b r : Nat} (hN : Nm n m p b) (hr : 206 ≤ r) {g : GM} (hk : Ok n m p b g) {l : List Int} (hl : l.length < 398) {i : Nat} (hi : i < p) {v : Int} (hv : v = 0 ∨ v = 1) : Tk n m p b r (nI 25) (iI (i : Int)) (v :: l) g l (if v = 1 then mDone (up2 g (31 + i) 6 1) else g) := by
  intro h hS hO hP hs
  obtain ⟨-, -, k3, -, k5, k6, k7, -⟩ := hk
  have hp : p ≤ 8 := by unfold Nm at hN; omega
  have hm : m ≤ 4 := by unfold Nm at hN; omega
  obtain ⟨e1, e2⟩ := pop_E hO hs (by omega)
  have P1 : RP n m p b r (up2 (hI h) 202 4 (iI (l.length : Int))) g := hP.fr hN (fun c s _ => by rw [up2_n _ _ _ _ _ _ (by omega)])
  have f1 := hasPeeler_E (h := sI h (up2 (hI h) 202 4 (iI (l.length : Int)))) hS P1 (i := (i : Int)) (by omega) (by omega) hp k3
  rcases hv with rfl | rfl
  · rw [if_neg (by omega)]
    refine ⟨_, ?_, P1, e2, (Fo.refl _ _).hg _⟩
    simp (disch := first | decide | omega) only [f_Orders_take, f_Orders_restByOrder, f_Orders_restByOrder_b12, Nat.add_zero, true_and, and_true, gd_T, bn_S, bv_S, lq_E, wI_s, sI_s, hI_s, hT_s, hL_s, hR_s, hJ_s, hN_s, hU_s, nI_L, z_i, o_i, iI_add, iI_sub, iI_mul, iI_neg, iI_lt, iI_le, iI_eq, iI_ix, Int.toNat_natCast, if_neg, if_pos, gd_P, inb, ix, hO.t, e1]
  · rw [if_pos rfl]
    refine ⟨_, ?_, (P1.up hm (31 + i) 6 (v := 1) rfl (by omega)).up hm 0 17 (v := up2 g (31 + i) 6 1 0 17 + 1) rfl (by omega), ?_, (((Fo.refl _ _).hg _).up _ _ _ (by omega)).up 0 17 _ (by omega)⟩
    · have e := P1.sc 17 (by decide) (by decide)
      have or1 : ((iI 1 = iI 0) ∨ (iI 1 = iI 1)) = True := by rw [eq_self]; exact or_true _
      simp (disch := first | decide | omega) only [f_Orders_take, f_Orders_restByOrder, f_Orders_restByOrder_b12, Nat.add_zero, true_and, and_true, gd_T, bn_S, bv_S, lq_E, wI_s, sI_s, hI_s, hT_s, hL_s, hR_s, hJ_s, hN_s, hU_s, nI_L, z_i, o_i, iI_add, or1, iI_lt, iI_le, iI_eq, iI_ix, Int.toNat_natCast, if_neg, if_pos, gd_P, inb, ix, hO.t, hS.t, hS.f0, hS.f1, hS.f2, hS.f3, hS.f4, hS.f5, hS.at1, hS.al1, hS.at2, hS.al2, hS.at3, hS.al3, hS.at4, hS.al4, hS.at5, hS.al5, hS.at6, hS.al6, hS.gR, hS.gT, hS.kR, hS.kT, hS.k3, hS.k4, hS.k5, hS.k6, hS.kt1, hS.kt2, hS.kt3, hS.kt4, hS.kl1, hS.kl2, hS.kl3, hS.kl4, hS.pR, hS.pT, hS.bR, hS.bT, hS.qR, hS.qT, e1, f1, e, up2_e, up2_n]
    · refine e2.fr fun c s hc => ?_
      rw [up2_n _ _ _ _ _ _ (by omega), up2_n _ _ _ _ _ _ (by omega)]
-- many steps
def Rs (n m p b r : Nat) : List (Int32 × Int32) → List Int → GM → List Int → GM → Prop
  | [], l, g, l', g' => l' = l ∧ g' = g
  | s :: ss, l, g, l', g' => ∃ l1 g1, Tk n m p b r s.1 s.2 l g l1 g1 ∧ Rs n m p b r ss l1 g1 l' g'
theorem Rs.app {n m p b r : Nat} : ∀ (ss tt : List (Int32 × Int32)) {l : List Int} {g : GM} {l1 : List Int} {g1 : GM} {l2 : List Int} {g2 : GM}, Rs n m p b r ss l g l1 g1 → Rs n m p b r tt l1 g1 l2 g2 → Rs n m p b r (ss ++ tt) l g l2 g2 := by
  intro ss
  induction ss with
  | nil => intro tt l g l1 g1 l2 g2 h1 h2; obtain ⟨rfl, rfl⟩ := h1; exact h2
  | cons s ss ih => intro tt l g l1 g1 l2 g2 h1 h2; obtain ⟨l3, g3, h3, h4⟩ := h1; exact ⟨l3, g3, h3, ih tt h4 h2⟩
theorem Rs.one {n m p b r : Nat} {s : Int32 × Int32} {l : List Int} {g : GM} {l1 : List Int} {g1 : GM} (h : Tk n m p b r s.1 s.2 l g l1 g1) : Rs n m p b r [s] l g l1 g1 := ⟨l1, g1, h, rfl, rfl⟩
-- the program of the orders lies at 203, 204
def PrA (F : Nat → Nat → Int32) : Nat → List (Int32 × Int32) → Prop
  | _, [] => True
  | i, s :: ss => F 203 i = s.1 ∧ F 204 i = s.2 ∧ PrA F (i + 1) ss
theorem PrA.congr {F F' : Nat → Nat → Int32} (e : ∀ c s, c = 203 ∨ c = 204 → F' c s = F c s) : ∀ (ss : List (Int32 × Int32)) (i : Nat), PrA F i ss → PrA F' i ss := by
  intro ss
  induction ss with
  | nil => intro i _; exact trivial
  | cons s ss ih => intro i h; exact ⟨(e _ _ (Or.inl rfl)).trans h.1, (e _ _ (Or.inr rfl)).trans h.2.1, ih _ h.2.2⟩
theorem carryOut_l {n m p b r : Nat} (hr : 206 ≤ r) {N : Nat} (hN : N ≤ 400) : ∀ (ss : List (Int32 × Int32)) (i fu : Nat) (h : AH) (l : List Int) (g : GM) (l' : List Int) (g' : GM), i + ss.length = N → ss.length < fu → SkR h r → SkO h → hI h 202 2 = iI (N : Int) → PrA (hI h) i ss → RP n m p b r (hI h) g → StP (hI h) l → Rs n m p b r ss l g l' g' →
    ∃ F, f_Orders_carryOut_l7 fu h 202 r (iI (i : Int)) = some (sI h F) ∧ RP n m p b r F g' ∧ Fo r (hI h) F := by
  intro ss
  induction ss with
  | nil =>
    intro i fu h l g l' g' hi hf hS hO hL hA hP hs hR
    obtain ⟨fu, rfl⟩ : ∃ x, fu = x + 1 := ⟨fu - 1, by omega⟩
    obtain ⟨rfl, rfl⟩ := hR
    simp only [List.length_nil] at hi
    obtain rfl : i = N := by omega
    refine ⟨hI h, ?_, hP, Fo.refl _ _⟩
    show f_Orders_carryOut_b7 (f_Orders_carryOut_l7 fu) h 202 r (iI (i : Int)) = _
    simp (disch := first | decide | omega) only [f_Orders_carryOut_b7, Nat.add_zero, true_and, and_true, gd_T, bn_S, bv_S, lq_E, wI_s, sI_s, hI_s, hT_s, hL_s, hR_s, hJ_s, hN_s, hU_s, iI_lt, iI_le, iI_eq, iI_ix, Int.toNat_natCast, if_neg, if_pos, gd_P, inb, ix, hO.t, hL]
    rfl
  | cons s ss ih =>
    intro i fu h l g l' g' hi hf hS hO hL hA hP hs hR
    obtain ⟨fu, rfl⟩ : ∃ x, fu = x + 1 := ⟨fu - 1, by omega⟩
    obtain ⟨l1, g1, h1, h2⟩ := hR
    obtain ⟨a1, a2, a3⟩ := hA
    rw [List.length_cons] at hi hf
    obtain ⟨F, q1, q2, q3, q4⟩ := h1 h hS hO hP hs
    obtain ⟨F', d1, d2, d3⟩ := ih (i + 1) fu (sI h F) l1 g1 l' g' (by omega) (by omega) hS hO ((q4 202 2 (by omega) (by omega) (by omega)).trans hL) (PrA.congr (fun c s hc => q4 c s (by omega) (by omega) (by omega)) ss _ a3) q2 q3 h2
    refine ⟨F', ?_, d2, q4.trans d3⟩
    refine Eq.trans ?_ d1
    show f_Orders_carryOut_b7 (f_Orders_carryOut_l7 fu) h 202 r (iI (i : Int)) = _
    simp (disch := first | decide | omega) only [f_Orders_carryOut_b7, Nat.add_zero, true_and, and_true, gd_T, bn_S, bv_S, lq_E, wI_s, sI_s, hI_s, hT_s, hL_s, hR_s, hJ_s, hN_s, hU_s, nI_L, z_i, o_i, iI_add, iI_sub, iI_mul, iI_neg, iI_lt, iI_le, iI_eq, iI_ix, Int.toNat_natCast, if_neg, if_pos, gd_P, inb, ix, hO.t, hO.r0, hO.r1, hO.t3, hO.l3, hO.t4, hO.l4, hL, a1, a2, q1]
    rfl
theorem carryOut_E {n m p b r : Nat} (hM : Nm n m p b) (hr : 206 ≤ r) {h : AH} {g g' : GM} {ss : List (Int32 × Int32)} (hN : ss.length ≤ 400) (hS : SkR h r) (hO : SkO h) (hL : hI h 202 2 = iI (ss.length : Int)) (hA : PrA (hI h) 0 ss) (hP : RP n m p b r (hI h) g) (hR : Rs n m p b r ss [] g [] g') :
    ∃ F, f_Orders_carryOut h 202 r = some (sI h F) ∧ RP n m p b r F g' ∧ Fo r (hI h) F := by
  obtain ⟨F, q1, q2, q3⟩ := carryOut_l (n := n) (m := m) (p := p) (b := b) hr hN ss 0 FU (sI h (up2 (hI h) 202 4 (iI 0))) [] g [] g' (by omega) (by unfold FU; omega) hS hO (by rw [hI_s, up2_n _ _ _ _ _ _ (by omega)]; exact hL) (PrA.congr (fun c s hc => by rw [hI_s, up2_n _ _ _ _ _ _ (by omega)]) ss 0 hA) (hP.fr hM fun c s _ => by rw [hI_s, up2_n _ _ _ _ _ _ (by omega)]) ⟨(up2_e (hI h) 202 4 (iI 0) : up2 (hI h) 202 4 (iI 0) 202 4 = iI 0), trivial⟩ hR
  refine ⟨F, ?_, q2, ((Fo.refl _ _).hg _).trans q3⟩
  refine Eq.trans ?_ q1
  simp (disch := first | decide | omega) only [f_Orders_carryOut, Nat.add_zero, true_and, and_true, gd_T, bn_S, bv_S, lq_E, wI_s, sI_s, hI_s, hT_s, hL_s, hR_s, hJ_s, hN_s, hU_s, nI_L, z_i, o_i, iI_add, iI_sub, iI_mul, iI_neg, if_neg, if_pos, gd_P, inb, ix, hO.t]
  rfl

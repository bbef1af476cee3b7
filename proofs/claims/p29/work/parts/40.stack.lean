/-! 40 L3: the stack of the orders, and what they do to a river -/
def SkO (h : AH) : Prop := hT h 202 = 2 ∧ hR h 202 0 = 203 ∧ hR h 202 1 = 204 ∧ hR h 202 3 = 205 ∧ hT h 203 = 101 ∧ hL h 203 = 400 ∧ hT h 204 = 101 ∧ hL h 204 = 400 ∧ hT h 205 = 101 ∧ hL h 205 = 400
theorem SkO.t {h : AH} (k : SkO h) : hT h 202 = 2 := k.1
theorem SkO.r0 {h : AH} (k : SkO h) : hR h 202 0 = 203 := k.2.1
theorem SkO.r1 {h : AH} (k : SkO h) : hR h 202 1 = 204 := k.2.2.1
theorem SkO.r3 {h : AH} (k : SkO h) : hR h 202 3 = 205 := k.2.2.2.1
theorem SkO.t3 {h : AH} (k : SkO h) : hT h 203 = 101 := k.2.2.2.2.1
theorem SkO.l3 {h : AH} (k : SkO h) : hL h 203 = 400 := k.2.2.2.2.2.1
theorem SkO.t4 {h : AH} (k : SkO h) : hT h 204 = 101 := k.2.2.2.2.2.2.1
theorem SkO.l4 {h : AH} (k : SkO h) : hL h 204 = 400 := k.2.2.2.2.2.2.2.1
theorem SkO.t5 {h : AH} (k : SkO h) : hT h 205 = 101 := k.2.2.2.2.2.2.2.2.1
theorem SkO.l5 {h : AH} (k : SkO h) : hL h 205 = 400 := k.2.2.2.2.2.2.2.2.2
def StA (F : Nat → Nat → Int32) : List Int → Prop
  | [] => True
  | x :: l => F 205 l.length = iI x ∧ StA F l
def StP (F : Nat → Nat → Int32) (l : List Int) : Prop := F 202 4 = iI (l.length : Int) ∧ StA F l
theorem StA.congr {F F' : Nat → Nat → Int32} : ∀ (l : List Int), (∀ j, j < l.length → F' 205 j = F 205 j) → StA F l → StA F' l := by
  intro l
  induction l with
  | nil => intro _ _; exact trivial
  | cons x l ih =>
    intro h k
    refine ⟨(h l.length (by simp)).trans k.1, ih (fun j hj => h j (by simp; omega)) k.2⟩
theorem Lv_lt {n m p b : Nat} (hN : Nm n m p b) {ct : Nat → Int} {c s : Nat} (h : Lv n m p b ct c s) : c < 47 := by
  unfold Nm at hN
  unfold Lv at h
  omega
theorem RP.fr {n m p b r : Nat} (hN : Nm n m p b) {F F' : Nat → Nat → Int32} {g : GM} (hP : RP n m p b r F g) (e : ∀ c s, c < 47 → F' (r + c) s = F (r + c) s) : RP n m p b r F' g := fun c s k => (e c s (Lv_lt hN k)).trans (hP c s k)
theorem push_E {h : AH} (hO : SkO h) {l : List Int} (hs : StP (hI h) l) (hl : l.length < 400) (x : Int) :
    f_Orders_push h 202 (iI x) = some (sI h (up2 (up2 (hI h) 205 l.length (iI x)) 202 4 (iI ((l.length : Int) + 1)))) ∧ StP (up2 (up2 (hI h) 205 l.length (iI x)) 202 4 (iI ((l.length : Int) + 1))) (x :: l) := by
  obtain ⟨h1, h2⟩ := hs
  constructor
  · generalize l.length = y at *
    simp (disch := first | decide | omega) only [f_Orders_push, Nat.add_zero, true_and, and_true, gd_T, bn_S, bv_S, lq_E, wI_s, sI_s, hI_s, hT_s, hL_s, hR_s, hJ_s, hN_s, hU_s, nI_L, z_i, o_i, iI_add, iI_sub, iI_mul, iI_neg, iI_lt, iI_le, iI_eq, iI_ix, Int.toNat_natCast, if_neg, if_pos, gd_P, inb, ix, hO.t, hO.r3, hO.t5, hO.l5, h1, up2_e, up2_n]
  · refine ⟨by rw [up2_e]; rfl, by rw [up2_n _ _ _ _ _ _ (by omega), up2_e], StA.congr l (fun j hj => ?_) h2⟩
    rw [up2_n _ _ _ _ _ _ (by omega), up2_n _ _ _ _ _ _ (by omega)]
theorem pop_E {h : AH} (hO : SkO h) {l : List Int} {x : Int} (hs : StP (hI h) (x :: l)) (hl : l.length < 400) :
    f_Orders_pop h 202 = some (sI h (up2 (hI h) 202 4 (iI (l.length : Int))), iI x) ∧ StP (up2 (hI h) 202 4 (iI (l.length : Int))) l := by
  obtain ⟨h1, h2, h3⟩ := hs
  rw [List.length_cons] at h1
  constructor
  · generalize l.length = y at *
    have e : ((y + 1 : Nat) : Int) = (y : Int) + 1 := by omega
    rw [e] at h1
    have e2 : (y : Int) + 1 - 1 = (y : Int) := by omega
    simp (disch := first | decide | omega) only [f_Orders_pop, Nat.add_zero, true_and, and_true, gd_T, bn_S, bv_S, lq_E, wI_s, sI_s, hI_s, hT_s, hL_s, hR_s, hJ_s, hN_s, hU_s, nI_L, z_i, o_i, iI_add, iI_sub, iI_mul, iI_neg, iI_lt, iI_le, iI_eq, iI_ix, Int.toNat_natCast, if_neg, if_pos, gd_P, inb, ix, hO.t, hO.r3, hO.t5, hO.l5, h1, h2, e2, up2_e, up2_n]
  · refine ⟨by rw [up2_e], StA.congr l (fun j hj => ?_) h3⟩
    rw [up2_n _ _ _ _ _ _ (by omega)]
-- one step of the orders: from the stack l and the river g to l' and g'
def Tk (n m p b r : Nat) (kd nu : Int32) (l : List Int) (g : GM) (l' : List Int) (g' : GM) : Prop := ∀ h, SkR h r → SkO h → RP n m p b r (hI h) g → StP (hI h) l → ∃ F, f_Orders_take h 202 kd nu r = some (sI h F) ∧ RP n m p b r F g' ∧ StP F l' ∧ Fo r (hI h) F
theorem StP.fr {F F' : Nat → Nat → Int32} {l : List Int} (h : StP F l) (e : ∀ c s, c < 206 → F' c s = F c s) : StP F' l := ⟨(e 202 4 (by decide)).trans h.1, StA.congr l (fun j _ => e 205 j (by decide)) h.2⟩
theorem tk_num {n m p b r : Nat} (hN : Nm n m p b) (hr : 206 ≤ r) {g : GM} {l : List Int} (hl : l.length < 400) (x : Int) : Tk n m p b r (nI 56) (iI x) l g (x :: l) g := by
  intro h hS hO hP hs
  obtain ⟨e1, e2⟩ := push_E hO hs hl x
  refine ⟨_, ?_, hP.fr hN (fun c s _ => by rw [up2_n _ _ _ _ _ _ (by omega), up2_n _ _ _ _ _ _ (by omega)]), e2, ((Fo.refl _ _).st _ _).hg _⟩
  simp (disch := first | decide | omega) only [f_Orders_take, Nat.add_zero, true_and, and_true, gd_T, bn_S, bv_S, lq_E, wI_s, sI_s, hI_s, hT_s, hL_s, hR_s, hJ_s, hN_s, hU_s, nI_L, z_i, o_i, iI_add, iI_sub, iI_mul, iI_neg, iI_lt, iI_le, iI_eq, iI_ix, Int.toNat_natCast, if_neg, if_pos, gd_P, inb, ix, hO.t, e1]
theorem tk_always {n m p b r : Nat} (hN : Nm n m p b) (hr : 206 ≤ r) {g : GM} {l : List Int} (hl : l.length < 400) (x : Int32) : Tk n m p b r (nI 60) x l g (1 :: l) g := by
  intro h hS hO hP hs
  obtain ⟨e1, e2⟩ := push_E hO hs hl 1
  refine ⟨_, ?_, hP.fr hN (fun c s _ => by rw [up2_n _ _ _ _ _ _ (by omega), up2_n _ _ _ _ _ _ (by omega)]), e2, ((Fo.refl _ _).st _ _).hg _⟩
  simp (disch := first | decide | omega) only [f_Orders_take, Nat.add_zero, true_and, and_true, gd_T, bn_S, bv_S, lq_E, wI_s, sI_s, hI_s, hT_s, hL_s, hR_s, hJ_s, hN_s, hU_s, nI_L, z_i, o_i, iI_add, iI_sub, iI_mul, iI_neg, iI_lt, iI_le, iI_eq, iI_ix, Int.toNat_natCast, if_neg, if_pos, gd_P, inb, ix, hO.t, e1]
theorem tk_not {n m p b r : Nat} (hN : Nm n m p b) (hr : 206 ≤ r) {g : GM} {l : List Int} (hl : l.length < 400) (x : Int32) {v : Int} (hv : v = 0 ∨ v = 1) : Tk n m p b r (nI 35) x (v :: l) g ((1 - v) :: l) g := by
  intro h hS hO hP hs
  obtain ⟨e1, e2⟩ := pop_E hO hs hl
  obtain ⟨d1, d2⟩ := push_E (h := sI h (up2 (hI h) 202 4 (iI (l.length : Int)))) hO e2 hl (1 - v)
  refine ⟨_, ?_, hP.fr hN (fun c s _ => ?_), d2, (((Fo.refl _ _).hg _).st _ _).hg _⟩
  · rcases hv with rfl | rfl
    · simp (disch := first | decide | omega) only [f_Orders_take, f_Orders_take_b136, Nat.add_zero, true_and, and_true, gd_T, bn_S, bv_S, lq_E, wI_s, sI_s, hI_s, hT_s, hL_s, hR_s, hJ_s, hN_s, hU_s, nI_L, z_i, o_i, iI_add, iI_sub, iI_mul, iI_neg, iI_lt, iI_le, iI_eq, iI_ix, Int.toNat_natCast, if_neg, if_pos, gd_P, inb, ix, hO.t, e1]
      rw [show (iI 1) = iI (1 - 0) from rfl, d1]
      rfl
    · simp (disch := first | decide | omega) only [f_Orders_take, f_Orders_take_b136, Nat.add_zero, true_and, and_true, gd_T, bn_S, bv_S, lq_E, wI_s, sI_s, hI_s, hT_s, hL_s, hR_s, hJ_s, hN_s, hU_s, nI_L, z_i, o_i, iI_add, iI_sub, iI_mul, iI_neg, iI_lt, iI_le, iI_eq, iI_ix, Int.toNat_natCast, if_neg, if_pos, gd_P, inb, ix, hO.t, e1]
      rw [show (iI 0) = iI (1 - 1) from rfl, d1]
      rfl
  · show up2 (up2 (up2 (hI h) 202 4 (iI (l.length : Int))) 205 l.length (iI (1 - v))) 202 4 (iI ((l.length : Int) + 1)) (r + c) s = _
    simp (disch := omega) only [up2_n]

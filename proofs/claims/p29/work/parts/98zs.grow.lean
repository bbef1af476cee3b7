/-! 98zs L3: constructors, I: heaps that grow by cells of known number; small objects -/
def Nw (P : Nat → Prop) (c d : Nat) (h h' : AH) : Prop := hN h' = hN h + c ∧ hU h' = hU h + d ∧ ∀ x, x < hN h → (hT h' x = hT h x ∧ hL h' x = hL h x) ∧ (¬ P x → hI h' x = hI h x ∧ hR h' x = hR h x ∧ hJ h' x = hJ h x)
theorem Nw.refl (P : Nat → Prop) (h : AH) : Nw P 0 0 h h := ⟨rfl, rfl, fun _ _ => ⟨⟨rfl, rfl⟩, fun _ => ⟨rfl, rfl, rfl⟩⟩⟩
theorem Nw.trans {P Q : Nat → Prop} {c d c' d' : Nat} {h h' h'' : AH} (a : Nw P c d h h') (b : Nw Q c' d' h' h'') (e : ∀ x, x < hN h → Q x → P x) : Nw P (c + c') (d + d') h h'' := by
  obtain ⟨a1, a2, a3⟩ := a
  obtain ⟨b1, b2, b3⟩ := b
  refine ⟨by omega, by omega, fun x hx => ?_⟩
  obtain ⟨⟨p1, p2⟩, p3⟩ := a3 x hx
  obtain ⟨⟨q1, q2⟩, q3⟩ := b3 x (by omega)
  refine ⟨⟨q1.trans p1, q2.trans p2⟩, fun n => ?_⟩
  obtain ⟨r1, r2, r3⟩ := p3 n
  obtain ⟨s1, s2, s3⟩ := q3 (fun y => n (e x hx y))
  exact ⟨s1.trans r1, s2.trans r2, s3.trans r3⟩
theorem Nw.mono {P Q : Nat → Prop} {c d c' d' : Nat} {h h' : AH} (a : Nw P c d h h') (e : ∀ x, x < hN h → P x → Q x) (ec : c' = c) (ed : d' = d) : Nw Q c' d' h h' := by
  subst ec ed
  exact ⟨a.1, a.2.1, fun x hx => ⟨(a.2.2 x hx).1, fun n => (a.2.2 x hx).2 fun y => n (e x hx y)⟩⟩
section
variable {P : Nat → Prop} {c d : Nat} {h h' : AH}
theorem Nw.n (k : Nw P c d h h') : hN h' = hN h + c := k.1
theorem Nw.t (k : Nw P c d h h') {x : Nat} (hx : x < hN h) : hT h' x = hT h x := (k.2.2 x hx).1.1
theorem Nw.l (k : Nw P c d h h') {x : Nat} (hx : x < hN h) : hL h' x = hL h x := (k.2.2 x hx).1.2
theorem Nw.i (k : Nw P c d h h') {x : Nat} (hx : x < hN h) (n : ¬ P x) : hI h' x = hI h x := ((k.2.2 x hx).2 n).1
theorem Nw.r (k : Nw P c d h h') {x : Nat} (hx : x < hN h) (n : ¬ P x) : hR h' x = hR h x := ((k.2.2 x hx).2 n).2.1
theorem Nw.j (k : Nw P c d h h') {x : Nat} (hx : x < hN h) (n : ¬ P x) : hJ h' x = hJ h x := ((k.2.2 x hx).2 n).2.2
theorem Nw.e (k : Nw P c d h h') {x : Nat} (hx : x < hN h) (n : ¬ P x) : E4 h h' x := ⟨k.t hx, k.l hx, k.i hx n, k.r hx n⟩
end
theorem up2_f {α : Type} {f : Nat → Nat → α} {a k : Nat} {v : α} {x : Nat} (hx : ¬ x = a) : up2 f a k v x = f x := funext fun j => up2_n f a k v x j fun y => hx y.1
theorem Nw.al {P : Nat → Prop} (h : AH) (t k : Nat) : Nw P 1 k h (hA h t k) := ⟨rfl, rfl, fun x hx => ⟨⟨up1_n _ _ _ _ (by omega), up1_n _ _ _ _ (by omega)⟩, fun _ => ⟨up1_n _ _ _ _ (by omega), up1_n _ _ _ _ (by omega), up1_n _ _ _ _ (by omega)⟩⟩⟩
theorem Nw.si {P : Nat → Prop} {h : AH} {F : Nat → Nat → Int32} (e : ∀ x, ¬ P x → F x = hI h x) : Nw P 0 0 h (sI h F) := ⟨rfl, rfl, fun x _ => ⟨⟨rfl, rfl⟩, fun n => ⟨e x n, rfl, rfl⟩⟩⟩
theorem Nw.wr {P : Nat → Prop} {h : AH} {a k v : Nat} (e : P a) : Nw P 0 0 h (wR h a k v) := ⟨rfl, rfl, fun x _ => ⟨⟨rfl, rfl⟩, fun n => ⟨rfl, up2_f fun y => n (y ▸ e), rfl⟩⟩⟩
theorem Nw.wi {P : Nat → Prop} {h : AH} {a k : Nat} {v : Int32} (e : P a) : Nw P 0 0 h (wI h a k v) := ⟨rfl, rfl, fun x _ => ⟨⟨rfl, rfl⟩, fun n => ⟨up2_f fun y => n (y ▸ e), rfl, rfl⟩⟩⟩
-- a loop whose state is J
theorem loopNw {α : Type} (L : Nat → AH → Nat → Option α) (K : AH → Option α) (N : Nat) (J : Nat → AH → Prop)
    (hstep : ∀ (fu i : Nat) (h : AH), i < N → J i h → ∃ h', L (fu + 1) h i = L fu h' (i + 1) ∧ J (i + 1) h')
    (hend : ∀ (fu : Nat) (h : AH), J N h → L (fu + 1) h N = K h) :
    ∀ (k i fu : Nat) (h : AH), i + k = N → k < fu → J i h → ∃ h', L fu h i = K h' ∧ J N h' := by
  intro k
  induction k with
  | zero =>
    intro i fu h e hf hJ
    obtain ⟨fu, rfl⟩ : ∃ x, fu = x + 1 := ⟨fu - 1, by omega⟩
    obtain rfl : i = N := by omega
    exact ⟨h, hend fu h hJ, hJ⟩
  | succ k ih =>
    intro i fu h e hf hJ
    obtain ⟨fu, rfl⟩ : ∃ x, fu = x + 1 := ⟨fu - 1, by omega⟩
    obtain ⟨h1, e1, e2⟩ := hstep fu i h (by omega) hJ
    obtain ⟨h2, d1, d2⟩ := ih (i + 1) fu h1 (by omega) (by omega) e2
    exact ⟨h2, e1.trans d1, d2⟩
-- a new row of k cells in the field f of a
def fa (h : AH) (t k a f : Nat) : AH := wR (hA h t k) a f (hN h)
section
variable {h : AH} {t k a f tg : Nat}
theorem fa_E {α : Type} {K : AH → Option α} (hk : hT h a = tg) (ha : a < hN h) : lq (hA h t k) (fun h1 => gd (hT h1 a = tg) (lq (wR h1 a f (hN h)) K)) = K (fa h t k a f) := by
  rw [lq_E, gd_P (by rw [hT_a, up1_n _ _ _ _ (by omega)]; exact hk), lq_E]
  rfl
theorem fa_w (ha : a < hN h) : Nw (fun x => x = a) 1 k h (fa h t k a f) := ((Nw.al h t k).trans (Nw.wr (P := fun x => x = a) rfl) fun _ _ y => y).mono (fun _ _ y => y) rfl rfl
theorem fa_N : hN (fa h t k a f) = hN h + 1 := rfl
theorem fa_T : hT (fa h t k a f) (hN h) = t := up1_e _ _ _
theorem fa_L : hL (fa h t k a f) (hN h) = k := up1_e _ _ _
theorem fa_I (ha : a < hN h) {x : Nat} (hx : x < hN h) : hI (fa h t k a f) x = hI h x := up1_n _ _ _ _ (by omega)
theorem fa_J {x : Nat} (hx : x < hN h) : hJ (fa h t k a f) x = hJ h x := up1_n _ _ _ _ (by omega)
theorem fa_R : hR (fa h t k a f) a f = hN h := up2_e _ _ _ _
theorem fa_R2 (ha : a < hN h) {s : Nat} (hs : s ≠ f) : hR (fa h t k a f) a s = hR h a s := by
  show up2 (up1 (hR h) (hN h) (fun _ => 0)) a f (hN h) a s = _
  rw [up2_n _ _ _ _ _ _ (fun y => hs y.2), up1_n _ _ _ _ (by omega)]
end
-- objects of ints alone
section
variable {h : AH} {a : Nat}
theorem gaNew (t : hT h a = 4) : ∃ F, f_Garden_init h a = some (sI h F) ∧ ∀ x, ¬ x = a → F x = hI h x := by
  refine ⟨up2 (up2 (up2 (hI h) a 0 (nI 0)) a 1 (nI 0)) a 2 (nI 1), ?_, fun x hx => ?_⟩
  · simp only [f_Garden_init, Nat.add_zero, true_and, and_true, gd_T, bn_S, bv_S, lq_E, wI_s, sI_s, hI_s, hT_s, hL_s, hR_s, hJ_s, hN_s, hU_s, t]
  · rw [up2_f hx, up2_f hx, up2_f hx]
theorem peNew (t : hT h a = 6) : ∃ F, f_Peeler_init h a = some (sI h F) ∧ ∀ x, ¬ x = a → F x = hI h x := by
  refine ⟨up2 (up2 (up2 (up2 (up2 (up2 (up2 (hI h) a 0 (nI 0)) a 1 (nI 0)) a 2 (nI 0)) a 3 (nI 20)) a 4 (nI 0)) a 5 (nI 0)) a 6 (nI 0), ?_, fun x hx => ?_⟩
  · have c : (nI 0 : Int32) = 0 ∨ (nI 0 : Int32) = 1 := Or.inl (by decide)
    simp only [f_Peeler_init, Nat.add_zero, true_and, and_true, gd_T, bn_S, bv_S, lq_E, wI_s, sI_s, hI_s, hT_s, hL_s, hR_s, hJ_s, hN_s, hU_s, t, c]
  · rw [up2_f hx, up2_f hx, up2_f hx, up2_f hx, up2_f hx, up2_f hx, up2_f hx]
theorem boNew (t : hT h a = 7) : ∃ F, f_Boat_init h a = some (sI h F) ∧ ∀ x, ¬ x = a → F x = hI h x := by
  refine ⟨up2 (up2 (up2 (up2 (up2 (up2 (up2 (hI h) a 0 (nI 0)) a 1 (nI 0)) a 2 (nI 0)) a 3 (nI 0)) a 4 (nI 0)) a 5 (-nI 1)) a 6 (nI 0), ?_, fun x hx => ?_⟩
  · simp only [f_Boat_init, Nat.add_zero, true_and, and_true, gd_T, bn_S, bv_S, lq_E, wI_s, sI_s, hI_s, hT_s, hL_s, hR_s, hJ_s, hN_s, hU_s, t]
  · rw [up2_f hx, up2_f hx, up2_f hx, up2_f hx, up2_f hx, up2_f hx, up2_f hx]
theorem qrNew (t : hT h a = 8) : ∃ F, f_Grade_init h a = some (sI h F) ∧ ∀ x, ¬ x = a → F x = hI h x := by
  refine ⟨up2 (up2 (up2 (up2 (hI h) a 0 (nI 0)) a 1 (nI 0)) a 2 (nI 0)) a 3 (nI 0), ?_, fun x hx => ?_⟩
  · simp only [f_Grade_init, Nat.add_zero, true_and, and_true, gd_T, bn_S, bv_S, lq_E, wI_s, sI_s, hI_s, hT_s, hL_s, hR_s, hJ_s, hN_s, hU_s, t]
  · rw [up2_f hx, up2_f hx, up2_f hx, up2_f hx]
end
-- a rack: four rows of 60
theorem rkNew {h : AH} {a : Nat} (t : hT h a = 5) (ha : a < hN h) : ∃ h', f_Rack_init h a = some h' ∧ Nw (fun x => x = a) 4 240 h h' ∧ ∀ i, i < 4 → hR h' a (3 + i) = hN h + i ∧ hT h' (hN h + i) = 101 ∧ hL h' (hN h + i) = 60 := by
  have i60 : ix (nI 60) = 60 := by decide
  obtain ⟨h0, e0⟩ : ∃ h0, h0 = wI (wI (wI h a 0 (nI 0)) a 1 (nI 0)) a 2 (nI 0) := ⟨_, rfl⟩
  have w0 : Nw (fun x => x = a) 0 0 h h0 := by
    rw [e0]
    exact (((Nw.wi (P := fun x => x = a) rfl).trans (Nw.wi (P := fun x => x = a) rfl) fun _ _ y => y).trans (Nw.wi (P := fun x => x = a) rfl) fun _ _ y => y)
  have n0 : hN h0 = hN h := w0.n
  have t0 : hT h0 a = 5 := (w0.t ha).trans t
  have w1 : Nw (fun x => x = a) 1 60 h0 (fa h0 101 60 a 3) := fa_w (by omega)
  obtain ⟨h1, e1⟩ : ∃ h1, h1 = fa h0 101 60 a 3 := ⟨_, rfl⟩
  have r1 : hR h1 a 3 = hN h0 := by rw [e1]; exact fa_R
  have q1 : hT h1 (hN h0) = 101 ∧ hL h1 (hN h0) = 60 := by rw [e1]; exact ⟨fa_T, fa_L⟩
  rw [← e1] at w1
  have n1 := w1.n
  have t1 : hT h1 a = 5 := (w1.t (by omega)).trans t0
  have w2 : Nw (fun x => x = a) 1 60 h1 (fa h1 101 60 a 4) := fa_w (by omega)
  obtain ⟨h2, e2⟩ : ∃ h2, h2 = fa h1 101 60 a 4 := ⟨_, rfl⟩
  have r2 : hR h2 a 4 = hN h1 ∧ hR h2 a 3 = hR h1 a 3 := by rw [e2]; exact ⟨fa_R, fa_R2 (by omega) (by decide)⟩
  have q2 : hT h2 (hN h1) = 101 ∧ hL h2 (hN h1) = 60 := by rw [e2]; exact ⟨fa_T, fa_L⟩
  rw [← e2] at w2
  have n2 := w2.n
  have t2 : hT h2 a = 5 := (w2.t (by omega)).trans t1
  have w3 : Nw (fun x => x = a) 1 60 h2 (fa h2 101 60 a 5) := fa_w (by omega)
  obtain ⟨h3, e3⟩ : ∃ h3, h3 = fa h2 101 60 a 5 := ⟨_, rfl⟩
  have r3 : hR h3 a 5 = hN h2 ∧ hR h3 a 4 = hR h2 a 4 ∧ hR h3 a 3 = hR h2 a 3 := by rw [e3]; exact ⟨fa_R, fa_R2 (by omega) (by decide), fa_R2 (by omega) (by decide)⟩
  have q3 : hT h3 (hN h2) = 101 ∧ hL h3 (hN h2) = 60 := by rw [e3]; exact ⟨fa_T, fa_L⟩
  rw [← e3] at w3
  have n3 := w3.n
  have t3 : hT h3 a = 5 := (w3.t (by omega)).trans t2
  have w4 : Nw (fun x => x = a) 1 60 h3 (fa h3 101 60 a 6) := fa_w (by omega)
  obtain ⟨h4, e4⟩ : ∃ h4, h4 = fa h3 101 60 a 6 := ⟨_, rfl⟩
  have r4 : hR h4 a 6 = hN h3 ∧ hR h4 a 5 = hR h3 a 5 ∧ hR h4 a 4 = hR h3 a 4 ∧ hR h4 a 3 = hR h3 a 3 := by rw [e4]; exact ⟨fa_R, fa_R2 (by omega) (by decide), fa_R2 (by omega) (by decide), fa_R2 (by omega) (by decide)⟩
  have q4 : hT h4 (hN h3) = 101 ∧ hL h4 (hN h3) = 60 := by rw [e4]; exact ⟨fa_T, fa_L⟩
  rw [← e4] at w4
  have n4 := w4.n
  refine ⟨h4, ?_, ((((w0.trans w1 fun _ _ y => y).trans w2 fun _ _ y => y).trans w3 fun _ _ y => y).trans w4 fun _ _ y => y).mono (fun _ _ y => y) rfl rfl, fun i hi => ?_⟩
  · unfold f_Rack_init
    rw [gd_P t, lq_E, gd_P (by rw [hT_wi]; exact t), lq_E, gd_P (by rw [hT_wi, hT_wi]; exact t), lq_E, ← e0, i60, fa_E t0 (by omega), ← e1, fa_E t1 (by omega), ← e2, fa_E t2 (by omega), ← e3, fa_E t3 (by omega), ← e4]
  · obtain ⟨r41, r42, r43, r44⟩ := r4
    obtain ⟨r31, r32, r33⟩ := r3
    rcases (show i = 0 ∨ i = 1 ∨ i = 2 ∨ i = 3 by omega) with rfl | rfl | rfl | rfl
    · rw [← n0, Nat.add_zero, w4.t (by omega), w3.t (by omega), w2.t (by omega), w4.l (by omega), w3.l (by omega), w2.l (by omega)]
      exact ⟨by rw [r44, r33, r2.2, r1]; rfl, q1⟩
    · rw [show hN h + 1 = hN h1 by omega, w4.t (by omega), w3.t (by omega), w4.l (by omega), w3.l (by omega)]
      exact ⟨by rw [r43, r32, r2.1], q2⟩
    · rw [show hN h + 2 = hN h2 by omega, w4.t (by omega), w4.l (by omega)]
      exact ⟨by rw [r42, r31], q3⟩
    · rw [show hN h + 3 = hN h3 by omega]
      exact ⟨r41, q4⟩

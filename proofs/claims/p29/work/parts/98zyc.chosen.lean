/-! 98zyc L3: making the sim, V: chosen, put together (written by l3/gen98zyc.py) -/
def Ks1 (n : Nat) (h : AH) (k : Nat) : Prop := hR h (334 + n) k = 335 + n + k ∧ hT h (335 + n + k) = 109 ∧ hL h (335 + n + k) = 0
def Gs (n : Nat) (h : AH) : Prop := hR h 320 12 = 332 ∧ hT h (332) = 109 ∧ hL h (332) = n ∧ ∀ k, k < n → Ga1 h k
theorem Gs.nw {n c d : Nat} {h h' : AH} {P : Nat → Prop} (r : Gs n h) (u : Nw P c d h h') (hb : 333 + n ≤ hN h) (e : ∀ x, 332 ≤ x → x < 333 + n → ¬ P x) (eR : hR h' 320 12 = hR h 320 12) : Gs n h' := by
  obtain ⟨r1, r2, r3, r4⟩ := r
  refine ⟨eR.trans r1, (u.t (by omega)).trans r2, (u.l (by omega)).trans r3, fun k hk => ?_⟩
  exact (r4 k hk).nw u (by omega) (e _ (by omega) (by omega)) (congrFun (u.r (x := 332) (by omega) (e _ (by omega) (by omega))) k)
def Hs (n m : Nat) (h : AH) : Prop := hR h 320 13 = 333 + n ∧ hT h (333 + n) = 101 ∧ hL h (333 + n) = m ∧ ∀ k, k < m → Ho1 n h k
theorem Hs.nw {n m c d : Nat} {h h' : AH} {P : Nat → Prop} (r : Hs n m h) (u : Nw P c d h h') (hb : 334 + n ≤ hN h) (e : ∀ x, 333 + n ≤ x → x < 334 + n → ¬ P x) (eR : hR h' 320 13 = hR h 320 13) : Hs n m h' := by
  obtain ⟨r1, r2, r3, r4⟩ := r
  refine ⟨eR.trans r1, (u.t (by omega)).trans r2, (u.l (by omega)).trans r3, fun k hk => ?_⟩
  unfold Ho1
  rw [u.i (x := 333 + n) (by omega) (e _ (by omega) (by omega))]
  exact r4 k hk
def Ks (n m : Nat) (h : AH) : Prop := hR h 320 14 = 334 + n ∧ hT h (334 + n) = 110 ∧ hL h (334 + n) = m ∧ ∀ k, k < m → Ks1 n h k
theorem Ks.nw {n m c d : Nat} {h h' : AH} {P : Nat → Prop} (r : Ks n m h) (u : Nw P c d h h') (hb : 335 + n + m ≤ hN h) (e : ∀ x, 334 + n ≤ x → x < 335 + n + m → ¬ P x) (eR : hR h' 320 14 = hR h 320 14) : Ks n m h' := by
  obtain ⟨r1, r2, r3, r4⟩ := r
  refine ⟨eR.trans r1, (u.t (by omega)).trans r2, (u.l (by omega)).trans r3, fun k hk => ?_⟩
  unfold Ks1
  rw [u.r (x := 334 + n) (by omega) (e _ (by omega) (by omega)), u.t (x := 335 + n + k) (by omega), u.l (x := 335 + n + k) (by omega)]
  exact r4 k hk
def Ps (n m p : Nat) (h : AH) : Prop := hR h 320 15 = 335 + n + m ∧ hT h (335 + n + m) = 109 ∧ hL h (335 + n + m) = p ∧ ∀ k, k < p → Pe1 n m h k
theorem Ps.nw {n m p c d : Nat} {h h' : AH} {P : Nat → Prop} (r : Ps n m p h) (u : Nw P c d h h') (hb : 336 + n + m + p ≤ hN h) (e : ∀ x, 335 + n + m ≤ x → x < 336 + n + m + p → ¬ P x) (eR : hR h' 320 15 = hR h 320 15) : Ps n m p h' := by
  obtain ⟨r1, r2, r3, r4⟩ := r
  refine ⟨eR.trans r1, (u.t (by omega)).trans r2, (u.l (by omega)).trans r3, fun k hk => ?_⟩
  exact (r4 k hk).nw u (by omega) (e _ (by omega) (by omega)) (congrFun (u.r (x := 335 + n + m) (by omega) (e _ (by omega) (by omega))) k)
def Bs4 (n m p b : Nat) (h : AH) : Prop := hR h 320 16 = 336 + n + m + p ∧ hT h (336 + n + m + p) = 109 ∧ hL h (336 + n + m + p) = b ∧ ∀ k, k < b → Bo1 n m p h k
theorem Bs4.nw {n m p b c d : Nat} {h h' : AH} {P : Nat → Prop} (r : Bs4 n m p b h) (u : Nw P c d h h') (hb : 337 + n + m + p + b ≤ hN h) (e : ∀ x, 336 + n + m + p ≤ x → x < 337 + n + m + p + b → ¬ P x) (eR : hR h' 320 16 = hR h 320 16) : Bs4 n m p b h' := by
  obtain ⟨r1, r2, r3, r4⟩ := r
  refine ⟨eR.trans r1, (u.t (by omega)).trans r2, (u.l (by omega)).trans r3, fun k hk => ?_⟩
  exact (r4 k hk).nw u (by omega) (e _ (by omega) (by omega)) (congrFun (u.r (x := 336 + n + m + p) (by omega) (e _ (by omega) (by omega))) k)
def Os (n m p b no : Nat) (h : AH) : Prop := hR h 320 17 = 337 + n + m + p + b ∧ hT h (337 + n + m + p + b) = 109 ∧ hL h (337 + n + m + p + b) = no ∧ ∀ k, k < no → Or1 n m p b h k
theorem Os.nw {n m p b no c d : Nat} {h h' : AH} {P : Nat → Prop} (r : Os n m p b no h) (u : Nw P c d h h') (hb : 338 + n + m + p + b + no ≤ hN h) (e : ∀ x, 337 + n + m + p + b ≤ x → x < 338 + n + m + p + b + no → ¬ P x) (eR : hR h' 320 17 = hR h 320 17) : Os n m p b no h' := by
  obtain ⟨r1, r2, r3, r4⟩ := r
  refine ⟨eR.trans r1, (u.t (by omega)).trans r2, (u.l (by omega)).trans r3, fun k hk => ?_⟩
  exact (r4 k hk).nw u (by omega) (e _ (by omega) (by omega)) (congrFun (u.r (x := 337 + n + m + p + b) (by omega) (e _ (by omega) (by omega))) k)
theorem S0.nx {P : Nat → Prop} {c d : Nat} {h h' : AH} (k : S0 h) (u : Nw P c d h h') (hn : 326 ≤ hN h) (e : ∀ x, 320 ≤ x → x < 326 → ¬ P x) : S0 h' :=
  k.nw u hn (fun x h1 h2 => e x (by omega) h2) (u.i (by omega) (e 320 (by omega) (by omega))) fun s _ => congrFun (u.r (x := 320) (by omega) (e 320 (by omega) (by omega))) s
theorem Nw.f3 {P : Nat → Prop} {c d : Nat} {h h' : AH} (u : Nw P c d h h') (hn : 320 < hN h) (e : ¬ P 320) (s : Nat) : hR h' 320 s = hR h 320 s := congrFun (u.r hn e) s
theorem hMA_w (P : Nat → Prop) (h : AH) (t1 t2 m : Nat) : Nw P (1 + m) m h (hMA h t1 t2 m) := by
  refine ⟨by show hN h + 1 + m = _; omega, rfl, fun x hx => ⟨⟨?_, ?_⟩, fun _ => ⟨funext fun s => ?_, funext fun s => ?_, funext fun s => ?_⟩⟩⟩
  · show (if x = hN h then t1 else if hN h < x ∧ x < hN h + 1 + m then t2 else hT h x) = _
    rw [if_neg (by omega), if_neg (by omega)]
  · show (if x = hN h then m else if hN h < x ∧ x < hN h + 1 + m then 0 else hL h x) = _
    rw [if_neg (by omega), if_neg (by omega)]
  · show (if hN h ≤ x ∧ x < hN h + 1 + m then 0 else hI h x s) = _
    rw [if_neg (by omega)]
  · show (if x = hN h then hN h + 1 + s else if hN h < x ∧ x < hN h + 1 + m then 0 else hR h x s) = _
    rw [if_neg (by omega), if_neg (by omega)]
  · show (if hN h ≤ x ∧ x < hN h + 1 + m then 0 else hJ h x s) = _
    rw [if_neg (by omega)]
theorem hMA_f {h : AH} {t1 t2 m : Nat} : hT (hMA h t1 t2 m) (hN h) = t1 ∧ hL (hMA h t1 t2 m) (hN h) = m ∧ (∀ j, hR (hMA h t1 t2 m) (hN h) j = hN h + 1 + j) ∧ ∀ j, j < m → hT (hMA h t1 t2 m) (hN h + 1 + j) = t2 ∧ hL (hMA h t1 t2 m) (hN h + 1 + j) = 0 := by
  refine ⟨if_pos rfl, if_pos rfl, fun j => if_pos rfl, fun j hj => ⟨?_, ?_⟩⟩
  · show (if hN h + 1 + j = hN h then t1 else if hN h < hN h + 1 + j ∧ hN h + 1 + j < hN h + 1 + m then t2 else hT h (hN h + 1 + j)) = _
    rw [if_neg (by omega), if_pos (by omega)]
  · show (if hN h + 1 + j = hN h then m else if hN h < hN h + 1 + j ∧ hN h + 1 + j < hN h + 1 + m then 0 else hL h (hN h + 1 + j)) = _
    rw [if_neg (by omega), if_pos (by omega)]
theorem pos_i {n : Nat} (h : n ≤ 100) : ¬ iI (n : Int) < 0 ∧ ix (iI (n : Int)) ≤ 65536 := ⟨by rw [z_i, iI_lt (by omega) (by omega) (by omega) (by omega)]; omega, by rw [ix_i (by omega)]; omega⟩
-- a field of the sim set to a new row
theorem fld {h : AH} {t k f : Nat} (hn : 326 ≤ hN h) (hf : 12 ≤ f) (s : S0 h) : S0 (fa h t k 320 f) := by
  have u : Nw (fun x => x = 320) 1 k h (fa h t k 320 f) := fa_w (by omega)
  exact s.nw u hn (fun x h1 _ y => absurd (show x = 320 from y) (by omega)) (fa_I (by omega) (by omega)) fun q hq => fa_R2 (by omega) (by omega)

theorem le_s {k : Nat} (hk : k ≤ 100) : iI (k : Int) ≤ iI (k : Int) := by rw [iI_le (by omega) (by omega) (by omega) (by omega)]; omega
theorem cA {h : AH} {sc : Nat} (hn : hN h = 320) (hs : sc < 200) (S : Scr sc h) : ∃ (h' : AH) (n : Nat), (1 ≤ n ∧ n ≤ 3) ∧ f_Law_chosen h sc = f_Law_chosen_b30 (fun _ _ _ _ _ => none) h' sc 320 (iI (n : Int)) (iI (n : Int)) ∧ Nw (fun _ => False) (13 + n) (46 + 4 * n) h h' ∧ S0 h' ∧ Gs n h' := by
  have T0 : hT (hA h 13 18) 320 = 13 := ix_self hn
  have z0 : ∀ s, hI (hA h 13 18) 320 s = 0 := fun s => by
    have q : hI (hA h 13 18) (hN h) = fun _ => 0 := up1_e _ _ _
    rw [hn] at q
    rw [q]
  obtain ⟨h3, e3, u3, s3⟩ := siNew (h := hA h 13 18) T0 (by rw [hN_a, hn]) z0
  have n3 : hN h3 = 332 := by rw [u3.n, hN_a, hn]
  have U3 : Nw (fun _ => False) 12 46 h h3 := ((Nw.al (P := fun _ => False) h 13 18).trans u3 (fun x hx y => absurd (show x = 320 from y) (by omega))).mono (fun _ _ y => y) rfl rfl
  have S3 : Scr sc h3 := S.nw U3 (by omega) (fun y => y)
  obtain ⟨v, ec⟩ := cellN S3 (j := 0) (by omega)
  obtain ⟨r, rl', eb⟩ := belN (h := h3) v (n := 3) (by omega) (by omega)
  obtain ⟨n, en⟩ : ∃ y, y = r + 1 := ⟨_, rfl⟩
  obtain ⟨h4, e4, u4, r4, x4, q4, n4, t4, l4, -⟩ := faT (a := 320) (tg := 109) (k := n) (f := 12) n3 (by omega) s3.1
  have s4 : S0 h4 := by rw [e4]; exact fld (by omega) (by omega) s3
  have S4 : Scr sc h4 := S3.nw u4 (by omega) (fun y => absurd (show sc = 320 from y) (by omega))
  obtain ⟨h5, e5, u5, g5⟩ := gaAll (n := n) (by omega) n4 hs S4 t4 r4 q4.1 q4.2
  have ne : ∀ x, x < 332 → ¬ (fun x => x = 332) x := fun x hx y => absurd (show x = 332 from y) (by omega)
  refine ⟨h5, n, by omega, ?_, ?_, s4.nx u5 (by omega) (fun x h1 h2 => ne x (by omega)), (u5.f3 (by omega) (ne 320 (by omega)) 12).trans r4, (u5.t (by omega)).trans q4.1, (u5.l (by omega)).trans q4.2, g5⟩
  · rw [← e5]
    have c0 : nI 1 + iI (r : Int) = iI (n : Int) := by rw [one_i, en]
    unfold f_Law_chosen
    rw [lq_E, hn, gd_P T0, e3, bv_S, lq_E, bn_C ec, bn_C eb, c0, lq_E, gd_P (pos_i (by omega)), ix_i (by omega), fa_E s3.1 l4, ← e4]
  · exact ((U3.trans (u4.trans u5 fun x hx y => absurd (show x = 332 from y) (by omega)) fun x hx y => absurd (show x = 320 from y) (by omega))).mono (fun _ _ y => y) (by omega) (by omega)
theorem cB {h : AH} {sc n : Nat} (hn3 : 1 ≤ n ∧ n ≤ 3) (hn : hN h = 333 + n) (hs : sc < 200) (S : Scr sc h) (s0 : S0 h) : ∃ (h' : AH) (m : Nat), (1 ≤ m ∧ m ≤ 3) ∧ f_Law_chosen_b30 (fun _ _ _ _ _ => none) h sc 320 (iI (n : Int)) (iI (n : Int)) = f_Law_chosen_b149 (fun _ _ _ _ _ _ => none) h' sc 320 (iI (n : Int)) (iI (m : Int)) (iI (m : Int)) ∧ Nw (fun x => x = 320) (2 + m) (2 * m) h h' ∧ (∀ s, s ≠ 13 → s ≠ 14 → hR h' 320 s = hR h 320 s) ∧ hI h' 320 = hI h 320 ∧ Hs n m h' ∧ Ks n m h' := by
  obtain ⟨v, ec⟩ := cellN S (j := 4) (by omega)
  obtain ⟨r, rl', eb⟩ := belN (h := h) v (n := 3) (by omega) (by omega)
  obtain ⟨m, en⟩ : ∃ y, y = r + 1 := ⟨_, rfl⟩
  obtain ⟨h1, e1, u1, r1, x1, q1, n1, t1, l1, -⟩ := faT (a := 320) (tg := 101) (k := m) (f := 13) hn (by omega) s0.1
  have i1 : hI h1 320 = hI h 320 := by rw [e1]; exact fa_I (by omega) (by omega)
  have S1 : Scr sc h1 := S.nw u1 (by omega) (fun y => absurd (show sc = 320 from y) (by omega))
  have nf : ∀ x : Nat, ¬ (fun _ => False) x := fun _ y => y
  have u2 := hMA_w (fun _ => False) h1 110 109 m
  obtain ⟨f1, f2, f3, f4⟩ := hMA_f (h := h1) (t1 := 110) (t2 := 109) (m := m)
  obtain ⟨h2, e2⟩ : ∃ y, y = hMA h1 110 109 m := ⟨_, rfl⟩
  rw [← e2] at u2 f1 f2 f3 f4
  rw [n1] at f1 f2 f3 f4
  have n2 : hN h2 = 335 + n + m := by rw [u2.n, n1]; omega
  have t2 : hT h2 320 = 13 := (u2.t (by omega)).trans t1
  have ub : Nw (fun x => x = 320) 0 0 h2 (wR h2 320 14 (333 + n + 1)) := Nw.wr rfl
  obtain ⟨h3, e3⟩ : ∃ y, y = wR h2 320 14 (333 + n + 1) := ⟨_, rfl⟩
  have R3 : ∀ s, s ≠ 14 → hR h3 320 s = hR h2 320 s := fun s hs => by rw [e3]; exact up2_n _ _ _ _ _ _ fun y => hs y.2
  have R3' : hR h3 320 14 = 333 + n + 1 := by
    have q : hR h3 = up2 (hR h2) 320 14 (333 + n + 1) := by rw [e3]; rfl
    rw [q, up2_e]
  have I3 : hI h3 = hI h2 := by rw [e3]; rfl
  rw [← e3] at ub
  have n3 : hN h3 = 335 + n + m := ub.n.trans n2
  have ne : ∀ x, x ≠ 320 → ¬ (fun x => x = 320) x := fun x hx y => hx y
  have S3 : Scr sc h3 := (S1.nw u2 (by omega) (nf sc)).nw ub (by omega) (ne sc (by omega))
  have t3 : hT h3 320 = 13 := (ub.t (by omega)).trans t2
  have k3 : Ks n m h3 := by
    refine ⟨R3'.trans (by omega), ?_, ?_, fun k hk => ?_⟩
    · rw [show 334 + n = 333 + n + 1 by omega, ub.t (by omega)]; exact f1
    · rw [show 334 + n = 333 + n + 1 by omega, ub.l (by omega)]; exact f2
    · obtain ⟨g1, g2⟩ := f4 k hk
      unfold Ks1
      rw [show 334 + n = 333 + n + 1 by omega, ub.r (x := 333 + n + 1) (by omega) (ne _ (by omega)), f3 k, show 335 + n + k = 333 + n + 1 + 1 + k by omega, ub.t (by omega), ub.l (by omega)]
      exact ⟨rfl, g1, g2⟩
  have r3 : hR h3 320 13 = 333 + n := (R3 13 (by decide)).trans ((u2.f3 (by omega) (nf 320) 13).trans r1)
  have q3 : hT h3 (333 + n) = 101 ∧ hL h3 (333 + n) = m := by rw [ub.t (by omega), u2.t (by omega), ub.l (by omega), u2.l (by omega)]; exact q1
  obtain ⟨h4, e4, u4, R4, g4⟩ := hoAll (n := n) (m := m) (by omega) (by omega) (by omega) hs S3 t3 r3 q3.1 q3.2
  have n4 : ∀ x, x ≠ 333 + n → ¬ (fun x => x = 333 + n) x := fun x hx y => hx y
  have x4 : ∀ s, hR h4 320 s = hR h3 320 s := fun s => by rw [R4]
  refine ⟨h4, m, by omega, ?_, ?_, fun s a b => ?_, ?_, ⟨(x4 13).trans r3, (u4.t (by omega)).trans q3.1, (u4.l (by omega)).trans q3.2, g4⟩, k3.nw u4 (by omega) (fun x h1 h2 => n4 x (by omega)) (x4 14)⟩
  · rw [← e4]
    have c1 : nI 1 + iI (r : Int) = iI (m : Int) := by rw [one_i, en]
    unfold f_Law_chosen_b30
    rw [if_pos (le_s (by omega)), bn_C ec, bn_C eb, c1, lq_E, gd_P (pos_i (by omega)), ix_i (by omega), fa_E s0.1 l1, ← e1, gd_P ⟨by decide, (pos_i (n := m) (by omega)).1, by omega⟩, lq_E, ← e2, gd_P t2, n1, lq_E, ← e3]
  · have a1 := (u1.trans u2 fun x hx y => (nf x y).elim).trans ub fun x hx y => y
    exact (a1.trans u4 fun x hx y => absurd (show x = 333 + n from y) (by omega)).mono (fun _ _ y => y) (by omega) (by omega)
  · rw [x4 s, R3 s b, u2.f3 (by omega) (nf 320) s, x1 s a]
  · rw [u4.i (by omega) (n4 320 (by omega)), I3, u2.i (by omega) (nf 320), i1]
theorem cC {h : AH} {sc n m : Nat} (hn3 : 1 ≤ n ∧ n ≤ 3) (hm3 : 1 ≤ m ∧ m ≤ 3) (hn : hN h = 335 + n + m) (hs : sc < 200) (S : Scr sc h) (s0 : S0 h) : ∃ (h' : AH) (p : Nat), (1 ≤ p ∧ p ≤ 4) ∧ f_Law_chosen_b149 (fun _ _ _ _ _ _ => none) h sc 320 (iI (n : Int)) (iI (m : Int)) (iI (m : Int)) = f_Law_chosen_b209 (fun _ _ _ _ _ _ _ => none) h' sc 320 (iI (n : Int)) (iI (m : Int)) (iI (p : Int)) (iI (p : Int)) ∧ Nw (fun x => x = 320) (1 + p) (8 * p) h h' ∧ (∀ s, s ≠ 15 → hR h' 320 s = hR h 320 s) ∧ hI h' 320 = hI h 320 ∧ Ps n m p h' := by
  obtain ⟨v, ec⟩ := cellN S (j := 8) (by omega)
  obtain ⟨r, rl', eb⟩ := belN (h := h) v (n := 4) (by omega) (by omega)
  obtain ⟨p, en⟩ : ∃ y, y = r + 1 := ⟨_, rfl⟩
  obtain ⟨h1, e1, u1, r1, x1, q1, n1, t1, l1, -⟩ := faT (a := 320) (tg := 109) (k := p) (f := 15) hn (by omega) s0.1
  have i1 : hI h1 320 = hI h 320 := by rw [e1]; exact fa_I (by omega) (by omega)
  have S1 : Scr sc h1 := S.nw u1 (by omega) (fun y => absurd (show sc = 320 from y) (by omega))
  obtain ⟨h2, e2, u2, g2⟩ := peAll (n := n) (m := m) (p := p) hn3 hm3 (by omega) (n1.trans (by omega)) hs S1 t1 r1 q1.1 q1.2
  have n3 : ¬ (fun x => x = 335 + n + m) 320 := fun y => absurd (show 320 = 335 + n + m from y) (by omega)
  have x2 : ∀ s, hR h2 320 s = hR h1 320 s := u2.f3 (by omega) n3
  refine ⟨h2, p, by omega, ?_, (u1.trans u2 fun x hx y => absurd (show x = 335 + n + m from y) (by omega)).mono (fun _ _ y => y) rfl (by omega), fun s hs => (x2 s).trans (x1 s hs), (u2.i (by omega) n3).trans i1, (x2 15).trans r1, (u2.t (by omega)).trans q1.1, (u2.l (by omega)).trans q1.2, g2⟩
  rw [← e2]
  have c1 : nI 1 + iI (r : Int) = iI (p : Int) := by rw [one_i, en]
  unfold f_Law_chosen_b149
  rw [if_pos (le_s (by omega)), bn_C ec, bn_C eb, c1, lq_E, gd_P (pos_i (by omega)), ix_i (by omega), fa_E s0.1 l1, ← e1]
theorem cD {h : AH} {sc n m p : Nat} (hn3 : 1 ≤ n ∧ n ≤ 3) (hm3 : 1 ≤ m ∧ m ≤ 3) (hp4 : 1 ≤ p ∧ p ≤ 4) (hn : hN h = 336 + n + m + p) (hs : sc < 200) (S : Scr sc h) (s0 : S0 h) : ∃ (h' : AH) (b : Nat), (1 ≤ b ∧ b ≤ 3) ∧ f_Law_chosen_b209 (fun _ _ _ _ _ _ _ => none) h sc 320 (iI (n : Int)) (iI (m : Int)) (iI (p : Int)) (iI (p : Int)) = f_Law_chosen_b332 (fun _ _ _ _ _ _ => none) h' sc 320 (iI (p : Int)) (iI (b : Int)) (iI (b : Int)) ∧ Nw (fun x => x = 320) (1 + b) (8 * b) h h' ∧ (∀ s, s ≠ 16 → hR h' 320 s = hR h 320 s) ∧ hI h' 320 = hI h 320 ∧ Bs4 n m p b h' := by
  obtain ⟨v, ec⟩ := cellN S (j := 13) (by omega)
  obtain ⟨r, rl', eb⟩ := belN (h := h) v (n := 3) (by omega) (by omega)
  obtain ⟨b, en⟩ : ∃ y, y = r + 1 := ⟨_, rfl⟩
  obtain ⟨h1, e1, u1, r1, x1, q1, n1, t1, l1, -⟩ := faT (a := 320) (tg := 109) (k := b) (f := 16) hn (by omega) s0.1
  have i1 : hI h1 320 = hI h 320 := by rw [e1]; exact fa_I (by omega) (by omega)
  have S1 : Scr sc h1 := S.nw u1 (by omega) (fun y => absurd (show sc = 320 from y) (by omega))
  obtain ⟨h2, e2, u2, g2⟩ := boAll (n := n) (m := m) (p := p) (b := b) (by omega) (by omega) (by omega) (by omega) (n1.trans (by omega)) hs S1 t1 r1 q1.1 q1.2
  have n3 : ¬ (fun x => x = 336 + n + m + p) 320 := fun y => absurd (show 320 = 336 + n + m + p from y) (by omega)
  have x2 : ∀ s, hR h2 320 s = hR h1 320 s := u2.f3 (by omega) n3
  refine ⟨h2, b, by omega, ?_, (u1.trans u2 fun x hx y => absurd (show x = 336 + n + m + p from y) (by omega)).mono (fun _ _ y => y) rfl (by omega), fun s hs => (x2 s).trans (x1 s hs), (u2.i (by omega) n3).trans i1, (x2 16).trans r1, (u2.t (by omega)).trans q1.1, (u2.l (by omega)).trans q1.2, g2⟩
  rw [← e2]
  have c1 : nI 1 + iI (r : Int) = iI (b : Int) := by rw [one_i, en]
  unfold f_Law_chosen_b209
  rw [if_pos (le_s (by omega)), bn_C ec, bn_C eb, c1, lq_E, gd_P (pos_i (by omega)), ix_i (by omega), fa_E s0.1 l1, ← e1]
theorem cF {h : AH} {sc n m p b : Nat} (hn3 : 1 ≤ n ∧ n ≤ 3) (hm3 : 1 ≤ m ∧ m ≤ 3) (hp4 : 1 ≤ p ∧ p ≤ 4) (hb3 : 1 ≤ b ∧ b ≤ 3) (hn : hN h = 337 + n + m + p + b) (hs : sc < 200) (S : Scr sc h) (s0 : S0 h) : ∃ (h' : AH) (no : Nat), no ≤ 7 ∧ f_Law_chosen_b518 (fun _ _ _ _ _ _ => none) h sc 320 (iI (p : Int)) (iI (b : Int)) (iI 4) = f_Law_chosen_b591 (fun _ _ _ _ _ _ _ => none) h' sc 320 (iI (p : Int)) (iI (b : Int)) (iI (no : Int)) (iI (no : Int)) ∧ Nw (fun x => x = 320) (1 + no) (9 * no) h h' ∧ (∀ s, s ≠ 17 → hR h' 320 s = hR h 320 s) ∧ hI h' 320 = hI h 320 ∧ Os n m p b no h' := by
  obtain ⟨v, ec⟩ := cellN S (j := 7) (by omega)
  obtain ⟨r, rl', eb⟩ := belN (h := h) v (n := 8) (by omega) (by omega)
  obtain ⟨no, en⟩ : ∃ y, y = r := ⟨_, rfl⟩
  obtain ⟨h1, e1, u1, r1, x1, q1, n1, t1, l1, -⟩ := faT (a := 320) (tg := 109) (k := no) (f := 17) hn (by omega) s0.1
  have i1 : hI h1 320 = hI h 320 := by rw [e1]; exact fa_I (by omega) (by omega)
  have S1 : Scr sc h1 := S.nw u1 (by omega) (fun y => absurd (show sc = 320 from y) (by omega))
  obtain ⟨h2, e2, u2, g2⟩ := orAll (n := n) (m := m) (p := p) (b := b) (no := no) (by omega) (by omega) ⟨by omega, by omega⟩ ⟨by omega, by omega⟩ (by omega) (n1.trans (by omega)) hs S1 t1 r1 q1.1 q1.2
  have n3 : ¬ (fun x => x = 337 + n + m + p + b) 320 := fun y => absurd (show 320 = 337 + n + m + p + b from y) (by omega)
  have x2 : ∀ s, hR h2 320 s = hR h1 320 s := u2.f3 (by omega) n3
  refine ⟨h2, no, by omega, ?_, (u1.trans u2 fun x hx y => absurd (show x = 337 + n + m + p + b from y) (by omega)).mono (fun _ _ y => y) rfl (by omega), fun s hs => (x2 s).trans (x1 s hs), (u2.i (by omega) n3).trans i1, (x2 17).trans r1, (u2.t (by omega)).trans q1.1, (u2.l (by omega)).trans q1.2, g2⟩
  rw [← e2]
  have c1 : iI (r : Int) = iI (no : Int) := by rw [en]
  unfold f_Law_chosen_b518
  rw [if_pos (by decide), bn_C ec, bn_C eb, c1, gd_P (pos_i (by omega)), ix_i (by omega), fa_E s0.1 l1, ← e1]
-- miles, shades, prices
theorem cE {h : AH} {sc b : Nat} {a4 : Int32} (hb : b ≤ 3) (hn : 326 ≤ hN h) (hs : sc < 200) (S : Scr sc h) (s0 : S0 h) : ∃ h', f_Law_chosen_b332 (fun _ _ _ _ _ _ => none) h sc 320 a4 (iI (b : Int)) (iI (b : Int)) = f_Law_chosen_b518 (fun _ _ _ _ _ _ => none) h' sc 320 a4 (iI (b : Int)) (iI 4) ∧ Nw P3 0 0 h h' ∧ hR h' = hR h ∧ S0 h' := by
  have ns : ¬ P3 sc := fun y => absurd y.1 (by omega)
  obtain ⟨h1, e1, u1, R1, s1⟩ := riv_E (a4 := a4) (fun _ _ _ _ _ _ => none) hb hs S s0
  have n1 := u1.n
  have S1 : Scr sc h1 := S.nw u1 (by omega) ns
  obtain ⟨h2, e2, u2, R2, s2⟩ := shAll (a4 := a4) (a5 := iI (b : Int)) (by omega) hs S1 s1
  have n2 := u2.n
  have S2 : Scr sc h2 := S1.nw u2 (by omega) ns
  obtain ⟨h3, e3, u3, R3, s3⟩ := prAll (a4 := a4) (a5 := iI (b : Int)) (by omega) hs S2 s2
  refine ⟨h3, ?_, ((u1.trans u2 fun _ _ y => y).trans u3 fun _ _ y => y), by rw [R3, R2, R1], s3⟩
  have p5 : f_Law_chosen_b468 (fun _ _ _ _ _ _ => none) h2 sc 320 a4 (iI (b : Int)) (iI 12) = f_Law_chosen_l518 FU h2 sc 320 a4 (iI (b : Int)) (nI 0) := by
    unfold f_Law_chosen_b468
    rw [if_pos (by decide)]
  rw [e1, e2, p5, e3]
-- what has been made stays
def M3 (n m : Nat) (h : AH) : Prop := S0 h ∧ Gs n h ∧ Hs n m h ∧ Ks n m h
theorem M3.nw {n m c d f : Nat} {h h' : AH} (k : M3 n m h) (u : Nw (fun x => x = 320) c d h h') (hb : 335 + n + m ≤ hN h) (x : ∀ s, s ≠ f → hR h' 320 s = hR h 320 s) (i : hI h' 320 = hI h 320) (hf : 15 ≤ f) : M3 n m h' := by
  obtain ⟨k1, k2, k3, k4⟩ := k
  have ne : ∀ x, 321 ≤ x → ¬ (fun x => x = 320) x := fun x hx y => absurd (show x = 320 from y) (by omega)
  exact ⟨k1.nw u (by omega) (fun x hx _ => ne x hx) i (fun s hs => x s (by omega)), k2.nw u (by omega) (fun x hx _ => ne x (by omega)) (x 12 (by omega)), k3.nw u (by omega) (fun x hx _ => ne x (by omega)) (x 13 (by omega)), k4.nw u (by omega) (fun x hx _ => ne x (by omega)) (x 14 (by omega))⟩
theorem Scr.n20 {sc c d : Nat} {h h' : AH} (S : Scr sc h) (u : Nw (fun x => x = 320) c d h h') (hs : sc < 200) (hn : 320 ≤ hN h) : Scr sc h' := S.nw u (by omega) (fun y => absurd (show sc = 320 from y) (by omega))
theorem chosen_E {h : AH} {sc : Nat} (hn : hN h = 320) (hs : sc < 200) (S : Scr sc h) : ∃ (h' : AH) (n m p b no : Nat), f_Law_chosen h sc = some (h', 320) ∧ Nm n m p b ∧ no ≤ 7 ∧ Nw (fun _ => False) (18 + n + m + p + b + no) (46 + 4 * n + 2 * m + 8 * p + 8 * b + 9 * no) h h' ∧ M3 n m h' ∧ Ps n m p h' ∧ Bs4 n m p b h' ∧ Os n m p b no h' := by
  have ne : ∀ x, 321 ≤ x → ¬ (fun x => x = 320) x := fun x hx y => absurd (show x = 320 from y) (by omega)
  obtain ⟨h1, n, hn3, e1, u1, s1, g1⟩ := cA hn hs S
  have n1 : hN h1 = 333 + n := by rw [u1.n, hn]; omega
  have S1 : Scr sc h1 := S.nw u1 (by omega) (fun y => y)
  obtain ⟨h2, m, hm3, e2, u2, x2, i2, H2, K2⟩ := cB hn3 n1 hs S1 s1
  have n2 : hN h2 = 335 + n + m := by rw [u2.n, n1]; omega
  have S2 := S1.n20 u2 hs (by omega)
  have M2 : M3 n m h2 := ⟨s1.nw u2 (by omega) (fun x hx _ => ne x hx) i2 (fun s hs => x2 s (by omega) (by omega)), g1.nw u2 (by omega) (fun x hx _ => ne x (by omega)) (x2 12 (by decide) (by decide)), H2, K2⟩
  obtain ⟨h3, p, hp4, e3, u3, x3, i3, P3'⟩ := cC hn3 hm3 n2 hs S2 M2.1
  have n3 : hN h3 = 336 + n + m + p := by rw [u3.n, n2]; omega
  have S3 := S2.n20 u3 hs (by omega)
  have M3' : M3 n m h3 := M2.nw u3 (by omega) x3 i3 (by decide)
  obtain ⟨h4, b, hb3, e4, u4, x4, i4, B4⟩ := cD hn3 hm3 hp4 n3 hs S3 M3'.1
  have n4 : hN h4 = 337 + n + m + p + b := by rw [u4.n, n3]; omega
  have S4 := S3.n20 u4 hs (by omega)
  have M4 : M3 n m h4 := M3'.nw u4 (by omega) x4 i4 (by decide)
  have P4 : Ps n m p h4 := P3'.nw u4 (by omega) (fun x hx _ => ne x (by omega)) (x4 15 (by decide))
  obtain ⟨h5, e5, u5, R5, s5⟩ := cE (a4 := iI (p : Int)) hb3.2 (by omega) hs S4 M4.1
  have n5 : hN h5 = 337 + n + m + p + b := u5.n.trans n4
  have np : ∀ x, 323 ≤ x → ¬ P3 x := fun x hx y => absurd y.2 (by omega)
  have x5 : ∀ s, hR h5 320 s = hR h4 320 s := fun s => by rw [R5]
  have S5 : Scr sc h5 := S4.nw u5 (by omega) (fun y => absurd y.1 (by omega))
  have M5 : M3 n m h5 := ⟨s5, M4.2.1.nw u5 (by omega) (fun x hx _ => np x (by omega)) (x5 12), M4.2.2.1.nw u5 (by omega) (fun x hx _ => np x (by omega)) (x5 13), M4.2.2.2.nw u5 (by omega) (fun x hx _ => np x (by omega)) (x5 14)⟩
  have P5 : Ps n m p h5 := P4.nw u5 (by omega) (fun x hx _ => np x (by omega)) (x5 15)
  have B5 : Bs4 n m p b h5 := B4.nw u5 (by omega) (fun x hx _ => np x (by omega)) (x5 16)
  obtain ⟨h6, no, hno, e6, u6, x6, i6, O6⟩ := cF hn3 hm3 hp4 hb3 n5 hs S5 s5
  have M6 : M3 n m h6 := M5.nw u6 (by omega) x6 i6 (by decide)
  have P6 : Ps n m p h6 := P5.nw u6 (by omega) (fun x hx _ => ne x (by omega)) (x6 15 (by decide))
  have B6 : Bs4 n m p b h6 := B5.nw u6 (by omega) (fun x hx _ => ne x (by omega)) (x6 16 (by decide))
  refine ⟨h6, n, m, p, b, no, ?_, ⟨hn3, hm3, hp4, hb3⟩, hno, ?_, M6, P6, B6, O6⟩
  · have p7 : f_Law_chosen_b591 (fun _ _ _ _ _ _ _ => none) h6 sc 320 (iI (p : Int)) (iI (b : Int)) (iI (no : Int)) (iI (no : Int)) = some (h6, 320) := by
      unfold f_Law_chosen_b591
      rw [if_pos (le_s (by omega))]
    rw [e1, e2, e3, e4, e5, e6, p7]
  · have w : ∀ {c d : Nat} {a a' : AH}, 320 < hN a → Nw (fun x => x = 320) c d a a' → Nw (fun x => 320 ≤ x) c d a a' := fun _ u => u.mono (fun x _ y => by have q : x = 320 := y; show 320 ≤ x; omega) rfl rfl
    have a2 := (u1.mono (Q := fun x => 320 ≤ x) (fun _ _ y => y.elim) rfl rfl).trans (w (by omega) u2) fun _ _ y => y
    have a4 := (a2.trans (w (by omega) u3) fun _ _ y => y).trans (w (by omega) u4) fun _ _ y => y
    have a6 := (a4.trans u5 fun _ _ y => y.1).trans (w (by omega) u6) fun _ _ y => y
    exact a6.mono (fun x hx y => absurd (show 320 ≤ x from y) (by omega)) (by omega) (by omega)

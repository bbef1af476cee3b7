/-! 98zv L3: constructors, IV: grammar, names -/
-- a new object of tag tg, made ready by a constructor, in the field f of a
theorem newS {h h2 : AH} {a f tg n ta c d N : Nat} {init : AH → Nat → Option AH} (hn : hN h = N) (ha : a < N) (t : hT h a = ta) (e : init (hA h tg n) N = some h2) (u : Nw (fun x => x = N) c d (hA h tg n) h2) : ∃ h3, (∀ (K : AH → Option AH), lq (hA h tg n) (fun h1 => gd (hT h1 (hN h) = tg) (bv (init h1 (hN h)) fun h4 => gd (hT h4 a = ta) (lq (wR h4 a f (hN h)) K))) = K h3) ∧ Nw (fun x => x = a) (1 + c) (n + d) h h3 ∧ hR h3 a f = N ∧ (∀ s, s ≠ f → hR h3 a s = hR h a s) ∧ hI h3 a = hI h a ∧ hT h3 a = ta ∧ hN h3 = N + (1 + c) ∧ hT h3 N = tg ∧ Nw (fun x => x = a) 0 0 h2 h3 := by
  have nA : hN (hA h tg n) = N + 1 := by rw [hN_a, hn]
  have an : ¬ a = N := by omega
  have anh : ¬ a = hN h := by omega
  have T0 : hT (hA h tg n) N = tg := by rw [← hn]; exact up1_e _ _ _
  have ta2 : hT h2 a = ta := by rw [u.t (x := a) (by omega), hT_a, up1_n _ _ _ _ anh]; exact t
  have U : Nw (fun x => x = a) (1 + c) (n + d) h (wR h2 a f N) := ((Nw.al (P := fun x => x = a) h tg n).trans u (fun x hx y => absurd (show x = N from y) (by omega))).trans (Nw.wr (P := fun x => x = a) rfl) fun _ _ y => y
  refine ⟨wR h2 a f N, fun K => ?_, U, up2_e _ _ _ _, fun s hs => ?_, ?_, ta2, by rw [U.n, hn], (u.t (x := N) (by omega)).trans T0, Nw.wr rfl⟩
  · rw [lq_E, hn, gd_P T0, e, bv_S, gd_P ta2, lq_E]
  · show up2 (hR h2) a f N a s = _
    rw [up2_n _ _ _ _ _ _ (fun y => hs y.2), u.r (x := a) (by omega) an, hR_a, up1_n _ _ _ _ anh]
  · show hI h2 a = _
    rw [u.i (x := a) (by omega) an, hI_a, up1_n _ _ _ _ anh]
theorem ix_self {h : AH} {t k N : Nat} (hn : hN h = N) : hT (hA h t k) N = t := by rw [← hn]; exact up1_e _ _ _
def TkA (b : Nat) (h : AH) : Prop := (hT h b = 11 ∧ hR h b 0 = b + 1 ∧ hR h b 1 = b + 2 ∧ hR h b 2 = b + 3 ∧ hR h b 3 = b + 4 ∧ hR h b 4 = b + 5) ∧ (hT h (b + 1) = 103 ∧ hL h (b + 1) = 39 ∧ hT h (b + 2) = 101 ∧ hL h (b + 2) = 401 ∧ hT h (b + 3) = 101 ∧ hL h (b + 3) = 401 ∧ hT h (b + 4) = 101 ∧ hL h (b + 4) = 401 ∧ hT h (b + 5) = 103 ∧ hL h (b + 5) = 401) ∧ ∀ i, i < 39 → hJ h (b + 1) i = kwj (i + 1)
theorem TkA.nw {P : Nat → Prop} {b c d : Nat} {h h' : AH} (k : TkA b h) (w : Nw P c d h h') (hb : b + 6 ≤ hN h) (e : ∀ x, b ≤ x → ¬ P x) : TkA b h' := by
  obtain ⟨k1, k2, k3⟩ := k
  have eR := w.r (x := b) (by omega) (e b (by omega))
  refine ⟨by rw [w.t (x := b) (by omega), eR]; exact k1, ?_, fun i hi => by rw [w.j (x := b + 1) (by omega) (e _ (by omega))]; exact k3 i hi⟩
  rw [w.t (x := b + 1) (by omega), w.t (x := b + 2) (by omega), w.t (x := b + 3) (by omega), w.t (x := b + 4) (by omega), w.t (x := b + 5) (by omega), w.l (x := b + 1) (by omega), w.l (x := b + 2) (by omega), w.l (x := b + 3) (by omega), w.l (x := b + 4) (by omega), w.l (x := b + 5) (by omega)]
  exact k2
def GrA (a : Nat) (h : AH) : Prop := hT h a = 10 ∧ hR h a 0 = a + 1 ∧ hR h a 1 = a + 7 ∧ hT h (a + 7) = 2 ∧ hR h (a + 7) 0 = a + 8 ∧ hR h (a + 7) 1 = a + 9 ∧ hT h (a + 8) = 101 ∧ hT h (a + 9) = 101 ∧ hL h (a + 8) = 400 ∧ hL h (a + 9) = 400
theorem GrA.nw {P : Nat → Prop} {a c d : Nat} {h h' : AH} (k : GrA a h) (w : Nw P c d h h') (hb : a + 11 ≤ hN h) (e : ∀ x, a ≤ x → ¬ P x) : GrA a h' := by
  unfold GrA
  rw [w.t (x := a) (by omega), w.r (x := a) (by omega) (e a (by omega)), w.t (x := a + 7) (by omega), w.r (x := a + 7) (by omega) (e _ (by omega)), w.t (x := a + 8) (by omega), w.t (x := a + 9) (by omega), w.l (x := a + 8) (by omega), w.l (x := a + 9) (by omega)]
  exact k
-- the strings that constructors read
def K112 (h : AH) : Prop := Str h 112 s112 ∧ hR h 112 0 < 200
theorem K112.nw {P : Nat → Prop} {c d : Nat} {h h' : AH} (k : K112 h) (w : Nw P c d h h') (hb : 200 ≤ hN h) (e : ∀ x, x < 200 → ¬ P x) : K112 h' := by
  have e1 := w.e (x := 112) (by omega) (e 112 (by omega))
  refine ⟨k.1.ext e1 (w.e (by have := k.2; omega) (e _ k.2)), ?_⟩
  rw [e1.2.2.2]
  exact k.2
theorem TkA.of {b : Nat} {h : AH} (F : TkF b (b + 1) h) (J : ∀ i, i < 39 → hJ h (b + 1) i = kwj (i + 1)) : TkA b h := by
  obtain ⟨⟨f1, f2, f3, f4, f5, f6⟩, g1, g2, g3, g4, g5⟩ := F
  exact ⟨⟨f1, f2, f3, f4, f5, f6⟩, ⟨g1.1, g1.2, g2.1, g2.2, g3.1, g3.2, g4.1, g4.2, g5.1, g5.2⟩, J⟩
theorem grTok {h : AH} {a : Nat} (hn : hN h = a + 1) (a2 : 200 ≤ a) (K : K112 h) : ∃ h2, f_Tokens_init (hA h 11 6) (a + 1) = some h2 ∧ Nw (fun x => x = a + 1) 5 1643 (hA h 11 6) h2 ∧ TkA (a + 1) h2 := by
  have K1 : K112 (hA h 11 6) := K.nw (Nw.al (P := fun _ => False) h 11 6) (by omega) (fun _ _ y => y)
  have nA : hN (hA h 11 6) = a + 2 := by rw [hN_a, hn]
  have k2 := K1.2
  obtain ⟨h1, e1, w1, F, J⟩ := tkNew (h := hA h 11 6) (a := a + 1) (ix_self hn) (by omega) (by omega) (by omega) (by omega) K1.1
  rw [nA] at F J
  exact ⟨h1, e1, w1, TkA.of F J⟩
def OrA (b : Nat) (h : AH) : Prop := hT h b = 2 ∧ (hR h b 0 = b + 1 ∧ hR h b 1 = b + 2 ∧ hR h b 3 = b + 3) ∧ (hT h (b + 1) = 101 ∧ hL h (b + 1) = 400) ∧ (hT h (b + 2) = 101 ∧ hL h (b + 2) = 400) ∧ (hT h (b + 3) = 101 ∧ hL h (b + 3) = 400)
theorem OrA.nw {P : Nat → Prop} {b c d : Nat} {h h' : AH} (k : OrA b h) (w : Nw P c d h h') (hb : b + 4 ≤ hN h) (e : ¬ P b) : OrA b h' := by
  unfold OrA
  rw [w.t (x := b) (by omega), w.r (x := b) (by omega) e, w.t (x := b + 1) (by omega), w.t (x := b + 2) (by omega), w.t (x := b + 3) (by omega), w.l (x := b + 1) (by omega), w.l (x := b + 2) (by omega), w.l (x := b + 3) (by omega)]
  exact k
theorem orObj {h : AH} {N : Nat} (hn : hN h = N) : ∃ h2, f_Orders_init (hA h 2 5) N = some h2 ∧ Nw (fun x => x = N) 3 1200 (hA h 2 5) h2 ∧ OrA N h2 := by
  have nA : hN (hA h 2 5) = N + 1 := by rw [hN_a, hn]
  obtain ⟨h2, e, w, ⟨q0, q1, q3⟩, qa⟩ := orNew (h := hA h 2 5) (a := N) (ix_self hn) (by omega)
  rw [nA] at q0 q1 q3 qa
  exact ⟨h2, e, w, (w.t (by omega)).trans (ix_self hn), ⟨q0, q1, q3⟩, qa 0 (by decide), qa 1 (by decide), qa 2 (by decide)⟩
theorem grNew {h : AH} {a : Nat} (t : hT h a = 10) (ha : hN h = a + 1) (a2 : 200 ≤ a) (K : K112 h) : ∃ h', f_Grammar_init h a = some h' ∧ Nw (fun x => x = a) 10 2854 h h' ∧ GrA a h' ∧ TkA (a + 1) h' := by
  obtain ⟨g1, e1, w1, tk1⟩ := grTok ha a2 K
  obtain ⟨h2, k2, v2, r2, s2, -, t2, n2, -, x2⟩ := newS (f := 0) ha (Nat.lt_succ_self a) t e1 w1
  have tk2 : TkA (a + 1) h2 := tk1.nw x2 (by rw [w1.n, hN_a]; omega) (fun x hx y => absurd (show x = a from y) (by omega))
  obtain ⟨g3, e3, w3, o3⟩ := orObj n2
  obtain ⟨h4, k4, v4, r4, s4, -, t4, n4, -, x4⟩ := newS (f := 1) n2 (by omega) t2 e3 w3
  have o4 : OrA (a + 7) h4 := o3.nw x4 (by rw [w3.n, hN_a, n2]; omega) (fun y => absurd (show a + 7 = a from y) (by omega))
  have tk4 : TkA (a + 1) h4 := tk2.nw v4 (by omega) (fun x hx y => absurd (show x = a from y) (by omega))
  have w5 : Nw (fun x => x = a) 0 0 h4 (wI (wI h4 a 2 (nI 0)) a 3 (nI 57)) := (Nw.wi (P := fun x => x = a) rfl).trans (Nw.wi (P := fun x => x = a) rfl) fun _ _ y => y
  refine ⟨wI (wI h4 a 2 (nI 0)) a 3 (nI 57), ?_, ((v2.trans v4 fun _ _ y => y).trans w5 fun _ _ y => y).mono (fun _ _ y => y) rfl rfl, ?_, tk4.nw w5 (by omega) (fun x hx y => absurd (show x = a from y) (by omega))⟩
  · unfold f_Grammar_init
    rw [gd_P t, k2, k4, gd_P t4, lq_E, gd_P (by rw [hT_wi]; exact t4), lq_E]
  · obtain ⟨o1, ⟨o2, o3', o4'⟩, o5, o6, o7⟩ := o4
    exact ⟨t4, (s4 0 (by decide)).trans r2, r4.trans (by omega), o1, o2, o3', o5.1, o6.1, o5.2, o6.2⟩
-- four rolls
def RoA (b : Nat) (h : AH) (j k : Nat) : Prop := hT h (b + 2 * j) = 12 ∧ hR h (b + 2 * j) 0 = b + 1 + 2 * j ∧ hT h (b + 1 + 2 * j) = 103 ∧ hL h (b + 1 + 2 * j) = k
theorem RoA.nw {P : Nat → Prop} {b j k c d : Nat} {h h' : AH} (r : RoA b h j k) (w : Nw P c d h h') (hb : b + 2 * j + 2 ≤ hN h) (e : ∀ x, b ≤ x → ¬ P x) : RoA b h' j k := by
  unfold RoA
  rw [w.t (x := b + 2 * j) (by omega), w.r (x := b + 2 * j) (by omega) (e _ (by omega)), w.t (x := b + 1 + 2 * j) (by omega), w.l (x := b + 1 + 2 * j) (by omega)]
  exact r
theorem SkR.nw {P : Nat → Prop} {r c d : Nat} {h h' : AH} (k : SkR h r) (w : Nw P c d h h') (hb : r + 47 ≤ hN h) (e : ∀ x, r ≤ x → x < r + 47 → ¬ P x) : SkR h' r := by
  have eT : ∀ a, a < r + 47 → hT h' a = hT h a := fun a ha => w.t (by omega)
  have eL : ∀ a, a < r + 47 → hL h' a = hL h a := fun a ha => w.l (by omega)
  have eR : ∀ a s, r ≤ a → a < r + 47 → hR h' a s = hR h a s := fun a s h1 h2 => congrFun (w.r (by omega) (e a h1 h2)) s
  obtain ⟨k0, k1, k2, k3, k4, k5, k6, ⟨ka1, ka2, ka3, ka4, ka5, ka6, ka7, ka8, ka9, kaa, kab, kac⟩, kg, kk, kp, kb, kq⟩ := k
  unfold SkR
  rw [eT r (by omega), eR r 0 (by omega) (by omega), eR r 1 (by omega) (by omega), eR r 2 (by omega) (by omega), eR r 3 (by omega) (by omega), eR r 4 (by omega) (by omega), eR r 5 (by omega) (by omega), eT (r + 1) (by omega), eT (r + 2) (by omega), eT (r + 3) (by omega), eT (r + 4) (by omega), eT (r + 5) (by omega), eT (r + 6) (by omega), eL (r + 1) (by omega), eL (r + 2) (by omega), eL (r + 3) (by omega), eL (r + 4) (by omega), eL (r + 5) (by omega), eL (r + 6) (by omega)]
  refine ⟨k0, k1, k2, k3, k4, k5, k6, ⟨ka1, ka2, ka3, ka4, ka5, ka6, ka7, ka8, ka9, kaa, kab, kac⟩, fun i hi => ?_, fun i hi => ?_, fun i hi => ?_, fun i hi => ?_, fun i hi => ?_⟩
  · rw [eR _ _ (by omega) (by omega), eT _ (by omega)]; exact kg i hi
  · rw [eR (r + 2) _ (by omega) (by omega), eR (r + (11 + 5 * i)) 3 (by omega) (by omega), eR (r + (11 + 5 * i)) 4 (by omega) (by omega), eR (r + (11 + 5 * i)) 5 (by omega) (by omega), eR (r + (11 + 5 * i)) 6 (by omega) (by omega), eT (r + (11 + 5 * i)) (by omega), eT (r + (12 + 5 * i)) (by omega), eT (r + (13 + 5 * i)) (by omega), eT (r + (14 + 5 * i)) (by omega), eT (r + (15 + 5 * i)) (by omega), eL (r + (12 + 5 * i)) (by omega), eL (r + (13 + 5 * i)) (by omega), eL (r + (14 + 5 * i)) (by omega), eL (r + (15 + 5 * i)) (by omega)]
    exact kk i hi
  · rw [eR _ _ (by omega) (by omega), eT _ (by omega)]; exact kp i hi
  · rw [eR _ _ (by omega) (by omega), eT _ (by omega)]; exact kb i hi
  · rw [eR _ _ (by omega) (by omega), eT _ (by omega)]; exact kq i hi
def NaA (a : Nat) (h : AH) : Prop := (hT h a = 9 ∧ hR h a 0 = a + 1 ∧ hR h a 1 = a + 2 ∧ hR h a 2 = a + 12 ∧ hR h a 3 = a + 59 ∧ hR h a 4 = a + 61 ∧ hR h a 5 = a + 63 ∧ hR h a 6 = a + 65) ∧ GrA (a + 1) h ∧ TkA (a + 2) h ∧ SkR h (a + 12) ∧ RoA (a + 59) h 0 4 ∧ RoA (a + 59) h 1 4 ∧ RoA (a + 59) h 2 8 ∧ RoA (a + 59) h 3 4
theorem roObj {h : AH} {N k : Nat} (hn : hN h = N) (hk : k ≤ 100) : ∃ h2, (fun h x => f_Roll_init h x (nI k)) (hA h 12 2) N = some h2 ∧ Nw (fun x => x = N) 1 k (hA h 12 2) h2 ∧ hT h2 N = 12 ∧ hR h2 N 0 = N + 1 ∧ hT h2 (N + 1) = 103 ∧ hL h2 (N + 1) = k := by
  have nA : hN (hA h 12 2) = N + 1 := by rw [hN_a, hn]
  obtain ⟨h2, e, w, c, d1, d2⟩ := rlNew (h := hA h 12 2) (a := N) (k := k) (ix_self hn) (by omega) hk
  rw [nA] at c d1 d2
  exact ⟨h2, e, w, (w.t (by omega)).trans (ix_self hn), c, d1, d2⟩
-- a roll more, the j-th, with its row
theorem roS {h : AH} {a j f k : Nat} (hf : f = 3 + j) (hk : k ≤ 100) (hn : hN h = a + 59 + 2 * j) (t : hT h a = 9) : ∃ h3, (∀ (K : AH → Option AH), lq (hA h 12 2) (fun h1 => gd (hT h1 (hN h) = 12) (bv (f_Roll_init h1 (hN h) (nI k)) fun h4 => gd (hT h4 a = 9) (lq (wR h4 a f (hN h)) K))) = K h3) ∧ Nw (fun x => x = a) 2 (2 + k) h h3 ∧ hR h3 a f = a + 59 + 2 * j ∧ (∀ s, s ≠ f → hR h3 a s = hR h a s) ∧ hT h3 a = 9 ∧ hN h3 = a + 59 + 2 * (j + 1) ∧ RoA (a + 59) h3 j k := by
  obtain ⟨h2, e, w, q1, q2, q3, q4⟩ := roObj hn hk
  obtain ⟨h3, k3, v3, r3, s3, -, t3, n3, -, x3⟩ := newS (init := fun h x => f_Roll_init h x (nI k)) (f := f) hn (by omega) t e w
  have n2 : hN h2 = a + 59 + 2 * j + 2 := by rw [w.n, hN_a, hn]
  have nx : ¬ (fun x => x = a) (a + 59 + 2 * j) := fun y => absurd (show a + 59 + 2 * j = a from y) (by omega)
  refine ⟨h3, k3, v3, r3, s3, t3, by omega, ?_⟩
  unfold RoA
  rw [x3.t (x := a + 59 + 2 * j) (by omega), x3.r (x := a + 59 + 2 * j) (by omega) nx, x3.t (x := a + 59 + 1 + 2 * j) (by omega), x3.l (x := a + 59 + 1 + 2 * j) (by omega), show a + 59 + 1 + 2 * j = a + 59 + 2 * j + 1 by omega]
  exact ⟨q1, q2, q3, q4⟩
def naRest (h : AH) (a0 : Nat) : Option AH :=
  lq (hA h 12 2) fun h15 =>
  gd (hT h15 (hN h) = 12) <|
  bv (f_Roll_init h15 (hN h) (nI 4)) fun h17 =>
  gd (hT h17 a0 = 9) <|
  lq (wR h17 a0 3 (hN h)) fun h19 =>
  lq (hA h19 12 2) fun h20 =>
  gd (hT h20 (hN h19) = 12) <|
  bv (f_Roll_init h20 (hN h19) (nI 4)) fun h22 =>
  gd (hT h22 a0 = 9) <|
  lq (wR h22 a0 4 (hN h19)) fun h24 =>
  lq (hA h24 12 2) fun h25 =>
  gd (hT h25 (hN h24) = 12) <|
  bv (f_Roll_init h25 (hN h24) (nI 8)) fun h27 =>
  gd (hT h27 a0 = 9) <|
  lq (wR h27 a0 5 (hN h24)) fun h29 =>
  lq (hA h29 12 2) fun h30 =>
  gd (hT h30 (hN h29) = 12) <|
  bv (f_Roll_init h30 (hN h29) (nI 4)) fun h32 =>
  gd (hT h32 a0 = 9) <|
  lq (wR h32 a0 6 (hN h29)) fun h34 =>
  gd (hT h34 a0 = 9) <|
  lq (wI h34 a0 7 (nI 0)) fun h36 =>
  some h36
theorem naRolls {h : AH} {a : Nat} (hn : hN h = a + 59) (t : hT h a = 9) : ∃ h', naRest h a = some h' ∧ Nw (fun x => x = a) 8 28 h h' ∧ (∀ s, s < 3 → hR h' a s = hR h a s) ∧ (hR h' a 3 = a + 59 ∧ hR h' a 4 = a + 61 ∧ hR h' a 5 = a + 63 ∧ hR h' a 6 = a + 65) ∧ hT h' a = 9 ∧ RoA (a + 59) h' 0 4 ∧ RoA (a + 59) h' 1 4 ∧ RoA (a + 59) h' 2 8 ∧ RoA (a + 59) h' 3 4 := by
  have ne : ∀ x, a + 59 ≤ x → ¬ (fun x => x = a) x := fun x hx y => absurd (show x = a from y) (by omega)
  obtain ⟨h1, k1, v1, r1, s1, t1, n1, o1⟩ := roS (j := 0) (f := 3) (k := 4) rfl (by decide) hn t
  obtain ⟨h2, k2, v2, r2, s2, t2, n2, o2⟩ := roS (j := 1) (f := 4) (k := 4) rfl (by decide) n1 t1
  obtain ⟨h3, k3, v3, r3, s3, t3, n3, o3⟩ := roS (j := 2) (f := 5) (k := 8) rfl (by decide) n2 t2
  obtain ⟨h4, k4, v4, r4, s4, t4, n4, o4⟩ := roS (j := 3) (f := 6) (k := 4) rfl (by decide) n3 t3
  have w5 : Nw (fun x => x = a) 0 0 h4 (wI h4 a 7 (nI 0)) := Nw.wi rfl
  have v34 := v3.trans v4 fun _ _ y => y
  have v24 := v2.trans v34 fun _ _ y => y
  refine ⟨wI h4 a 7 (nI 0), ?_, (((v1.trans v2 fun _ _ y => y).trans v34 fun _ _ y => y).trans w5 fun _ _ y => y).mono (fun _ _ y => y) rfl rfl, fun s hs => ?_, ⟨?_, ?_, ?_, r4⟩, t4, (o1.nw v24 (by omega) ne).nw w5 (by omega) ne, (o2.nw v34 (by omega) ne).nw w5 (by omega) ne, (o3.nw v4 (by omega) ne).nw w5 (by omega) ne, o4.nw w5 (by omega) ne⟩
  · unfold naRest
    rw [k1, k2, k3, k4, gd_P t4, lq_E]
  · exact (s4 s (by omega)).trans ((s3 s (by omega)).trans ((s2 s (by omega)).trans (s1 s (by omega))))
  · exact (s4 3 (by decide)).trans ((s3 3 (by decide)).trans ((s2 3 (by decide)).trans r1))
  · exact (s4 4 (by decide)).trans ((s3 4 (by decide)).trans r2)
  · exact (s4 5 (by decide)).trans r3
theorem riObj2 {h : AH} {N : Nat} (hn : hN h = N) : ∃ h2, f_River_init (hA h 3 18) N = some h2 ∧ Nw (fun x => x = N) 46 1136 (hA h 3 18) h2 ∧ SkR h2 N ∧ hI h2 N 11 = nI 0 := riNew (ix_self hn) (by rw [hN_a, hn])
theorem grObj {h : AH} {N : Nat} (hn : hN h = N) (h2 : 200 ≤ N) (K : K112 h) : ∃ h2, f_Grammar_init (hA h 10 4) N = some h2 ∧ Nw (fun x => x = N) 10 2854 (hA h 10 4) h2 ∧ GrA N h2 ∧ TkA (N + 1) h2 :=
  grNew (ix_self hn) (by rw [hN_a, hn]) h2 (K.nw (Nw.al (P := fun _ => False) h 10 4) (by omega) (fun _ _ y => y))
theorem naNew {h : AH} {a : Nat} (t : hT h a = 9) (ha : hN h = a + 1) (a2 : 200 ≤ a) (K : K112 h) : ∃ h', f_Names_init h a = some h' ∧ Nw (fun x => x = a) 66 4040 h h' ∧ NaA a h' := by
  have ne : ∀ {b : Nat}, a < b → ∀ x, b ≤ x → ¬ (fun x => x = a) x := fun hb x hx y => absurd (show x = a from y) (by omega)
  have ne1 := ne (b := a + 1) (by omega)
  obtain ⟨g1, e1, w1, gr1, tk1⟩ := grObj ha (by omega) K
  obtain ⟨h2, k2, v2, r2, s2, -, t2, n2, -, x2⟩ := newS (f := 0) ha (Nat.lt_succ_self a) t e1 w1
  have m1 : hN g1 = a + 12 := by rw [w1.n, hN_a, ha]
  have gr2 : GrA (a + 1) h2 := gr1.nw x2 (by omega) (fun x hx => ne1 x (by omega))
  have tk2 : TkA (a + 2) h2 := tk1.nw x2 (by omega) (fun x hx => ne1 x (by omega))
  have w3 : Nw (fun x => x = a) 0 0 h2 (wR h2 a 1 (a + 2)) := Nw.wr rfl
  obtain ⟨h3, e3⟩ : ∃ y, y = wR h2 a 1 (a + 2) := ⟨_, rfl⟩
  have r31 : hR h3 a 1 = a + 2 := by rw [e3]; exact up2_e _ _ _ _
  have r30 : hR h3 a 0 = a + 1 := by rw [e3, ← r2]; exact up2_n _ _ _ _ _ _ (by omega)
  rw [← e3] at w3
  have n3 : hN h3 = a + 12 := w3.n.trans (n2.trans (by omega))
  have t3 : hT h3 a = 9 := (w3.t (by omega)).trans t2
  have gr3 : GrA (a + 1) h3 := gr2.nw w3 (by omega) (fun x hx => ne1 x (by omega))
  have tk3 : TkA (a + 2) h3 := tk2.nw w3 (by omega) (fun x hx => ne1 x (by omega))
  obtain ⟨g4, e4, w4, S4, -⟩ := riObj2 n3
  obtain ⟨h5, k5, v5, r5, s5, -, t5, n5, -, x5⟩ := newS (f := 2) n3 (by omega) t3 e4 w4
  have m4 : hN g4 = a + 59 := by rw [w4.n, hN_a, n3]
  have S5 : SkR h5 (a + 12) := S4.nw x5 (by omega) (fun x hx _ => ne1 x (by omega))
  have gr5 : GrA (a + 1) h5 := gr3.nw v5 (by omega) (fun x hx => ne1 x (by omega))
  have tk5 : TkA (a + 2) h5 := tk3.nw v5 (by omega) (fun x hx => ne1 x (by omega))
  obtain ⟨h6, e6, v6, s6, ⟨q3, q4, q5, q6⟩, t6, o0, o1, o2, o3⟩ := naRolls (h := h5) (n5.trans (by omega)) t5
  refine ⟨h6, ?_, (((v2.trans w3 fun _ _ y => y).trans v5 fun _ _ y => y).trans v6 fun _ _ y => y).mono (fun _ _ y => y) rfl rfl, ⟨t6, ?_, ?_, ?_, q3, q4, q5, q6⟩, gr5.nw v6 (by omega) (fun x hx => ne1 x (by omega)), tk5.nw v6 (by omega) (fun x hx => ne1 x (by omega)), S5.nw v6 (by omega) (fun x hx _ => ne1 x (by omega)), o0, o1, o2, o3⟩
  · have r20 : hR h2 (a + 1) 0 = a + 2 := gr2.2.1
    unfold f_Names_init
    rw [gd_P t, k2, gd_P t2, r2, gd_P gr2.1, r20, lq_E, ← e3, k5]
    exact e6
  · rw [s6 0 (by decide), s5 0 (by decide)]; exact r30
  · rw [s6 1 (by decide), s5 1 (by decide)]; exact r31
  · rw [s6 2 (by decide)]; exact r5

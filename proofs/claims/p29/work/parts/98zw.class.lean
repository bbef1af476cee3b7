/-! 98zw L3: constructors, V: the class -/
theorem NaA.nw {P : Nat → Prop} {a c d : Nat} {h h' : AH} (k : NaA a h) (w : Nw P c d h h') (hb : a + 67 ≤ hN h) (e : ∀ x, a ≤ x → ¬ P x) : NaA a h' := by
  obtain ⟨k1, k2, k3, k4, k5, k6, k7, k8⟩ := k
  refine ⟨?_, k2.nw w (by omega) (fun x hx => e x (by omega)), k3.nw w (by omega) (fun x hx => e x (by omega)), k4.nw w (by omega) (fun x hx _ => e x (by omega)), k5.nw w (by omega) (fun x hx => e x (by omega)), k6.nw w (by omega) (fun x hx => e x (by omega)), k7.nw w (by omega) (fun x hx => e x (by omega)), k8.nw w (by omega) (fun x hx => e x (by omega))⟩
  rw [w.t (x := a) (by omega), w.r (x := a) (by omega) (e a (by omega))]
  exact k1
theorem naObj {h : AH} {N : Nat} (hn : hN h = N) (h2 : 200 ≤ N) (K : K112 h) : ∃ h2, f_Names_init (hA h 9 8) N = some h2 ∧ Nw (fun x => x = N) 66 4040 (hA h 9 8) h2 ∧ NaA N h2 :=
  naNew (ix_self hn) (by rw [hN_a, hn]) h2 (K.nw (Nw.al (P := fun _ => False) h 9 8) (by omega) (fun _ _ y => y))
-- tape, two numbers, orders
theorem qb1 {h : AH} (t : hT h 200 = 1) (hn : hN h = 201) : ∃ h2, (∀ K : AH → Option AH, (lq (hA h 102 (ix (nI 2000))) fun h2 => gd (hT h2 200 = 1) <| lq (wR h2 200 0 (hN h)) fun h4 => gd (hT h4 200 = 1) <| lq (wI h4 200 1 (nI 0)) fun h6 => gd (hT h6 200 = 1) <| lq (wI h6 200 2 (-nI 1)) K) = K h2) ∧ Nw (fun x => x = 200) 1 2000 h h2 ∧ hT h2 200 = 1 ∧ hN h2 = 202 ∧ hR h2 200 0 = 201 ∧ hI h2 200 1 = nI 0 ∧ hT h2 201 = 102 ∧ hL h2 201 = 2000 := by
  have i2 : ix (nI 2000) = 2000 := ix_n (by omega)
  obtain ⟨h1, e1, w1, r1, -, q1, n1, t1, l1, -⟩ := faT (a := 200) (tg := 102) (k := 2000) (f := 0) hn (by omega) t
  have w2 : Nw (fun x => x = 200) 0 0 h1 (wI (wI h1 200 1 (nI 0)) 200 2 (-nI 1)) := (Nw.wi (P := fun x => x = 200) rfl).trans (Nw.wi (P := fun x => x = 200) rfl) fun _ _ y => y
  refine ⟨wI (wI h1 200 1 (nI 0)) 200 2 (-nI 1), fun K => ?_, w1.trans w2 fun _ _ y => y, t1, w2.n.trans n1, r1, ?_, q1.1, q1.2⟩
  · rw [i2, fa_E t l1, ← e1, gd_P t1, lq_E, gd_P (by rw [hT_wi]; exact t1), lq_E]
  · show up2 (up2 (hI h1) 200 1 (nI 0)) 200 2 (-nI 1) 200 1 = _
    rw [up2_n _ _ _ _ _ _ (by omega), up2_e]
def qbRest (h : AH) : Option AH :=
  gd (hT h 200 = 1) <|
  gd (hT h (hR h 200 5) = 9) <|
  lq (wR h 200 6 (hR h (hR h 200 5) 0)) fun h26 =>
  gd (hT h26 200 = 1) <|
  gd (hT h26 (hR h26 200 6) = 10) <|
  lq (wR h26 200 7 (hR h26 (hR h26 200 6) 0)) fun h29 =>
  gd (hT h29 200 = 1) <|
  gd (hT h29 (hR h29 200 6) = 10) <|
  lq (wR h29 200 8 (hR h29 (hR h29 200 6) 1)) fun h32 =>
  gd (hT h32 200 = 1) <|
  gd (hT h32 (hR h32 200 5) = 9) <|
  lq (wR h32 200 9 (hR h32 (hR h32 200 5) 2)) fun h35 =>
  some h35
theorem wR_200 {h : AH} {f v : Nat} (n : hN h = 320) (t : hT h 200 = 1) (na : NaA 253 h) : ∃ h', h' = wR h 200 f v ∧ Nw (fun x => x = 200) 0 0 h h' ∧ hN h' = 320 ∧ hT h' 200 = 1 ∧ NaA 253 h' ∧ hR h' 200 f = v ∧ (∀ s, s ≠ f → hR h' 200 s = hR h 200 s) ∧ hI h' = hI h := by
  have w : Nw (fun x => x = 200) 0 0 h (wR h 200 f v) := Nw.wr rfl
  exact ⟨_, rfl, w, n, t, na.nw w (by omega) (fun x hx y => absurd (show x = 200 from y) (by omega)), up2_e _ _ _ _, fun s hs => up2_n _ _ _ _ _ _ fun y => hs y.2, rfl⟩
theorem qb2 {h : AH} (n : hN h = 320) (t : hT h 200 = 1) (na : NaA 253 h) (r5 : hR h 200 5 = 253) : ∃ h', qbRest h = some h' ∧ Nw (fun x => x = 200) 0 0 h h' ∧ hT h' 200 = 1 ∧ NaA 253 h' ∧ (∀ s, s < 6 → hR h' 200 s = hR h 200 s) ∧ (hR h' 200 6 = 254 ∧ hR h' 200 7 = 255 ∧ hR h' 200 8 = 261 ∧ hR h' 200 9 = 265) ∧ hI h' = hI h := by
  obtain ⟨h1, e1, w1, n1, t1, na1, a1, b1, i1⟩ := wR_200 (f := 6) (v := 254) n t na
  obtain ⟨h2, e2, w2, n2, t2, na2, a2, b2, i2⟩ := wR_200 (f := 7) (v := 255) n1 t1 na1
  obtain ⟨h3, e3, w3, n3, t3, na3, a3, b3, i3⟩ := wR_200 (f := 8) (v := 261) n2 t2 na2
  obtain ⟨h4, e4, w4, n4, t4, na4, a4, b4, i4⟩ := wR_200 (f := 9) (v := 265) n3 t3 na3
  have ne : ∀ {s f : Nat}, s < 6 → 6 ≤ f → s ≠ f := fun q1 q2 => by omega
  refine ⟨h4, ?_, ((w1.trans w2 fun _ _ y => y).trans w3 fun _ _ y => y).trans w4 fun _ _ y => y, t4, na4, fun s hs => (b4 s (ne hs (by decide))).trans ((b3 s (ne hs (by decide))).trans ((b2 s (ne hs (by decide))).trans (b1 s (ne hs (by decide))))), ⟨?_, ?_, ?_, a4⟩, i4.trans (i3.trans (i2.trans i1))⟩
  · have f8 : hR h 253 0 = 254 := na.1.2.1
    have f9 : hR h1 254 0 = 255 := na1.2.1.2.1
    have f10 : hR h2 254 1 = 261 := na2.2.1.2.2.1
    have f11 : hR h3 253 2 = 265 := na3.1.2.2.2.1
    have g10 : hR h2 200 6 = 254 := (b2 6 (by decide)).trans a1
    have g11 : hR h3 200 5 = 253 := (b3 5 (by decide)).trans ((b2 5 (by decide)).trans ((b1 5 (by decide)).trans r5))
    unfold qbRest
    rw [gd_P t, r5, gd_P na.1.1, f8, lq_E, ← e1, gd_P t1, a1, gd_P na1.2.1.1, f9, lq_E, ← e2, gd_P t2, g10, gd_P na2.2.1.1, f10, lq_E, ← e3, gd_P t3, g11, gd_P na3.1.1, f11, lq_E, ← e4]
  · exact (b4 6 (by decide)).trans ((b3 6 (by decide)).trans ((b2 6 (by decide)).trans a1))
  · exact (b4 7 (by decide)).trans ((b3 7 (by decide)).trans a2)
  · exact (b4 8 (by decide)).trans a3
theorem SkO.of {h : AH} (k : OrA 202 h) : SkO h := ⟨k.1, k.2.1.1, k.2.1.2.1, k.2.1.2.2, k.2.2.1.1, k.2.2.1.2, k.2.2.2.1.1, k.2.2.2.1.2, k.2.2.2.2.1, k.2.2.2.2.2⟩
theorem SkZ.of {h : AH} (t : hT h 200 = 1) (r0 : hR h 200 0 = 201) (r3 : hR h 200 3 = 202) (r4 : hR h 200 4 = 206) (r5 : hR h 200 5 = 253) (q : hR h 200 6 = 254 ∧ hR h 200 7 = 255 ∧ hR h 200 8 = 261 ∧ hR h 200 9 = 265) (a : hT h 201 = 102 ∧ hL h 201 = 2000) (o : OrA 202 h) (S : SkR h 206) (na : NaA 253 h) : SkZ h ∧ SkT h := by
  obtain ⟨q6, q7, q8, q9⟩ := q
  obtain ⟨⟨m0, m1, m2, m3, m4, m5, m6, m7⟩, mg, mt, ms, mr0, mr1, mr2, mr3⟩ := na
  refine ⟨⟨⟨t, r0, r3, r4, q9, a.1, a.2⟩, ⟨r5, q6, q7, q8⟩, mg, SkO.of o, S, m0, m1, m2, m3, fun k hk => ?_, fun k hk => ?_, ms⟩, mt⟩
  · rcases (show k = 0 ∨ k = 1 ∨ k = 2 ∨ k = 3 by omega) with rfl | rfl | rfl | rfl
    · exact m4
    · exact m5
    · exact m6
    · exact m7
  · rcases (show k = 0 ∨ k = 1 ∨ k = 2 ∨ k = 3 by omega) with rfl | rfl | rfl | rfl
    · exact mr0
    · exact mr1
    · exact mr2
    · exact mr3
theorem qbNew {h : AH} (t : hT h 200 = 1) (hn : hN h = 201) (K : K112 h) : ∃ h', f_QuillBoats_init h 200 = some h' ∧ Nw (fun x => x = 200) 119 8407 h h' ∧ SkZ h' ∧ SkT h' ∧ hI h' 200 1 = nI 0 ∧ hI h' 206 11 = nI 0 := by
  have ne : ∀ {b : Nat}, 200 < b → ¬ (fun x => x = 200) b := fun hb y => absurd (show _ = 200 from y) (by omega)
  have nl : ∀ x, x < 200 → ¬ (fun x => x = 200) x := fun x hx y => absurd (show x = 200 from y) (by omega)
  obtain ⟨h1, k1, w1, t1, n1, r1, i1, q1, p1⟩ := qb1 t hn
  have K1 : K112 h1 := K.nw w1 (by omega) nl
  obtain ⟨g2, e2, u2, o2⟩ := orObj n1
  obtain ⟨h2, k2, w2, r2, s2, i2, t2, n2, -, x2⟩ := newS (a := 200) (f := 3) n1 (by omega) t1 e2 u2
  have o2' : OrA 202 h2 := o2.nw x2 (by rw [u2.n, hN_a, n1]; omega) (ne (by omega))
  have K2 : K112 h2 := K1.nw w2 (by omega) nl
  obtain ⟨g3, e3, u3, S3, j3⟩ := riObj2 n2
  obtain ⟨h3, k3, w3, r3, s3, i3, t3, n3, -, x3⟩ := newS (a := 200) (f := 4) n2 (by omega) t2 e3 u3
  have m3 : hN g3 = 253 := by rw [u3.n, hN_a, n2]
  have S3' : SkR h3 206 := S3.nw x3 (by omega) (fun x hx _ => ne (by omega))
  have j3' : hI h3 206 11 = nI 0 := by rw [x3.i (x := 206) (by omega) (ne (by omega))]; exact j3
  have o3 : OrA 202 h3 := o2'.nw w3 (by omega) (ne (by omega))
  have K3 : K112 h3 := K2.nw w3 (by omega) nl
  obtain ⟨g4, e4, u4, na4⟩ := naObj n3 (by omega) K3
  obtain ⟨h4, k4, w4, r4, s4, i4, t4, n4, -, x4⟩ := newS (a := 200) (f := 5) n3 (by omega) t3 e4 u4
  have m4 : hN g4 = 320 := by rw [u4.n, hN_a, n3]
  have na4' : NaA 253 h4 := na4.nw x4 (by omega) (fun x hx => ne (by omega))
  have S4 : SkR h4 206 := S3'.nw w4 (by omega) (fun x hx _ => ne (by omega))
  have o4 : OrA 202 h4 := o3.nw w4 (by omega) (ne (by omega))
  obtain ⟨h5, k5, w5, t5, na5, b5, q5, i5⟩ := qb2 n4 t4 na4' r4
  have S5 : SkR h5 206 := S4.nw w5 (by omega) (fun x hx _ => ne (by omega))
  have o5 : OrA 202 h5 := o4.nw w5 (by omega) (ne (by omega))
  have a0 : hR h5 200 0 = 201 := (b5 0 (by decide)).trans ((s4 0 (by decide)).trans ((s3 0 (by decide)).trans ((s2 0 (by decide)).trans r1)))
  have a3 : hR h5 200 3 = 202 := (b5 3 (by decide)).trans ((s4 3 (by decide)).trans ((s3 3 (by decide)).trans r2))
  have a4 : hR h5 200 4 = 206 := (b5 4 (by decide)).trans ((s4 4 (by decide)).trans r3)
  have a5 : hR h5 200 5 = 253 := (b5 5 (by decide)).trans r4
  have tp' : hT h5 201 = 102 ∧ hL h5 201 = 2000 := by
    rw [w5.t (by omega), w4.t (by omega), w3.t (by omega), w2.t (by omega), w5.l (by omega), w4.l (by omega), w3.l (by omega), w2.l (by omega)]
    exact ⟨q1, p1⟩
  obtain ⟨Z, T⟩ := SkZ.of t5 a0 a3 a4 a5 q5 tp' o5 S5 na5
  refine ⟨h5, ?_, ((((w1.trans w2 fun _ _ y => y).trans w3 fun _ _ y => y).trans w4 fun _ _ y => y).trans w5 fun _ _ y => y).mono (fun _ _ y => y) rfl rfl, Z, T, ?_, ?_⟩
  · unfold f_QuillBoats_init
    rw [gd_P t, k1, k2, k3, k4]
    exact k5
  · rw [i5, i4, i3, i2, i1]
  · rw [i5, w4.i (x := 206) (by omega) (ne (by omega))]
    exact j3'

/-! 98zx L3: making the sim, I: as it is at first -/
def Rg (lo hi : Int) (x : Int32) : Prop := ∃ v : Int, lo ≤ v ∧ v ≤ hi ∧ x = iI v
theorem Rg.n {r lo hi : Nat} (h1 : lo ≤ r) (h2 : r ≤ hi) : Rg lo hi (iI (r : Int)) := ⟨(r : Int), by omega, by omega, rfl⟩
-- what the making doesn't touch again, and what it may
def S0 (h : AH) : Prop := hT h 320 = 13 ∧ (hR h 320 7 = 321 ∧ hR h 320 8 = 322 ∧ hR h 320 9 = 323 ∧ hR h 320 10 = 324 ∧ hR h 320 11 = 325) ∧ (hT h 321 = 101 ∧ hL h 321 = 12 ∧ hT h 322 = 101 ∧ hL h 322 = 4 ∧ hT h 323 = 101 ∧ hL h 323 = 4 ∧ hT h 324 = 101 ∧ hL h 324 = 4 ∧ hT h 325 = 101 ∧ hL h 325 = 4) ∧ (hI h 320 0 = iI 0 ∧ hI h 320 1 = iI 50 ∧ hI h 320 2 = iI 0 ∧ hI h 320 3 = iI 0 ∧ hI h 320 4 = iI 0) ∧ (∀ k, k < 4 → hI h 323 k = iI 0 ∧ hI h 324 k = iI 0 ∧ hI h 325 k = iI 0) ∧ (Rg 1 60 (hI h 320 5) ∧ Rg 0 5 (hI h 320 6)) ∧ (∀ k, k < 12 → Rg 0 3 (hI h 321 k)) ∧ ∀ k, k < 4 → Rg 0 50 (hI h 322 k)
theorem S0.nw {P : Nat → Prop} {c d : Nat} {h h' : AH} (k : S0 h) (w : Nw P c d h h') (hn : 326 ≤ hN h) (e : ∀ x, 321 ≤ x → x < 326 → ¬ P x) (eI : hI h' 320 = hI h 320) (eR : ∀ s, s < 12 → hR h' 320 s = hR h 320 s) : S0 h' := by
  unfold S0
  rw [w.t (x := 320) (by omega), eR 7 (by decide), eR 8 (by decide), eR 9 (by decide), eR 10 (by decide), eR 11 (by decide), eI, w.t (x := 321) (by omega), w.t (x := 322) (by omega), w.t (x := 323) (by omega), w.t (x := 324) (by omega), w.t (x := 325) (by omega), w.l (x := 321) (by omega), w.l (x := 322) (by omega), w.l (x := 323) (by omega), w.l (x := 324) (by omega), w.l (x := 325) (by omega), w.i (x := 321) (by omega) (e 321 (by omega) (by omega)), w.i (x := 322) (by omega) (e 322 (by omega) (by omega)), w.i (x := 323) (by omega) (e 323 (by omega) (by omega)), w.i (x := 324) (by omega) (e 324 (by omega) (by omega)), w.i (x := 325) (by omega) (e 325 (by omega) (by omega))]
  exact k
-- a row of numbers, in a field
theorem rf_w {h : AH} {a f t k : Nat} {F : Nat → Nat → Int32} (ha : a < hN h) (e : ∀ x, x < hN h → F x = hI h x) :
    Nw (fun x => x = a) 1 k h (wR (sI (hA h t k) F) a f (hN h)) ∧ hR (wR (sI (hA h t k) F) a f (hN h)) a f = hN h ∧ (∀ s, s ≠ f → hR (wR (sI (hA h t k) F) a f (hN h)) a s = hR h a s) ∧ hI (wR (sI (hA h t k) F) a f (hN h)) = F ∧ hT (wR (sI (hA h t k) F) a f (hN h)) (hN h) = t ∧ hL (wR (sI (hA h t k) F) a f (hN h)) (hN h) = k := by
  refine ⟨⟨rfl, rfl, fun x hx => ⟨⟨up1_n _ _ _ _ (by omega), up1_n _ _ _ _ (by omega)⟩, fun n => ⟨e x hx, ?_, up1_n _ _ _ _ (by omega)⟩⟩⟩, up2_e _ _ _ _, fun s hs => ?_, rfl, up1_e _ _ _, up1_e _ _ _⟩
  · show up2 (up1 (hR h) (hN h) (fun _ => 0)) a f (hN h) x = _
    rw [up2_f n, up1_n _ _ _ _ (by omega)]
  · show up2 (up1 (hR h) (hN h) (fun _ => 0)) a f (hN h) a s = _
    rw [up2_n _ _ _ _ _ _ (fun y => hs y.2), up1_n _ _ _ _ (by omega)]
theorem hL_wi (h : AH) (a k : Nat) (v : Int32) : hL (wI h a k v) = hL h := rfl
theorem fill12 {α : Type} {h : AH} {N : Nat} {K : AH → Option α} (t : hT h N = 101) (l : hL h N = 12) : gd (hT h N = 101 ∧ inb (nI 0) (hL h N)) (lq (wI h N (ix (nI 0)) (nI 1)) fun u0 => gd (hT u0 N = 101 ∧ inb (nI 1) (hL u0 N)) (lq (wI u0 N (ix (nI 1)) (nI 1)) fun u1 => gd (hT u1 N = 101 ∧ inb (nI 2) (hL u1 N)) (lq (wI u1 N (ix (nI 2)) (nI 1)) fun u2 => gd (hT u2 N = 101 ∧ inb (nI 3) (hL u2 N)) (lq (wI u2 N (ix (nI 3)) (nI 1)) fun u3 => gd (hT u3 N = 101 ∧ inb (nI 4) (hL u3 N)) (lq (wI u3 N (ix (nI 4)) (nI 1)) fun u4 => gd (hT u4 N = 101 ∧ inb (nI 5) (hL u4 N)) (lq (wI u4 N (ix (nI 5)) (nI 1)) fun u5 => gd (hT u5 N = 101 ∧ inb (nI 6) (hL u5 N)) (lq (wI u5 N (ix (nI 6)) (nI 1)) fun u6 => gd (hT u6 N = 101 ∧ inb (nI 7) (hL u6 N)) (lq (wI u6 N (ix (nI 7)) (nI 1)) fun u7 => gd (hT u7 N = 101 ∧ inb (nI 8) (hL u7 N)) (lq (wI u7 N (ix (nI 8)) (nI 1)) fun u8 => gd (hT u8 N = 101 ∧ inb (nI 9) (hL u8 N)) (lq (wI u8 N (ix (nI 9)) (nI 1)) fun u9 => gd (hT u9 N = 101 ∧ inb (nI 10) (hL u9 N)) (lq (wI u9 N (ix (nI 10)) (nI 1)) fun u10 => gd (hT u10 N = 101 ∧ inb (nI 11) (hL u10 N)) (lq (wI u10 N (ix (nI 11)) (nI 1)) fun u11 => K u11)))))))))))) = K (sI h (up2 (up2 (up2 (up2 (up2 (up2 (up2 (up2 (up2 (up2 (up2 (up2 (hI h) N 0 (nI 1)) N 1 (nI 1)) N 2 (nI 1)) N 3 (nI 1)) N 4 (nI 1)) N 5 (nI 1)) N 6 (nI 1)) N 7 (nI 1)) N 8 (nI 1)) N 9 (nI 1)) N 10 (nI 1)) N 11 (nI 1))) := by
  have ib : ∀ (k : Nat), k < 12 → inb (nI k) 12 := fun k hk => by rw [nI_i]; exact inb_i hk (by omega)
  have x0 : ix (nI 0) = 0 := by decide
  have x1 : ix (nI 1) = 1 := by decide
  have x2 : ix (nI 2) = 2 := by decide
  have x3 : ix (nI 3) = 3 := by decide
  have x4 : ix (nI 4) = 4 := by decide
  have x5 : ix (nI 5) = 5 := by decide
  have x6 : ix (nI 6) = 6 := by decide
  have x7 : ix (nI 7) = 7 := by decide
  have x8 : ix (nI 8) = 8 := by decide
  have x9 : ix (nI 9) = 9 := by decide
  have x10 : ix (nI 10) = 10 := by decide
  have x11 : ix (nI 11) = 11 := by decide
  rw [gd_P (by exact ⟨t, by rw [l]; exact ib 0 (by decide)⟩), lq_E, x0, gd_P (by rw [hT_wi, hL_wi]; exact ⟨t, by rw [l]; exact ib 1 (by decide)⟩), lq_E, x1, gd_P (by rw [hT_wi, hL_wi, hT_wi, hL_wi]; exact ⟨t, by rw [l]; exact ib 2 (by decide)⟩), lq_E, x2, gd_P (by rw [hT_wi, hL_wi, hT_wi, hL_wi, hT_wi, hL_wi]; exact ⟨t, by rw [l]; exact ib 3 (by decide)⟩), lq_E, x3, gd_P (by rw [hT_wi, hL_wi, hT_wi, hL_wi, hT_wi, hL_wi, hT_wi, hL_wi]; exact ⟨t, by rw [l]; exact ib 4 (by decide)⟩), lq_E, x4, gd_P (by rw [hT_wi, hL_wi, hT_wi, hL_wi, hT_wi, hL_wi, hT_wi, hL_wi, hT_wi, hL_wi]; exact ⟨t, by rw [l]; exact ib 5 (by decide)⟩), lq_E, x5, gd_P (by rw [hT_wi, hL_wi, hT_wi, hL_wi, hT_wi, hL_wi, hT_wi, hL_wi, hT_wi, hL_wi, hT_wi, hL_wi]; exact ⟨t, by rw [l]; exact ib 6 (by decide)⟩), lq_E, x6, gd_P (by rw [hT_wi, hL_wi, hT_wi, hL_wi, hT_wi, hL_wi, hT_wi, hL_wi, hT_wi, hL_wi, hT_wi, hL_wi, hT_wi, hL_wi]; exact ⟨t, by rw [l]; exact ib 7 (by decide)⟩), lq_E, x7, gd_P (by rw [hT_wi, hL_wi, hT_wi, hL_wi, hT_wi, hL_wi, hT_wi, hL_wi, hT_wi, hL_wi, hT_wi, hL_wi, hT_wi, hL_wi, hT_wi, hL_wi]; exact ⟨t, by rw [l]; exact ib 8 (by decide)⟩), lq_E, x8, gd_P (by rw [hT_wi, hL_wi, hT_wi, hL_wi, hT_wi, hL_wi, hT_wi, hL_wi, hT_wi, hL_wi, hT_wi, hL_wi, hT_wi, hL_wi, hT_wi, hL_wi, hT_wi, hL_wi]; exact ⟨t, by rw [l]; exact ib 9 (by decide)⟩), lq_E, x9, gd_P (by rw [hT_wi, hL_wi, hT_wi, hL_wi, hT_wi, hL_wi, hT_wi, hL_wi, hT_wi, hL_wi, hT_wi, hL_wi, hT_wi, hL_wi, hT_wi, hL_wi, hT_wi, hL_wi, hT_wi, hL_wi]; exact ⟨t, by rw [l]; exact ib 10 (by decide)⟩), lq_E, x10, gd_P (by rw [hT_wi, hL_wi, hT_wi, hL_wi, hT_wi, hL_wi, hT_wi, hL_wi, hT_wi, hL_wi, hT_wi, hL_wi, hT_wi, hL_wi, hT_wi, hL_wi, hT_wi, hL_wi, hT_wi, hL_wi, hT_wi, hL_wi]; exact ⟨t, by rw [l]; exact ib 11 (by decide)⟩), lq_E, x11]
  simp only [wI_s, sI_s, hI_s]
theorem fill4 {α : Type} {h : AH} {N : Nat} {K : AH → Option α} (t : hT h N = 101) (l : hL h N = 4) : gd (hT h N = 101 ∧ inb (nI 0) (hL h N)) (lq (wI h N (ix (nI 0)) (nI 8)) fun u0 => gd (hT u0 N = 101 ∧ inb (nI 1) (hL u0 N)) (lq (wI u0 N (ix (nI 1)) (nI 5)) fun u1 => gd (hT u1 N = 101 ∧ inb (nI 2) (hL u1 N)) (lq (wI u1 N (ix (nI 2)) (nI 3)) fun u2 => gd (hT u2 N = 101 ∧ inb (nI 3) (hL u2 N)) (lq (wI u2 N (ix (nI 3)) (nI 1)) fun u3 => K u3)))) = K (sI h (up2 (up2 (up2 (up2 (hI h) N 0 (nI 8)) N 1 (nI 5)) N 2 (nI 3)) N 3 (nI 1))) := by
  have ib : ∀ (k : Nat), k < 4 → inb (nI k) 4 := fun k hk => by rw [nI_i]; exact inb_i hk (by omega)
  have x0 : ix (nI 0) = 0 := by decide
  have x1 : ix (nI 1) = 1 := by decide
  have x2 : ix (nI 2) = 2 := by decide
  have x3 : ix (nI 3) = 3 := by decide
  rw [gd_P (by exact ⟨t, by rw [l]; exact ib 0 (by decide)⟩), lq_E, x0, gd_P (by rw [hT_wi, hL_wi]; exact ⟨t, by rw [l]; exact ib 1 (by decide)⟩), lq_E, x1, gd_P (by rw [hT_wi, hL_wi, hT_wi, hL_wi]; exact ⟨t, by rw [l]; exact ib 2 (by decide)⟩), lq_E, x2, gd_P (by rw [hT_wi, hL_wi, hT_wi, hL_wi, hT_wi, hL_wi]; exact ⟨t, by rw [l]; exact ib 3 (by decide)⟩), lq_E, x3]
  simp only [wI_s, sI_s, hI_s]
theorem siNew {h : AH} (t : hT h 320 = 13) (hn : hN h = 321) (z : ∀ s, hI h 320 s = 0) : ∃ h', f_Sim_init h 320 = some h' ∧ Nw (fun x => x = 320) 11 28 h h' ∧ S0 h' := by
  have i12 : ix (nI 12) = 12 := by decide
  have i4 : ix (nI 4) = 4 := by decide
  have i0 : ix (nI 0) = 0 := by decide
  obtain ⟨h1, e1⟩ : ∃ y, y = wI (wI (wI h 320 1 (nI 50)) 320 5 (nI 20)) 320 6 (nI 1) := ⟨_, rfl⟩
  have w1 : Nw (fun x => x = 320) 0 0 h h1 := by
    rw [e1]
    exact ((Nw.wi (P := fun x => x = 320) rfl).trans (Nw.wi (P := fun x => x = 320) rfl) fun _ _ y => y).trans (Nw.wi (P := fun x => x = 320) rfl) fun _ _ y => y
  have I1 : hI h1 320 0 = iI 0 ∧ hI h1 320 1 = iI 50 ∧ hI h1 320 2 = iI 0 ∧ hI h1 320 3 = iI 0 ∧ hI h1 320 4 = iI 0 ∧ hI h1 320 5 = iI 20 ∧ hI h1 320 6 = iI 1 := by
    have q : hI h1 = up2 (up2 (up2 (hI h) 320 1 (nI 50)) 320 5 (nI 20)) 320 6 (nI 1) := by rw [e1]; rfl
    rw [q]
    refine ⟨?_, ?_, ?_, ?_, ?_, ?_, ?_⟩
    · rw [up2_n _ _ _ _ _ _ (by omega), up2_n _ _ _ _ _ _ (by omega), up2_n _ _ _ _ _ _ (by omega), z]; rfl
    · rw [up2_n _ _ _ _ _ _ (by omega), up2_n _ _ _ _ _ _ (by omega), up2_e, nI_L]
    · rw [up2_n _ _ _ _ _ _ (by omega), up2_n _ _ _ _ _ _ (by omega), up2_n _ _ _ _ _ _ (by omega), z]; rfl
    · rw [up2_n _ _ _ _ _ _ (by omega), up2_n _ _ _ _ _ _ (by omega), up2_n _ _ _ _ _ _ (by omega), z]; rfl
    · rw [up2_n _ _ _ _ _ _ (by omega), up2_n _ _ _ _ _ _ (by omega), up2_n _ _ _ _ _ _ (by omega), z]; rfl
    · rw [up2_n _ _ _ _ _ _ (by omega), up2_e, nI_L]
    · rw [up2_e, nI_L]
  have n1 : hN h1 = 321 := w1.n.trans hn
  have t1 : hT h1 320 = 13 := (w1.t (by omega)).trans t
  -- the shades
  obtain ⟨F, eF⟩ : ∃ F, F = up2 (up2 (up2 (up2 (up2 (up2 (up2 (up2 (up2 (up2 (up2 (up2 (hI (hA h1 101 12)) 321 0 (nI 1)) 321 1 (nI 1)) 321 2 (nI 1)) 321 3 (nI 1)) 321 4 (nI 1)) 321 5 (nI 1)) 321 6 (nI 1)) 321 7 (nI 1)) 321 8 (nI 1)) 321 9 (nI 1)) 321 10 (nI 1)) 321 11 (nI 1) := ⟨_, rfl⟩
  have F0 : ∀ x, x < hN h1 → F x = hI h1 x := fun x hx => by
    have nx : ¬ x = 321 := by omega
    rw [eF, up2_f nx, up2_f nx, up2_f nx, up2_f nx, up2_f nx, up2_f nx, up2_f nx, up2_f nx, up2_f nx, up2_f nx, up2_f nx, up2_f nx, hI_a, up1_n _ _ _ _ (by omega)]
  have F1 : ∀ k, k < 12 → F 321 k = iI 1 := fun k hk => by
    rw [eF, ← nI_L]
    unfold up2
    rcases (show k = 0 ∨ k = 1 ∨ k = 2 ∨ k = 3 ∨ k = 4 ∨ k = 5 ∨ k = 6 ∨ k = 7 ∨ k = 8 ∨ k = 9 ∨ k = 10 ∨ k = 11 by omega) with rfl | rfl | rfl | rfl | rfl | rfl | rfl | rfl | rfl | rfl | rfl | rfl <;> rfl
  obtain ⟨w2, y2, z2, J2, T2, L2⟩ := rf_w (a := 320) (f := 7) (t := 101) (k := 12) (by omega) F0
  obtain ⟨h2, e2⟩ : ∃ y, y = wR (sI (hA h1 101 12) F) 320 7 (hN h1) := ⟨_, rfl⟩
  rw [← e2] at w2 y2 z2 J2 T2 L2
  rw [n1] at y2 T2 L2 e2
  have n2 : hN h2 = 322 := by rw [w2.n, n1]
  have t2 : hT h2 320 = 13 := (w2.t (by omega)).trans t1
  -- the prices
  obtain ⟨G, eG⟩ : ∃ G, G = up2 (up2 (up2 (up2 (hI (hA h2 101 4)) 322 0 (nI 8)) 322 1 (nI 5)) 322 2 (nI 3)) 322 3 (nI 1) := ⟨_, rfl⟩
  have G0 : ∀ x, x < hN h2 → G x = hI h2 x := fun x hx => by
    have nx : ¬ x = 322 := by omega
    rw [eG, up2_f nx, up2_f nx, up2_f nx, up2_f nx, hI_a, up1_n _ _ _ _ (by omega)]
  have G1 : ∀ k, k < 4 → Rg 0 50 (G 322 k) := fun k hk => by
    rw [eG]
    unfold up2
    rcases (show k = 0 ∨ k = 1 ∨ k = 2 ∨ k = 3 by omega) with rfl | rfl | rfl | rfl
    · exact ⟨8, by omega, by omega, rfl⟩
    · exact ⟨5, by omega, by omega, rfl⟩
    · exact ⟨3, by omega, by omega, rfl⟩
    · exact ⟨1, by omega, by omega, rfl⟩
  obtain ⟨w3, y3, z3, J3, T3, L3⟩ := rf_w (a := 320) (f := 8) (t := 101) (k := 4) (by omega) G0
  obtain ⟨h3, e3⟩ : ∃ y, y = wR (sI (hA h2 101 4) G) 320 8 (hN h2) := ⟨_, rfl⟩
  rw [← e3] at w3 y3 z3 J3 T3 L3
  rw [n2] at y3 T3 L3 e3
  have n3 : hN h3 = 323 := by rw [w3.n, n2]
  have t3 : hT h3 320 = 13 := (w3.t (by omega)).trans t2
  have w4 : Nw (fun x => x = 320) 1 4 h3 (fa h3 101 4 320 9) := fa_w (by omega)
  obtain ⟨h4, e4⟩ : ∃ y, y = fa h3 101 4 320 9 := ⟨_, rfl⟩
  have I4 : ∀ x, x < 323 → hI h4 x = hI h3 x := fun x hx => by rw [e4]; exact fa_I (by omega) (by omega)
  have z4 : ∀ s, s ≠ 9 → hR h4 320 s = hR h3 320 s := fun s hs => by rw [e4]; exact fa_R2 (by omega) hs
  have q4 : hT h4 323 = 101 ∧ hL h4 323 = 4 ∧ (∀ k, hI h4 323 k = iI 0) ∧ hR h4 320 9 = 323 := by
    rw [e4, ← n3]
    refine ⟨fa_T, fa_L, fun k => ?_, fa_R⟩
    show up1 (hI h3) (hN h3) (fun _ => 0) (hN h3) k = _
    rw [up1_e]
    rfl
  rw [← e4] at w4
  have n4 : hN h4 = 324 := by rw [w4.n, n3]
  have t4 : hT h4 320 = 13 := (w4.t (by omega)).trans t3
  have w5 : Nw (fun x => x = 320) 1 4 h4 (fa h4 101 4 320 10) := fa_w (by omega)
  obtain ⟨h5, e5⟩ : ∃ y, y = fa h4 101 4 320 10 := ⟨_, rfl⟩
  have I5 : ∀ x, x < 324 → hI h5 x = hI h4 x := fun x hx => by rw [e5]; exact fa_I (by omega) (by omega)
  have z5 : ∀ s, s ≠ 10 → hR h5 320 s = hR h4 320 s := fun s hs => by rw [e5]; exact fa_R2 (by omega) hs
  have q5 : hT h5 324 = 101 ∧ hL h5 324 = 4 ∧ (∀ k, hI h5 324 k = iI 0) ∧ hR h5 320 10 = 324 := by
    rw [e5, ← n4]
    refine ⟨fa_T, fa_L, fun k => ?_, fa_R⟩
    show up1 (hI h4) (hN h4) (fun _ => 0) (hN h4) k = _
    rw [up1_e]
    rfl
  rw [← e5] at w5
  have n5 : hN h5 = 325 := by rw [w5.n, n4]
  have t5 : hT h5 320 = 13 := (w5.t (by omega)).trans t4
  have w6 : Nw (fun x => x = 320) 1 4 h5 (fa h5 101 4 320 11) := fa_w (by omega)
  obtain ⟨h6, e6⟩ : ∃ y, y = fa h5 101 4 320 11 := ⟨_, rfl⟩
  have I6 : ∀ x, x < 325 → hI h6 x = hI h5 x := fun x hx => by rw [e6]; exact fa_I (by omega) (by omega)
  have z6 : ∀ s, s ≠ 11 → hR h6 320 s = hR h5 320 s := fun s hs => by rw [e6]; exact fa_R2 (by omega) hs
  have q6 : hT h6 325 = 101 ∧ hL h6 325 = 4 ∧ (∀ k, hI h6 325 k = iI 0) ∧ hR h6 320 11 = 325 := by
    rw [e6, ← n5]
    refine ⟨fa_T, fa_L, fun k => ?_, fa_R⟩
    show up1 (hI h5) (hN h5) (fun _ => 0) (hN h5) k = _
    rw [up1_e]
    rfl
  rw [← e6] at w6
  have n6 : hN h6 = 326 := by rw [w6.n, n5]
  have t6 : hT h6 320 = 13 := (w6.t (by omega)).trans t5
  have w7 : Nw (fun x => x = 320) 1 0 h6 (fa h6 109 0 320 12) := fa_w (by omega)
  obtain ⟨h7, e7⟩ : ∃ y, y = fa h6 109 0 320 12 := ⟨_, rfl⟩
  have I7 : ∀ x, x < 326 → hI h7 x = hI h6 x := fun x hx => by rw [e7]; exact fa_I (by omega) (by omega)
  have z7 : ∀ s, s ≠ 12 → hR h7 320 s = hR h6 320 s := fun s hs => by rw [e7]; exact fa_R2 (by omega) hs
  rw [← e7] at w7
  have n7 : hN h7 = 327 := by rw [w7.n, n6]
  have t7 : hT h7 320 = 13 := (w7.t (by omega)).trans t6
  have w8 : Nw (fun x => x = 320) 1 0 h7 (fa h7 101 0 320 13) := fa_w (by omega)
  obtain ⟨h8, e8⟩ : ∃ y, y = fa h7 101 0 320 13 := ⟨_, rfl⟩
  have I8 : ∀ x, x < 327 → hI h8 x = hI h7 x := fun x hx => by rw [e8]; exact fa_I (by omega) (by omega)
  have z8 : ∀ s, s ≠ 13 → hR h8 320 s = hR h7 320 s := fun s hs => by rw [e8]; exact fa_R2 (by omega) hs
  rw [← e8] at w8
  have n8 : hN h8 = 328 := by rw [w8.n, n7]
  have t8 : hT h8 320 = 13 := (w8.t (by omega)).trans t7
  have w9 : Nw (fun x => x = 320) 1 0 h8 (fa h8 110 0 320 14) := fa_w (by omega)
  obtain ⟨h9, e9⟩ : ∃ y, y = fa h8 110 0 320 14 := ⟨_, rfl⟩
  have I9 : ∀ x, x < 328 → hI h9 x = hI h8 x := fun x hx => by rw [e9]; exact fa_I (by omega) (by omega)
  have z9 : ∀ s, s ≠ 14 → hR h9 320 s = hR h8 320 s := fun s hs => by rw [e9]; exact fa_R2 (by omega) hs
  rw [← e9] at w9
  have n9 : hN h9 = 329 := by rw [w9.n, n8]
  have t9 : hT h9 320 = 13 := (w9.t (by omega)).trans t8
  have w10 : Nw (fun x => x = 320) 1 0 h9 (fa h9 109 0 320 15) := fa_w (by omega)
  obtain ⟨h10, e10⟩ : ∃ y, y = fa h9 109 0 320 15 := ⟨_, rfl⟩
  have I10 : ∀ x, x < 329 → hI h10 x = hI h9 x := fun x hx => by rw [e10]; exact fa_I (by omega) (by omega)
  have z10 : ∀ s, s ≠ 15 → hR h10 320 s = hR h9 320 s := fun s hs => by rw [e10]; exact fa_R2 (by omega) hs
  rw [← e10] at w10
  have n10 : hN h10 = 330 := by rw [w10.n, n9]
  have t10 : hT h10 320 = 13 := (w10.t (by omega)).trans t9
  have w11 : Nw (fun x => x = 320) 1 0 h10 (fa h10 109 0 320 16) := fa_w (by omega)
  obtain ⟨h11, e11⟩ : ∃ y, y = fa h10 109 0 320 16 := ⟨_, rfl⟩
  have I11 : ∀ x, x < 330 → hI h11 x = hI h10 x := fun x hx => by rw [e11]; exact fa_I (by omega) (by omega)
  have z11 : ∀ s, s ≠ 16 → hR h11 320 s = hR h10 320 s := fun s hs => by rw [e11]; exact fa_R2 (by omega) hs
  rw [← e11] at w11
  have n11 : hN h11 = 331 := by rw [w11.n, n10]
  have t11 : hT h11 320 = 13 := (w11.t (by omega)).trans t10
  have w12 : Nw (fun x => x = 320) 1 0 h11 (fa h11 109 0 320 17) := fa_w (by omega)
  obtain ⟨h12, e12⟩ : ∃ y, y = fa h11 109 0 320 17 := ⟨_, rfl⟩
  have I12 : ∀ x, x < 331 → hI h12 x = hI h11 x := fun x hx => by rw [e12]; exact fa_I (by omega) (by omega)
  have z12 : ∀ s, s ≠ 17 → hR h12 320 s = hR h11 320 s := fun s hs => by rw [e12]; exact fa_R2 (by omega) hs
  rw [← e12] at w12
  have n12 : hN h12 = 332 := by rw [w12.n, n11]
  have t12 : hT h12 320 = 13 := (w12.t (by omega)).trans t11
  refine ⟨h12, ?_, (((((((((((w1.trans w2 fun _ _ y => y).trans w3 fun _ _ y => y).trans w4 fun _ _ y => y).trans w5 fun _ _ y => y).trans w6 fun _ _ y => y).trans w7 fun _ _ y => y).trans w8 fun _ _ y => y).trans w9 fun _ _ y => y).trans w10 fun _ _ y => y).trans w11 fun _ _ y => y).trans w12 fun _ _ y => y).mono (fun _ _ y => y) rfl rfl, t12, ⟨?_, ?_, ?_, ?_, ?_⟩, ⟨?_, ?_, ?_, ?_, ?_, ?_, ?_, ?_, ?_, ?_⟩, ?_, fun k hk => ?_, ?_, fun k hk => ?_, fun k hk => ?_⟩
  · have tA : hT (hA h1 101 12) 321 = 101 := by rw [hT_a, n1]; exact up1_e _ _ _
    have lA : hL (hA h1 101 12) 321 = 12 := by rw [hL_a, n1]; exact up1_e _ _ _
    have tB : hT (hA h2 101 4) 322 = 101 := by rw [hT_a, n2]; exact up1_e _ _ _
    have lB : hL (hA h2 101 4) 322 = 4 := by rw [hL_a, n2]; exact up1_e _ _ _
    have tA3 : hT (hA h1 101 12) 320 = 13 := by rw [hT_a, up1_n _ _ _ _ (by omega)]; exact t1
    have tB3 : hT (hA h2 101 4) 320 = 13 := by rw [hT_a, up1_n _ _ _ _ (by omega)]; exact t2
    unfold f_Sim_init
    rw [gd_P t, lq_E, gd_P (by rw [hT_wi]; exact t), lq_E, gd_P (by rw [hT_wi, hT_wi]; exact t), lq_E, ← e1, i12, n1, lq_E, fill12 tA lA, ← eF, gd_P (by rw [hT_s]; exact tA3), lq_E, ← e2, i4, n2, lq_E, fill4 tB lB, ← eG, gd_P (by rw [hT_s]; exact tB3), lq_E, ← e3, i0, fa_E t3 (by omega), ← e4, fa_E t4 (by omega), ← e5, fa_E t5 (by omega), ← e6, fa_E t6 (by omega), ← e7, fa_E t7 (by omega), ← e8, fa_E t8 (by omega), ← e9, fa_E t9 (by omega), ← e10, fa_E t10 (by omega), ← e11, fa_E t11 (by omega), ← e12]
  · rw [z12 7 (by decide), z11 7 (by decide), z10 7 (by decide), z9 7 (by decide), z8 7 (by decide), z7 7 (by decide), z6 7 (by decide), z5 7 (by decide), z4 7 (by decide), z3 7 (by decide), y2]
  · rw [z12 8 (by decide), z11 8 (by decide), z10 8 (by decide), z9 8 (by decide), z8 8 (by decide), z7 8 (by decide), z6 8 (by decide), z5 8 (by decide), z4 8 (by decide), y3]
  · rw [z12 9 (by decide), z11 9 (by decide), z10 9 (by decide), z9 9 (by decide), z8 9 (by decide), z7 9 (by decide), z6 9 (by decide), z5 9 (by decide), q4.2.2.2]
  · rw [z12 10 (by decide), z11 10 (by decide), z10 10 (by decide), z9 10 (by decide), z8 10 (by decide), z7 10 (by decide), z6 10 (by decide), q5.2.2.2]
  · rw [z12 11 (by decide), z11 11 (by decide), z10 11 (by decide), z9 11 (by decide), z8 11 (by decide), z7 11 (by decide), q6.2.2.2]
  · rw [w12.t (x := 321) (by omega), w11.t (x := 321) (by omega), w10.t (x := 321) (by omega), w9.t (x := 321) (by omega), w8.t (x := 321) (by omega), w7.t (x := 321) (by omega), w6.t (x := 321) (by omega), w5.t (x := 321) (by omega), w4.t (x := 321) (by omega), w3.t (x := 321) (by omega), T2]
  · rw [w12.l (x := 321) (by omega), w11.l (x := 321) (by omega), w10.l (x := 321) (by omega), w9.l (x := 321) (by omega), w8.l (x := 321) (by omega), w7.l (x := 321) (by omega), w6.l (x := 321) (by omega), w5.l (x := 321) (by omega), w4.l (x := 321) (by omega), w3.l (x := 321) (by omega), L2]
  · rw [w12.t (x := 322) (by omega), w11.t (x := 322) (by omega), w10.t (x := 322) (by omega), w9.t (x := 322) (by omega), w8.t (x := 322) (by omega), w7.t (x := 322) (by omega), w6.t (x := 322) (by omega), w5.t (x := 322) (by omega), w4.t (x := 322) (by omega), T3]
  · rw [w12.l (x := 322) (by omega), w11.l (x := 322) (by omega), w10.l (x := 322) (by omega), w9.l (x := 322) (by omega), w8.l (x := 322) (by omega), w7.l (x := 322) (by omega), w6.l (x := 322) (by omega), w5.l (x := 322) (by omega), w4.l (x := 322) (by omega), L3]
  · rw [w12.t (x := 323) (by omega), w11.t (x := 323) (by omega), w10.t (x := 323) (by omega), w9.t (x := 323) (by omega), w8.t (x := 323) (by omega), w7.t (x := 323) (by omega), w6.t (x := 323) (by omega), w5.t (x := 323) (by omega), q4.1]
  · rw [w12.l (x := 323) (by omega), w11.l (x := 323) (by omega), w10.l (x := 323) (by omega), w9.l (x := 323) (by omega), w8.l (x := 323) (by omega), w7.l (x := 323) (by omega), w6.l (x := 323) (by omega), w5.l (x := 323) (by omega), q4.2.1]
  · rw [w12.t (x := 324) (by omega), w11.t (x := 324) (by omega), w10.t (x := 324) (by omega), w9.t (x := 324) (by omega), w8.t (x := 324) (by omega), w7.t (x := 324) (by omega), w6.t (x := 324) (by omega), q5.1]
  · rw [w12.l (x := 324) (by omega), w11.l (x := 324) (by omega), w10.l (x := 324) (by omega), w9.l (x := 324) (by omega), w8.l (x := 324) (by omega), w7.l (x := 324) (by omega), w6.l (x := 324) (by omega), q5.2.1]
  · rw [w12.t (x := 325) (by omega), w11.t (x := 325) (by omega), w10.t (x := 325) (by omega), w9.t (x := 325) (by omega), w8.t (x := 325) (by omega), w7.t (x := 325) (by omega), q6.1]
  · rw [w12.l (x := 325) (by omega), w11.l (x := 325) (by omega), w10.l (x := 325) (by omega), w9.l (x := 325) (by omega), w8.l (x := 325) (by omega), w7.l (x := 325) (by omega), q6.2.1]
  · rw [I12 320 (by omega), I11 320 (by omega), I10 320 (by omega), I9 320 (by omega), I8 320 (by omega), I7 320 (by omega), I6 320 (by omega), I5 320 (by omega), I4 320 (by omega), J3, G0 320 (by omega), J2, F0 320 (by omega)]
    exact ⟨I1.1, I1.2.1, I1.2.2.1, I1.2.2.2.1, I1.2.2.2.2.1⟩
  · rw [I12 323 (by omega), I11 323 (by omega), I10 323 (by omega), I9 323 (by omega), I8 323 (by omega), I7 323 (by omega), I6 323 (by omega), I5 323 (by omega), I12 324 (by omega), I11 324 (by omega), I10 324 (by omega), I9 324 (by omega), I8 324 (by omega), I7 324 (by omega), I6 324 (by omega), I12 325 (by omega), I11 325 (by omega), I10 325 (by omega), I9 325 (by omega), I8 325 (by omega), I7 325 (by omega)]
    exact ⟨q4.2.2.1 k, q5.2.2.1 k, q6.2.2.1 k⟩
  · rw [I12 320 (by omega), I11 320 (by omega), I10 320 (by omega), I9 320 (by omega), I8 320 (by omega), I7 320 (by omega), I6 320 (by omega), I5 320 (by omega), I4 320 (by omega), J3, G0 320 (by omega), J2, F0 320 (by omega), I1.2.2.2.2.2.1, I1.2.2.2.2.2.2]
    exact ⟨⟨20, by omega, by omega, rfl⟩, ⟨1, by omega, by omega, rfl⟩⟩
  · rw [I12 321 (by omega), I11 321 (by omega), I10 321 (by omega), I9 321 (by omega), I8 321 (by omega), I7 321 (by omega), I6 321 (by omega), I5 321 (by omega), I4 321 (by omega), J3, G0 321 (by omega), J2, F1 k hk]
    exact ⟨1, by omega, by omega, rfl⟩
  · rw [I12 322 (by omega), I11 322 (by omega), I10 322 (by omega), I9 322 (by omega), I8 322 (by omega), I7 322 (by omega), I6 322 (by omega), I5 322 (by omega), I4 322 (by omega), J3]
    exact G1 k hk

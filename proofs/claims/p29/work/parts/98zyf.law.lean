/-! 98zyf L3: THE LAW SAYS TRUE -/
theorem Nw.fz {P : Nat → Prop} {c d : Nat} {h h' : AH} (u : Nw P c d h h') (hn : 200 ≤ hN h) (e : ∀ x, x < 200 → ¬ P x) : Fz c d h h' := ⟨by rw [u.1]; omega, by rw [u.1]; omega, by rw [u.2.1]; omega, fun a ha => u.e (by omega) (e a ha)⟩
theorem bv_C {β : Type} {x : Option AH} {h : AH} {f : AH → Option β} (e : x = some h) : bv x f = f h := by rw [e]; rfl
-- the class and the sim made
theorem law_made {h : AH} (hn : hN h = 200) (st : St h) (sc : Scr 1 h) : ∃ (h' : AH) (n m p b no : Nat) (O : Nat → Nat → Int) (g : GM), (∀ K : AH → Nat → Option (AH × Int32), (lq (hA h 1 10) fun h1 => gd (hT h1 (hN h) = 1) <| bv (f_QuillBoats_init h1 (hN h)) fun h3 => bn (f_Law_chosen h3 1) K) = K h' 320) ∧ Nm n m p b ∧ no ≤ 7 ∧ Sm 0 n m p b no O h' g ∧ Iv n m p b 0 99999 0 g ∧ Fresh m p b no g ∧ (∀ i, i < no → Wk n m p b (O i)) ∧ SkZ h' ∧ SkT h' ∧ hI h' 200 1 = iI 0 ∧ hI h' 206 11 = iI 0 ∧ St h' ∧ Fz 200 10000 h h' ∧ 338 ≤ hN h' := by
  have u0 : Nw (fun _ => False) 1 10 h (hA h 1 10) := Nw.al h 1 10
  have t1 : hT (hA h 1 10) 200 = 1 := ix_self hn
  have st1 : St (hA h 1 10) := st.z fun a ha => u0.e (by omega) (fun y => y)
  have n1 : hN (hA h 1 10) = 201 := by rw [hN_a, hn]
  have sc1 : Scr 1 (hA h 1 10) := sc.nw u0 (by omega) (fun y => y)
  have k1 := st1.k112
  obtain ⟨h2, e2, u2, Z, T, i2, j2⟩ := qbNew t1 n1 ⟨k1.1, k1.2.2⟩
  have nl : ∀ x, x ≠ 200 → ¬ (fun x => x = 200) x := fun x hx y => hx y
  have n2 : hN h2 = 320 := by rw [u2.n, n1]
  have st2 : St h2 := st1.z fun a ha => u2.e (by omega) (nl a (by omega))
  have sc2 : Scr 1 h2 := sc1.nw u2 (by omega) (nl 1 (by decide))
  obtain ⟨h3, n, m, p, b, no, e3, hNm, hno, u3, M, P, B, O⟩ := chosen_E n2 (by decide) sc2
  have nf : ∀ x : Nat, ¬ (fun _ => False) x := fun _ y => y
  have hN' := hNm
  unfold Nm at hN'
  have n3 : hN h3 = 338 + n + m + p + b + no := by rw [u3.n, n2]; omega
  refine ⟨h3, n, m, p, b, no, oOf n m p b h3, gOf n m p b no h3, fun K => ?_, hNm, hno, gO_sm hNm n3 M P B O, gO_iv hNm M P B, gO_fr hNm M P B, fun i hi => gO_wk hNm O hi, Z.low fun x hx => ⟨u3.t (by omega), u3.l (by omega), u3.r (by omega) (nf x)⟩, T.low fun x hx => ⟨u3.t (by omega), u3.l (by omega), u3.r (by omega) (nf x), u3.j (by omega) (nf x)⟩, ?_, ?_, st2.z fun a ha => u3.e (by omega) (nf a), ?_, by omega⟩
  · rw [lq_E, hn, gd_P t1, bv_C e2, bn_C e3]
  · rw [u3.i (by omega) (nf 200), i2, nI_L]
  · rw [u3.i (by omega) (nf 206), j2, nI_L]
  · exact (((u0.fz (by omega) fun x _ => nf x).trans (u2.fz (by omega) fun x hx => nl x (by omega))).trans (u3.fz (by omega) fun x _ => nf x)).mono (by omega) (by omega)
theorem law_E {h : AH} (hn : hN h = 200) (st : St h) (sc : Scr 1 h) : ∃ h', f_Law_law h 1 = some (h', iI 1) ∧ Fz 8000 4000000 h h' := by
  obtain ⟨h1, n, m, p, b, no, O, g, e1, hNm, hno, hs, hv, fr, hW, Z, T, i1, j1, st1, f1, l1⟩ := law_made hn st sc
  obtain ⟨h2, s, e2, t2, s1, s2, E2, c2, len, s3, s4⟩ := text_E hNm hs st1 hv hno hW
  obtain ⟨J1, J2⟩ := J_f_Sim_text (h0 := h1) h1 320 (Jk.refl h1) h2 s e2
  have Z2 : SkZ h2 := Z.low fun x hx => ⟨(E2 x (by omega)).1, (E2 x (by omega)).2.1, (E2 x (by omega)).2.2.2⟩
  have T2 : SkT h2 := T.low fun x hx => ⟨(E2 x (by omega)).1, (E2 x (by omega)).2.1, (E2 x (by omega)).2.2.2, J2 x (by omega)⟩
  have st2 : St h2 := st1.z fun a ha => E2 a (by omega)
  have i2 : hI h2 200 1 = iI 0 := by rw [(E2 200 (by omega)).2.2.1]; exact i1
  have j2 : hI h2 206 11 = iI 0 := by rw [(E2 206 (by omega)).2.2.1]; exact j1
  have hs2 : Sm 0 n m p b no O h2 g := hs.ext hNm c2.1 fun a _ ha => E2 a ha
  have f2 : Fz 609 3047436 h1 h2 := ⟨c2.1, c2.2.1, by have := c2.2.2; omega, fun a ha => E2 a (by omega)⟩
  obtain ⟨h3, e3, cl, ⟨n3, n3', u3⟩, E3, I3⟩ := said_E hNm hv hno hW fr Z2 T2 st2 len i2 j2 (by omega) t2 s1 s2 (by omega) (by omega)
  have hs3 : Sm 0 n m p b no O h3 g := hs2.ext hNm n3 fun a a1 a2 => ⟨(E3 a a2).1, (E3 a a2).2.1, funext fun k => I3 a k a2 (by omega), (E3 a a2).2.2⟩
  have f3 : Fz 76 380 h2 h3 := ⟨n3, n3', u3, fun a ha => ⟨(E3 a (by omega)).1, (E3 a (by omega)).2.1, funext fun k => I3 a k (by omega) (by omega), (E3 a (by omega)).2.2⟩⟩
  have F := (f1.trans f2).trans f3
  have sc3 : Scr 1 h3 := sc.z (by decide) F
  have h10 : g 0 10 = (no : Int) := fr.1.1
  obtain ⟨h4, e4, f4⟩ := law9_E hNm hW (by omega) ⟨cl, hs3⟩ hv h10 sc3 (by decide)
  refine ⟨h4, ?_, (F.trans f4).mono (by omega) (by omega)⟩
  have t3 : hT h1 320 = 13 := hs.1.1
  unfold f_Law_law
  have q := e1 (fun h5 r6 => gd (hT h5 r6 = 13) <| bn (f_Sim_text h5 r6) fun h8 r9 => bn (f_Law_say h8 200 r9) fun h10 r11 => if r11 = 0 then f_Law_law_l28 FU h10 1 200 r6 (nI 0) else some (h10, (nI 0)))
  rw [hn] at q ⊢
  refine q.trans ?_
  rw [gd_P t3, bn_C e2, bn_C e3, if_pos (show (iI 0 : Int32) = 0 from rfl), nI_L]
  exact e4

/-! 98zj L3: begun anew and looked at: the spare river is the one told -/
theorem beginAnew_E {h : AH} (S : SkR h 265) : ∃ F, f_River_beginAnew h 265 = some (sI h F) ∧ Anew F ∧ ∀ c s, ¬ (265 ≤ c ∧ c < 312) → F c s = hI h c s := by
  obtain ⟨F0, eF0⟩ : ∃ F0, F0 = up2 (up2 (up2 (up2 (up2 (up2 (up2 (up2 (up2 (up2 (up2 (hI h) 265 6 (iI 0)) 265 7 (iI 0)) 265 8 (iI 0)) 265 9 (iI 0)) 265 10 (iI 0)) 265 12 (iI 50)) 265 13 (iI 20)) 265 14 (iI 1)) 265 15 (iI 0)) 265 16 (iI 0)) 265 17 (iI 0) := ⟨_, rfl⟩
  obtain ⟨F1, e1, a1, b1⟩ := anew_l 12 (h := sI h F0) (i := 0) (N := 99987) (by omega) (SkR.s _ S)
  obtain ⟨F2, e2, a2, b2⟩ := anewEnd (h := sI (sI h F0) F1) (N := 99987) (SkR.s _ (SkR.s _ S))
  rw [hI_s] at b1 b2
  have q7 : hT h 265 = 3 := S.t
  refine ⟨F2, ?_, ⟨⟨?_, ?_, ?_, ?_, ?_⟩, ⟨?_, ?_, ?_, ?_⟩, ⟨?_, ?_⟩, fun s hs => ?_, a2⟩, fun c s n => ?_⟩
  · have e3 : f_River_beginAnew_l59 FU (sI h F0) 265 (iI 0) = some (sI h F2) := e1.trans e2
    unfold f_River_beginAnew
    rw [gd_P q7, lq_E, gd_P (by rw [hT_wi]; exact q7), lq_E, gd_P (by rw [hT_wi, hT_wi]; exact q7), lq_E, gd_P (by rw [hT_wi, hT_wi, hT_wi]; exact q7), lq_E, gd_P (by rw [hT_wi, hT_wi, hT_wi, hT_wi]; exact q7), lq_E, gd_P (by rw [hT_wi, hT_wi, hT_wi, hT_wi, hT_wi]; exact q7), lq_E, gd_P (by rw [hT_wi, hT_wi, hT_wi, hT_wi, hT_wi, hT_wi]; exact q7), lq_E, gd_P (by rw [hT_wi, hT_wi, hT_wi, hT_wi, hT_wi, hT_wi, hT_wi]; exact q7), lq_E, gd_P (by rw [hT_wi, hT_wi, hT_wi, hT_wi, hT_wi, hT_wi, hT_wi, hT_wi]; exact q7), lq_E, gd_P (by rw [hT_wi, hT_wi, hT_wi, hT_wi, hT_wi, hT_wi, hT_wi, hT_wi, hT_wi]; exact q7), lq_E, gd_P (by rw [hT_wi, hT_wi, hT_wi, hT_wi, hT_wi, hT_wi, hT_wi, hT_wi, hT_wi, hT_wi]; exact q7), lq_E, ← e3, eF0]
    simp only [wI_s, sI_s, hI_s, nI_L]
  all_goals first
    | (rw [b2 _ _ (by omega), b1 _ _ (by omega), eF0]; simp (disch := omega) only [up2_e, up2_n]; done)
    | skip
  · rw [b2 _ _ (by omega)]; exact a1 s (by omega) hs
theorem lookAtAll_E {n m p b no : Nat} {T C Pb : Int} {O : Nat → Nat → Int} {g : GM} {h : AH} (hNm : Nm n m p b) (hv : Iv n m p b T C Pb g) (hno : no ≤ 7) (hW : ∀ i, i < no → Wk n m p b (O i)) (S : SkN h) (kd : Kd (ks (tkAll n m p b no O g) ++ [57]) h) (tk : ∀ (i : Nat) (t : Tok), (tkAll n m p b no O g)[i]? = some t → Tk1 h i t.1 t.2.1) (an : Anew (hI h)) :
    ∃ h' M, f_Names_lookAtAll h 253 = some (h', iI 0) ∧ NSt h (tkAll n m p b no O g) (tkPre n m p b g).length M (tkAll n m p b no O g).length h' ∧ IN n m p b true 12 4 no g M := by
  obtain ⟨⟨n6, n7, n8, n9, n10⟩, ⟨n12, n15, n16, n17⟩, ⟨n13, n14⟩, nh, nq⟩ := an
  have zz : ∀ x : Int32, iI x.toInt = x := fun x => Int32.ofInt_toInt x
  have tI : ∀ {x : Int} {v : Int32}, v = iI x → -2147483648 ≤ x → x < 2147483648 → v.toInt = x := fun e a b => by rw [e, iI_toInt a b]
  obtain ⟨M0, eM0⟩ : ∃ M0 : GM, M0 = fun c s => (hI h (265 + c) s).toInt := ⟨_, rfl⟩
  have i0 : IN 0 0 0 0 false 0 0 0 g M0 := by
    rw [eM0]
    refine ⟨⟨by omega, by omega, by omega, by omega⟩, ⟨tI n6 (by omega) (by omega), tI n7 (by omega) (by omega), tI n8 (by omega) (by omega), tI n9 (by omega) (by omega), tI n10 (by omega) (by omega)⟩, ⟨tI n12 (by omega) (by omega), tI n15 (by omega) (by omega), tI n16 (by omega) (by omega), tI n17 (by omega) (by omega)⟩, ⟨?_, ?_⟩, fun s hs => ?_, fun j hj => by omega, fun j hj => by omega, fun j hj => by omega, fun j hj => by omega, fun k hk => ?_⟩
    · rw [if_neg (by decide)]; exact tI n13 (by omega) (by omega)
    · rw [if_neg (by decide)]; exact tI n14 (by omega) (by omega)
    · rw [if_neg (by omega)]; exact tI (nh s hs) (by omega) (by omega)
    · obtain ⟨k0, k1, k2, k3⟩ := nq k hk
      rw [show 308 + k = 265 + (43 + k) by omega] at k0 k1 k2 k3
      have fb : 0 ≤ fP k ∧ fP k ≤ 8 := by unfold fP; repeat' split <;> omega
      refine ⟨tI k0 (by omega) (by omega), ?_, tI k2 (by omega) (by omega), tI k3 (by omega) (by omega)⟩
      rw [if_neg (by omega)]
      exact tI k1 (by omega) (by omega)
  obtain ⟨M', nl, i1⟩ := lookAll (O := O) hNm hv hno hW i0
  obtain ⟨h4, eh4⟩ : ∃ h4, h4 = wI (wI (wI (wI h 312 1 (iI 0)) 314 1 (iI 0)) 316 1 (iI 0)) 318 1 (iI 0) := ⟨_, rfl⟩
  have fn : Fn h h4 := by
    rw [eh4]
    exact (((Fn.wi (by omega)).trans (Fn.wi (by omega))).trans (Fn.wi (by omega))).trans (Fn.wi (by omega))
  have oth : ∀ c s, c < 312 → hI h4 c s = hI h c s := fun c s hc => by
    rw [eh4, hI_wn _ _ _ _ _ _ (by omega), hI_wn _ _ _ _ _ _ (by omega), hI_wn _ _ _ _ _ _ (by omega), hI_wn _ _ _ _ _ _ (by omega)]
  have r0 : ∀ k, k < 4 → hI h4 (312 + 2 * k) 1 = iI 0 := fun k hk => by
    rw [eh4]
    rcases (show k = 0 ∨ k = 1 ∨ k = 2 ∨ k = 3 by omega) with rfl | rfl | rfl | rfl
    · rw [hI_wn _ _ _ _ _ _ (by omega), hI_wn _ _ _ _ _ _ (by omega), hI_wn _ _ _ _ _ _ (by omega), hI_we]
    · rw [hI_wn _ _ _ _ _ _ (by omega), hI_wn _ _ _ _ _ _ (by omega), hI_we]
    · rw [hI_wn _ _ _ _ _ _ (by omega), hI_we]
    · rw [hI_we]
  have st : NSt h (tkAll n m p b no O g) (tkPre n m p b g).length M0 0 h4 := by
    refine ⟨S, kd, fun j t q k => ?_, fn, fun c s hc => ?_, fun k hk => ⟨0, ?_, Nat.zero_le _, r0 k hk, fun j hj => by omega⟩, fun j t q k => ?_, fun j t q a b => by omega⟩
    · have := (tk j t q).2.2 k
      rw [k] at this
      exact this
    · rw [oth _ _ (by omega), eM0, zz]
    · have e := i0.2.1
      rcases (show k = 0 ∨ k = 1 ∨ k = 2 ∨ k = 3 by omega) with rfl | rfl | rfl | rfl
      · exact e.1
      · exact e.2.1
      · exact e.2.2.1
      · exact e.2.2.2.1
    · rw [oth _ _ (by omega)]
      exact (tk j t q).2.1 k
  have hl := st.len
  obtain ⟨N, hN'⟩ : ∃ N, FU = N + 1 + (tkAll n m p b no O g).length := ⟨FU - ((tkAll n m p b no O g).length + 1), by unfold FU; omega⟩
  obtain ⟨h', e, st'⟩ := nl h h4 (N + 1) st
  rw [Nat.zero_add] at e st'
  refine ⟨h', M', ?_, st', i1⟩
  have kE := kindI_E st'.skt st'.kdh (i := (tkAll n m p b no O g).length) (by rw [List.length_append, List.length_singleton, ks_len]; omega)
  have k57 : nth (ks (tkAll n m p b no O g) ++ [57]) (tkAll n m p b no O g).length = 57 := by
    have q := kd.2.2.1
    rw [List.length_append, List.length_singleton, ks_len, Nat.add_sub_cancel] at q
    exact q
  rw [k57] at kE
  have eEnd : f_Names_lookAtAll_l30 (N + 1) h' 253 (iI ((tkAll n m p b no O g).length : Int)) = some (h', iI 0) := by
    show f_Names_lookAtAll_b30 (f_Names_lookAtAll_l30 N) h' 253 (iI ((tkAll n m p b no O g).length : Int)) = _
    unfold f_Names_lookAtAll_b30
    rw [if_neg (by rw [nI_L, iI_le (by omega) (by omega) (by omega) (by omega)]; omega), gd_P st'.t, st'.r1, gd_P st'.tt, bn_C kE, if_pos (by decide)]
    rfl
  obtain ⟨s1, s2, s3, s4, s5, s6, s7, s8⟩ := S
  have g0 : hR h 253 3 = 312 := s5 0 (by decide)
  have g1 : hR h 253 4 = 314 := s5 1 (by decide)
  have g2 : hR h 253 5 = 316 := s5 2 (by decide)
  have g3 : hR h 253 6 = 318 := s5 3 (by decide)
  have t0 : hT h 312 = 12 := (s6 0 (by decide)).1
  have t1 : hT h 314 = 12 := (s6 1 (by decide)).1
  have t2 : hT h 316 = 12 := (s6 2 (by decide)).1
  have t3 : hT h 318 = 12 := (s6 3 (by decide)).1
  have cl : ∀ {h : AH} {c : Nat}, hT h c = 12 → f_Roll_clear h c = some (wI h c 1 (iI 0)) := fun t => by
    unfold f_Roll_clear
    rw [gd_P t, nI_L, lq_E]
  unfold f_Names_lookAtAll
  rw [gd_P s1, g0, gd_P t0, cl t0, bv_S, gd_P (by rw [hT_wi]; exact s1), hT_wi, hR_wi, g1, gd_P t1, cl (by rw [hT_wi]; exact t1), bv_S, gd_P (by rw [hT_wi, hT_wi]; exact s1), hT_wi, hR_wi, hT_wi, hR_wi, g2, gd_P t2, cl (by rw [hT_wi, hT_wi]; exact t2), bv_S, gd_P (by rw [hT_wi, hT_wi, hT_wi]; exact s1), hT_wi, hR_wi, hT_wi, hR_wi, hT_wi, hR_wi, g3, gd_P t3, cl (by rw [hT_wi, hT_wi, hT_wi]; exact t3), bv_S, ← eh4, hN']
  exact e.trans eEnd

/-! 98zr L3: said: the text is said, and the class is as the sim says -/
theorem SkR.low {h h' : AH} {r : Nat} (k : SkR h r) (hr : r + 47 ≤ 320) (e : ∀ x, x < 320 → hT h' x = hT h x ∧ hL h' x = hL h x ∧ hR h' x = hR h x) : SkR h' r := by
  have q := k.ext (h' := (hN h, hU h, hT h', hL h', hI h, hR h', hJ h)) hr fun a ha => ⟨(e a ha).1, (e a ha).2.1, rfl, (e a ha).2.2⟩
  exact q
theorem SkZ.low {h h' : AH} (S : SkZ h) (e : ∀ x, x < 320 → hT h' x = hT h x ∧ hL h' x = hL h x ∧ hR h' x = hR h x) : SkZ h' := by
  obtain ⟨Q, R, ZG, ZO, Z6, z1, z2, z3, z4, z5, z6, z7⟩ := S
  have eT : ∀ x, x < 320 → hT h' x = hT h x := fun x hx => (e x hx).1
  have eL : ∀ x, x < 320 → hL h' x = hL h x := fun x hx => (e x hx).2.1
  have eR : ∀ x s, x < 320 → hR h' x s = hR h x s := fun x s hx => congrFun (e x hx).2.2 s
  refine ⟨Q.ext2 fun x hx => e x (by omega), ?_, ?_, ?_, Z6.low (by omega) e, ?_, ?_, ?_, ?_, fun k hk => ?_, fun k hk => ?_, z7.low (by omega) e⟩
  · rw [eR 200 5 (by omega), eR 200 6 (by omega), eR 200 7 (by omega), eR 200 8 (by omega)]; exact R
  · unfold SkG
    rw [eT 254 (by omega), eR 254 0 (by omega), eR 254 1 (by omega), eT 261 (by omega), eR 261 0 (by omega), eR 261 1 (by omega), eT 262 (by omega), eT 263 (by omega), eL 262 (by omega), eL 263 (by omega)]; exact ZG
  · unfold SkO
    rw [eT 202 (by omega), eR 202 0 (by omega), eR 202 1 (by omega), eR 202 3 (by omega), eT 203 (by omega), eT 204 (by omega), eT 205 (by omega), eL 203 (by omega), eL 204 (by omega), eL 205 (by omega)]; exact ZO
  · rw [eT 253 (by omega)]; exact z1
  · rw [eR 253 0 (by omega)]; exact z2
  · rw [eR 253 1 (by omega)]; exact z3
  · rw [eR 253 2 (by omega)]; exact z4
  · rw [eR 253 _ (by omega)]; exact z5 k hk
  · rw [eT _ (by omega), eR _ _ (by omega), eT _ (by omega), eL _ (by omega)]; exact z6 k hk
theorem SkT.low {h h' : AH} (S : SkT h) (e : ∀ x, x < 320 → hT h' x = hT h x ∧ hL h' x = hL h x ∧ hR h' x = hR h x ∧ hJ h' x = hJ h x) : SkT h' := by
  obtain ⟨a, b, c⟩ := S
  have eT : ∀ x, x < 320 → hT h' x = hT h x := fun x hx => (e x hx).1
  have eL : ∀ x, x < 320 → hL h' x = hL h x := fun x hx => (e x hx).2.1
  have eR : ∀ x s, x < 320 → hR h' x s = hR h x s := fun x s hx => congrFun (e x hx).2.2.1 s
  refine ⟨?_, ?_, fun i hi => by rw [(e 256 (by omega)).2.2.2]; exact c i hi⟩
  · rw [eT 255 (by omega), eR 255 0 (by omega), eR 255 1 (by omega), eR 255 2 (by omega), eR 255 3 (by omega), eR 255 4 (by omega)]; exact a
  · rw [eT 256 (by omega), eL 256 (by omega), eT 257 (by omega), eL 257 (by omega), eT 258 (by omega), eL 258 (by omega), eT 259 (by omega), eL 259 (by omega), eT 260 (by omega), eL 260 (by omega)]; exact b
section
variable {n m p b no : Nat} {T C Pb : Int} {O : Nat → Nat → Int} {g : GM} {h : AH}
theorem said_E {s : Nat} (hNm : Nm n m p b) (hv : Iv n m p b T C Pb g) (hno : no ≤ 7) (hW : ∀ i, i < no → Wk n m p b (O i)) (fr : Fresh m p b no g) (Z : SkZ h) (K : SkT h) (st : St h) (hlen : (fl (tkAll n m p b no O g)).length ≤ 1516) (h20 : hI h 200 1 = iI 0) (h11 : hI h 206 11 = iI 0) (hn : 320 ≤ hN h) (hs : Str h s (fl (tkAll n m p b no O g))) (s1 : s < hN h) (s2 : hR h s 0 < hN h) (s3 : 320 ≤ s) (s4 : 320 ≤ hR h s 0) :
    ∃ h', f_Law_say h 200 s = some (h', iI 0) ∧ Cl n m p b O no h' g ∧ (hN h ≤ hN h' ∧ hN h' ≤ hN h + 76 ∧ hU h' ≤ hU h + 380) ∧ (∀ x, x < hN h → hT h' x = hT h x ∧ hL h' x = hL h x ∧ hR h' x = hR h x) ∧ ∀ c s, c < hN h → ¬ (200 ≤ c ∧ c < 320) → hI h' c s = hI h c s := by
  have sv := svAll (no := no) (O := O) hNm hv hW
  have ok := shp_ok sv.1 sv.2
  have o128 := nth_128 (fl_128 ok)
  have pos : 0 < (fl (tkAll n m p b no O g)).length := by
    unfold Nm at hNm
    obtain ⟨k, rfl⟩ : ∃ k, n = k + 1 := ⟨n - 1, by omega⟩
    have e : fl (tkAll (k + 1) m p b no O g) = fl (lnS (fun i => tkG i (g (7 + i) 0).toNat (g (7 + i) 1).toNat (g (7 + i) 2).toNat) k) ++ (tkb 1 0 ++ fl ((tkG k (g (7 + k) 0).toNat (g (7 + k) 1).toNat (g (7 + k) 2).toNat).tail)) ++ fl (lnS (fun i => tkR i (g (11 + 5 * i) 0).toNat) m ++ (lnS (fun i => tkP i (g (31 + i) 0).toNat (g (31 + i) 1).toNat (g (31 + i) 2).toNat) p ++ (lnS (fun i => tkB i (g (39 + i) 0).toNat (g (39 + i) 1).toNat) b ++ (tkVs g ++ (lnS (tkHs g) 12 ++ (lnS (tkCs g) 4 ++ lnS (fun i => tkO (k + 1) m p b (O i)) no)))))) → 0 < (fl (tkAll (k + 1) m p b no O g)).length := fun e => by
      rw [e, List.length_append, List.length_append, List.length_append]
      have : (tkb 1 0).length = 6 := rfl
      omega
    rcases Nat.eq_zero_or_pos (fl (tkAll (k + 1) m p b no O g)).length with c | c
    · exfalso
      have l := svAll (no := no) (O := O) (g := g) (n := k + 1) (m := m) (p := p) (b := b) (by unfold Nm; omega) hv hW
      have q : fl (tkAll (k + 1) m p b no O g) = [] := List.eq_nil_of_length_eq_zero c
      unfold tkAll at q
      rw [show lnS (fun i => tkG i (g (7 + i) 0).toNat (g (7 + i) 1).toNat (g (7 + i) 2).toNat) (k + 1) = lnS (fun i => tkG i (g (7 + i) 0).toNat (g (7 + i) 1).toNat (g (7 + i) 2).toNat) k ++ tkG k (g (7 + k) 0).toNat (g (7 + k) 1).toNat (g (7 + k) 2).toNat from rfl, fl_app, fl_app] at q
      have q1 := (List.append_eq_nil_iff.mp q).1
      have q2 := (List.append_eq_nil_iff.mp q1).2
      cases q2
    · exact c
  obtain ⟨h1, e1, f1, t1⟩ := say_E pos hlen o128 Z.1 (by omega) h20 hs s1 s2 (by omega) (by omega)
  obtain ⟨a1, a2, a3, a4, a5⟩ := f1
  have lowE : ∀ x, x < hN h → hT h1 x = hT h x ∧ hL h1 x = hL h x ∧ hR h1 x = hR h x ∧ hJ h1 x = hJ h x := a4
  have st1 : St h1 := st.z fun x hx => ⟨(a4 x (by omega)).1, (a4 x (by omega)).2.1, by funext i; exact a5 x i (by omega) (by omega) (by omega), (a4 x (by omega)).2.2.1⟩
  have Z1 : SkZ h1 := Z.low fun x hx => ⟨(a4 x (by omega)).1, (a4 x (by omega)).2.1, (a4 x (by omega)).2.2.1⟩
  have K1 : SkT h1 := K.low fun x hx => ⟨(a4 x (by omega)).1, (a4 x (by omega)).2.1, (a4 x (by omega)).2.2.1, (a4 x (by omega)).2.2.2⟩
  have z11 : hI h1 206 11 = iI 0 := by rw [a5 _ _ (by omega) (by omega) (by omega)]; exact h11
  obtain ⟨h2, e2, cl, ⟨b1, b2, b3, b4, b5⟩, b6⟩ := teach_E hNm hv hno hW fr Z1 K1 st1 hlen t1 z11
  refine ⟨h2, ?_, cl, ⟨by omega, by omega, by omega⟩, fun x hx => ?_, fun c s' hc k => ?_⟩
  · rw [e1]
    unfold f_Law_say_b112
    rw [gd_P Z1.1.t, bn_C e2]
  · obtain ⟨p1, p2, p3, -⟩ := a4 x hx
    rw [b3, b4, b5]
    exact ⟨p1, p2, p3⟩
  · rw [b6 c s' k, a5 c s' hc (by omega) (by omega)]
end

/-! 98zq L3: teach -/
def SkZ (h : AH) : Prop := SkQ h ∧ (hR h 200 5 = 253 ∧ hR h 200 6 = 254 ∧ hR h 200 7 = 255 ∧ hR h 200 8 = 261) ∧ SkG h ∧ SkO h ∧ SkR h 206 ∧ (hT h 253 = 9 ∧ hR h 253 0 = 254 ∧ hR h 253 1 = 255 ∧ hR h 253 2 = 265 ∧ (∀ k, k < 4 → hR h 253 (3 + k) = 312 + 2 * k) ∧ SkRo h ∧ SkR h 265)
theorem SkZ.eq {h h' : AH} (S : SkZ h) (t : hT h' = hT h) (l : hL h' = hL h) (r : hR h' = hR h) : SkZ h' := by
  unfold SkZ SkQ SkG SkO SkR SkRo at *
  rw [t, l, r]
  exact S
theorem SkZ.n {h : AH} (S : SkZ h) (T : SkT h) : SkN h := by
  obtain ⟨-, -, -, -, -, a, b, c, d, e, f, k⟩ := S
  exact ⟨a, b, c, d, e, f, k, T⟩
theorem SkZ.d {h : AH} (S : SkZ h) : SkD h := by
  obtain ⟨-, -, ⟨a, b, c, d, e, f, k, l, u, v⟩, -⟩ := S
  exact ⟨d, e, f, k, l, u, v⟩
theorem ks_nth {ts : List Tok} : ∀ {i : Nat}, i < ts.length → ∃ t, ts[i]? = some t ∧ nth (ks ts ++ [57]) i = t.1 := fun {i} hi => ⟨ts[i], List.getElem?_eq_getElem hi, (nth_ks (List.getElem?_eq_getElem hi)).1⟩
theorem okt_100 {k v : Nat} (o : okt k v) : k < 57 := by unfold okt at o; omega
theorem nth_lt {l : List Nat} {B : Nat} (hB : 0 < B) : (∀ c ∈ l, c < B) → ∀ i, nth l i < B := by
  induction l with
  | nil => intro _ i; exact hB
  | cons a l ih =>
    intro h i
    cases i with
    | zero => exact h a (List.mem_cons_self ..)
    | succ i => exact ih (fun c hc => h c (List.mem_cons_of_mem _ hc)) i
theorem kd_of {ts : List Tok} {h : AH} (o : ∀ t ∈ ts, okt t.1 t.2.1) (hl : ts.length ≤ 399) (hk : ∀ (i : Nat) (t : Tok), ts[i]? = some t → hI h 257 i = iI (t.1 : Int)) (he : hI h 257 ts.length = iI 57) (h5 : hI h 255 5 = iI (ts.length : Int)) : Kd (ks ts ++ [57]) h := by
  have len : (ks ts ++ [57]).length = ts.length + 1 := by rw [List.length_append, List.length_singleton, ks_len]
  have last : nth (ks ts ++ [57]) ts.length = 57 := by
    have q := nth_r (l := ks ts) (r := [57]) 0
    rw [ks_len, Nat.add_zero] at q
    exact q
  refine ⟨by omega, by omega, by rw [len, Nat.add_sub_cancel]; exact last, fun i hi => ?_, by rw [len, Nat.add_sub_cancel]; exact h5, nth_lt (by omega) fun c hc => ?_⟩
  · rw [len] at hi
    by_cases c : i < ts.length
    · obtain ⟨t, q1, q2⟩ := ks_nth c
      rw [q2]
      exact hk i t q1
    · obtain rfl : i = ts.length := by omega
      rw [last]
      exact he
  · rcases List.mem_append.mp hc with q | q
    · obtain ⟨t, t1, rfl⟩ := List.mem_map.mp q
      have := okt_100 (o t t1)
      omega
    · rw [List.mem_singleton] at q; omega
section
variable {n m p b no : Nat} {T C Pb : Int} {O : Nat → Nat → Int} {g : GM} {h : AH}
theorem teach_E (hNm : Nm n m p b) (hv : Iv n m p b T C Pb g) (hno : no ≤ 7) (hW : ∀ i, i < no → Wk n m p b (O i)) (fr : Fresh m p b no g) (Z : SkZ h) (K : SkT h) (st : St h) (hlen : (fl (tkAll n m p b no O g)).length ≤ 1516) (tp : Tpe (fl (tkAll n m p b no O g)) (fl (tkAll n m p b no O g)).length (hI h)) (h11 : hI h 206 11 = iI 0) :
    ∃ h', f_QuillBoats_teach h 200 = some (h', iI 0) ∧ Cl n m p b O no h' g ∧ (hN h' = hN h ∧ hU h' = hU h ∧ hT h' = hT h ∧ hL h' = hL h ∧ hR h' = hR h) ∧ ∀ c s, ¬ (200 ≤ c ∧ c < 320) → hI h' c s = hI h c s := by
  have sv := svAll (no := no) (O := O) hNm hv hW
  have ok := shp_ok sv.1 sv.2
  have cnt := cntAll (O := O) (g := g) hNm hno
  obtain ⟨dd, L, ed⟩ := lAll (O := O) (g := g) hNm hno hW
  have dl : (dAll n m p b no O g).length ≤ 105 := by rw [← ed]; exact L.1 0
  have o128 := nth_128 (fl_128 ok)
  generalize ets : tkAll n m p b no O g = ts at *
  obtain ⟨Q, ⟨R5, R6, R7, R8⟩, ZG, ZO, Z6, ZN⟩ := Z
  have Z : SkZ h := ⟨Q, ⟨R5, R6, R7, R8⟩, ZG, ZO, Z6, ZN⟩
  have TP : Tp (fl ts) h := ⟨Q.t1, Q.l1, hlen, o128, tp.2⟩
  obtain ⟨h3, e3, f3, k3, k57, k5⟩ := split_E ok (by omega) K TP st
  have K3 := f3.skt K
  have Z3 := Z.eq f3.1.2.2.1 f3.1.2.2.2.1 f3.1.2.2.2.2
  obtain ⟨h5, eh5⟩ : ∃ h5, h5 = wI h3 200 1 (iI 0) := ⟨_, rfl⟩
  have t5 : hT h5 = hT h3 := by rw [eh5, hT_wi]
  have l5 : hL h5 = hL h3 := by rw [eh5]; rfl
  have r5 : hR h5 = hR h3 := by rw [eh5, hR_wi]
  have j5 : hJ h5 = hJ h3 := by rw [eh5]; rfl
  have n5 : hN h5 = hN h3 ∧ hU h5 = hU h3 := by rw [eh5]; exact ⟨rfl, rfl⟩
  have i5 : ∀ c s, ¬ (c = 200 ∧ s = 1) → hI h5 c s = hI h3 c s := fun c s k => by rw [eh5, hI_wn _ _ _ _ _ _ k]
  have K5 : SkT h5 := by unfold SkT; rw [t5, l5, r5, j5]; exact K3
  have Z5 := Z3.eq t5 l5 r5
  have kd5 : Kd (ks ts ++ [57]) h5 := kd_of sv.2 (by omega) (fun i t q => by rw [i5 _ _ (by omega)]; exact (k3 i t q).1) (by rw [i5 _ _ (by omega)]; exact k57) (by rw [i5 _ _ (by omega)]; exact k5)
  obtain ⟨h8, e8, g8⟩ := readsList_E L Z5.2.2.1 K5 kd5
  rw [ed] at g8
  have f8 := g8.2.2.2.1
  have D8 := g8.2.2.2.2.2.2.2
  have K8 := f8.skt K5
  have Z8 := Z5.eq f8.1.2.2.1 f8.1.2.2.2.1 f8.1.2.2.2.2.1
  obtain ⟨F, e13, an, b13⟩ := beginAnew_E (h := h8) (Z8.n K8).2.2.2.2.2.2.1
  have K13 : SkT (sI h8 F) := K8
  have Z13 : SkZ (sI h8 F) := Z8.eq rfl rfl rfl
  have i13 : ∀ c s, ¬ (265 ≤ c ∧ c < 312) → c ≠ 262 → c ≠ 263 → ¬ (c = 254 ∧ (s = 2 ∨ s = 3)) → ¬ (c = 261 ∧ s = 2) → ¬ (c = 200 ∧ s = 1) → F c s = hI h3 c s := fun c s a1 a2 a3 a4 a5 a6 => by
    rw [b13 c s a1, f8.2 c s a2 a3 a4 a5, i5 c s a6]
  have kd13 : Kd (ks ts ++ [57]) (sI h8 F) := kd_of sv.2 (by omega) (fun i t q => by rw [hI_s, i13 _ _ (by omega) (by omega) (by omega) (by omega) (by omega) (by omega)]; exact (k3 i t q).1) (by rw [hI_s, i13 _ _ (by omega) (by omega) (by omega) (by omega) (by omega) (by omega)]; exact k57) (by rw [hI_s, i13 _ _ (by omega) (by omega) (by omega) (by omega) (by omega) (by omega)]; exact k5)
  have tk13 : ∀ (i : Nat) (t : Tok), ts[i]? = some t → Tk1 (sI h8 F) i t.1 t.2.1 := fun i t q => by
    obtain ⟨a1, a2, a3⟩ := k3 i t q
    unfold Tk1
    rw [hI_s, hJ_s, f8.1.2.2.2.2.2, j5, i13 _ _ (by omega) (by omega) (by omega) (by omega) (by omega) (by omega), i13 _ _ (by omega) (by omega) (by omega) (by omega) (by omega) (by omega)]
    exact ⟨a1, a2, a3⟩
  rw [← ets] at kd13 tk13
  obtain ⟨h16, M, e16, st16, in16⟩ := lookAtAll_E (O := O) hNm hv hno hW (Z13.n K13) kd13 tk13 an
  have f16 := st16.fn
  have Z16 := Z13.eq f16.1.2.2.1 f16.1.2.2.2.1 f16.1.2.2.2.2
  have D16 : Dr (dAll n m p b no O g) h16 := by
    refine ⟨?_, fun i d q => ?_⟩
    · rw [f16.2.1 _ _ (by omega) (by omega) (by omega), hI_s, b13 _ _ (by omega)]; exact D8.1
    · rw [f16.2.1 _ _ (by omega) (by omega) (by omega), f16.2.1 _ _ (by omega) (by omega) (by omega), hI_s, b13 _ _ (by omega), b13 _ _ (by omega)]; exact D8.2 i d q
  have z11 : hI h16 206 11 = iI 0 := by
    rw [f16.2.1 _ _ (by omega) (by omega) (by omega), hI_s, i13 _ _ (by omega) (by omega) (by omega) (by omega) (by omega) (by omega), f3.2.1 _ _ (by omega) (by omega)]
    exact h11
  have z20 : hI h16 200 1 = iI 0 := by
    rw [f16.2.1 _ _ (by omega) (by omega) (by omega), hI_s, b13 _ _ (by omega), f8.2 _ _ (by omega) (by omega) (by omega) (by omega), eh5, hI_we]
  obtain ⟨F4, e20, cl, b20⟩ := take_E hNm hv hno hW fr Z16.1 Z16.2.1.2.2.1 Z16.2.1.2.2.2 Z16.2.2.2.1 Z16.d Z16.2.2.2.2.1 st16 in16 (by omega) D16 z11 z20
  refine ⟨wI (sI h16 F4) 200 2 (iI (-1)), ?_, ?_, ?_, fun c s k => ?_⟩
  · have m1 : -nI 1 = iI (-1) := by rw [nI_L, iI_neg]
    have r1 : f_QuillBoats_takeWhatWasTold h16 200 = some (sI h16 F4) := e20
    unfold f_QuillBoats_teach
    rw [gd_P Q.t, R7, gd_P K.1.1, Q.r0, tp.1, e3, bv_S, gd_P Z3.1.t, show nI 0 = iI 0 from rfl, ← eh5, lq_E, gd_P Z5.1.t, Z5.2.1.2.1, gd_P Z5.2.2.1.1, bn_C e8, if_pos (by decide), gd_P Z8.1.t, Z8.1.r9, gd_P (Z8.n K8).2.2.2.2.2.2.1.t, e13, bv_S, gd_P Z13.1.t, Z13.2.1.1, gd_P (Z13.n K13).1, bn_C e16, if_pos (by decide), gd_P Z16.1.t, r1, bv_S, gd_P (show hT (sI h16 F4) 200 = 1 from Z16.1.t), m1, lq_E]
  · obtain ⟨c1, c2, c3, c4, c5, c6, c7⟩ := cl
    exact ⟨c1, c2, c3, c4, fun c s k => (hI_wn _ _ _ _ _ _ (by omega)).trans (c5 c s k), c6.fr fun c s k => hI_wn _ _ _ _ _ _ (by omega), (hI_wn _ _ _ _ _ _ (by omega)).trans c7⟩
  · refine ⟨?_, ?_, ?_, ?_, ?_⟩
    · show hN h16 = hN h
      rw [f16.1.1]; show hN h8 = hN h; rw [f8.1.1, n5.1, f3.1.1]
    · show hU h16 = hU h
      rw [f16.1.2.1]; show hU h8 = hU h; rw [f8.1.2.1, n5.2, f3.1.2.1]
    · show hT h16 = hT h
      rw [f16.1.2.2.1]; show hT h8 = hT h; rw [f8.1.2.2.1, t5, f3.1.2.2.1]
    · show hL h16 = hL h
      rw [f16.1.2.2.2.1]; show hL h8 = hL h; rw [f8.1.2.2.2.1, l5, f3.1.2.2.2.1]
    · show hR h16 = hR h
      rw [f16.1.2.2.2.2]; show hR h8 = hR h; rw [f8.1.2.2.2.2.1, r5, f3.1.2.2.2.2]
  · rw [hI_wn _ _ _ _ _ _ (by omega), hI_s, b20 _ _ (by omega), f16.2.1 _ _ (by omega) (by omega) (by omega), hI_s, i13 _ _ (by omega) (by omega) (by omega) (by omega) (by omega) (by omega), f3.2.1 _ _ (by omega) (by omega)]
end

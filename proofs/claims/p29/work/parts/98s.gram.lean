/-! 98s L3: the grammar's state: where it reads, what it has drafted -/
def SkG (h : AH) : Prop := hT h 254 = 10 ∧ hR h 254 0 = 255 ∧ hR h 254 1 = 261 ∧ hT h 261 = 2 ∧ hR h 261 0 = 262 ∧ hR h 261 1 = 263 ∧ hT h 262 = 101 ∧ hT h 263 = 101 ∧ hL h 262 = 400 ∧ hL h 263 = 400
def Fg (h h' : AH) : Prop := (hN h' = hN h ∧ hU h' = hU h ∧ hT h' = hT h ∧ hL h' = hL h ∧ hR h' = hR h ∧ hJ h' = hJ h) ∧ ∀ c s, c ≠ 262 → c ≠ 263 → ¬ (c = 254 ∧ (s = 2 ∨ s = 3)) → ¬ (c = 261 ∧ s = 2) → hI h' c s = hI h c s
theorem Fg.refl (h : AH) : Fg h h := ⟨⟨rfl, rfl, rfl, rfl, rfl, rfl⟩, fun _ _ _ _ _ _ => rfl⟩
theorem Fg.trans {h h' h'' : AH} (a : Fg h h') (b : Fg h' h'') : Fg h h'' := by
  obtain ⟨⟨a1, a2, a3, a4, a5, a6⟩, a7⟩ := a
  obtain ⟨⟨b1, b2, b3, b4, b5, b6⟩, b7⟩ := b
  exact ⟨⟨b1.trans a1, b2.trans a2, b3.trans a3, b4.trans a4, b5.trans a5, b6.trans a6⟩, fun c s q1 q2 q3 q4 => (b7 c s q1 q2 q3 q4).trans (a7 c s q1 q2 q3 q4)⟩
theorem Fg.wi {h : AH} {c s : Nat} {v : Int32} (hc : c = 262 ∨ c = 263 ∨ (c = 254 ∧ (s = 2 ∨ s = 3)) ∨ (c = 261 ∧ s = 2)) : Fg h (wI h c s v) := ⟨⟨rfl, rfl, rfl, rfl, rfl, rfl⟩, fun c' s' q1 q2 q3 q4 => hI_wn _ _ _ _ _ _ (by omega)⟩
theorem Fg.skg {h h' : AH} (k : Fg h h') (S : SkG h) : SkG h' := by
  obtain ⟨⟨a1, a2, a3, a4, a5, a6⟩, a7⟩ := k
  unfold SkG
  rw [a3, a4, a5]
  exact S
theorem Fg.skt {h h' : AH} (k : Fg h h') (S : SkT h) : SkT h' := by
  obtain ⟨⟨a1, a2, a3, a4, a5, a6⟩, a7⟩ := k
  unfold SkT
  rw [a3, a4, a5, a6]
  exact S
-- the kinds of the tokens, with the end's
def Kd (K : List Nat) (h : AH) : Prop := 1 ≤ K.length ∧ K.length ≤ 400 ∧ nth K (K.length - 1) = 57 ∧ (∀ i, i < K.length → hI h 257 i = iI (nth K i : Int)) ∧ hI h 255 5 = iI ((K.length - 1 : Nat) : Int) ∧ ∀ i, nth K i < 100
def Dr (ds : List (Nat × Nat)) (h : AH) : Prop := hI h 261 2 = iI (ds.length : Int) ∧ ∀ (i : Nat) (d : Nat × Nat), ds[i]? = some d → hI h 262 i = iI (d.1 : Int) ∧ hI h 263 i = iI (d.2 : Int)
def GSt (hb : AH) (K r : List Nat) (ds : List (Nat × Nat)) (pos : Nat) (h : AH) : Prop := SkG hb ∧ SkT hb ∧ Kd K hb ∧ Fg hb h ∧ At K pos r ∧ hI h 254 2 = iI (pos : Int) ∧ hI h 254 3 = iI (nth r 0 : Int) ∧ Dr ds h
theorem Fg.kd {K : List Nat} {h h' : AH} (k : Fg h h') (S : Kd K h) : Kd K h' := by
  obtain ⟨a1, a2, a3, a4, a5, a6⟩ := S
  exact ⟨a1, a2, a3, fun i hi => by rw [k.2 _ _ (by omega) (by omega) (by omega) (by omega)]; exact a4 i hi, by rw [k.2 _ _ (by omega) (by omega) (by omega) (by omega)]; exact a5, a6⟩
theorem kindI_E {K : List Nat} {h : AH} (S : SkT h) (k : Kd K h) {i : Nat} (hi : i < K.length) : f_Tokens_kindOf_I h 255 (iI (i : Int)) = some (h, iI (nth K i : Int)) := by
  obtain ⟨k1, k2, k3, k4, k5, k6⟩ := k
  obtain ⟨⟨a1, a2, a3, a4, a5, a6⟩, ⟨b1, b2, b3, b4, b5, b6, b7, b8, b9, b10⟩, c⟩ := S
  have n0 : ¬ iI (i : Int) < 0 := by rw [z_i, iI_lt (by omega) (by omega) (by omega) (by omega)]; omega
  have ixi : (iI (i : Int)).toNatClampNeg = i := iI_ixn (by omega)
  unfold f_Tokens_kindOf_I
  rw [if_neg n0, gd_P a1, a3, gd_P b3, b4, if_neg (by rw [nI_L, iI_le (by omega) (by omega) (by omega) (by omega)]; omega), k5, if_neg (by rw [iI_lt (by omega) (by omega) (by omega) (by omega)]; omega), gd_P ⟨b3, n0, by show (iI (i : Int)).toNatClampNeg < 401; rw [ixi]; omega⟩, show ix (iI (i : Int)) = i from ixi, k4 i hi]
section
variable {hb : AH} {K r : List Nat} {ds : List (Nat × Nat)} {pos : Nat} {h : AH} {k : Nat}
theorem GSt.ne (g : GSt hb K (k :: r) ds pos h) (hk : k ≠ 57) : 1 ≤ r.length := by
  obtain ⟨g1, g2, g3, g4, g5, g6, g7, g8⟩ := g
  cases r with
  | nil =>
    exfalso
    have a1 := g5.1
    have a2 := g5.hd
    rw [List.length_cons, List.length_nil] at a1
    have a3 := g3.2.2.1
    rw [← a1, show pos + (0 + 1) - 1 = pos by omega, a2] at a3
    exact hk a3
  | cons x l => rw [List.length_cons]; omega
theorem reads_y (g : GSt hb K (k :: r) ds pos h) (hk : k ≠ 57) : ∃ h', f_Grammar_reads h 254 (iI (k : Int)) = some (h', iI 1) ∧ GSt hb K r ds (pos + 1) h' := by
  have hne := g.ne hk
  obtain ⟨g1, g2, g3, g4, g5, g6, g7, ⟨g8, g9⟩⟩ := g
  have s1 := g4.skg g1
  have s2 := g4.skt g2
  have s3 := g4.kd g3
  obtain ⟨q1, q2, q3, q4, q5, q6, q7, q8, q9, q10⟩ := s1
  have an := g5.skip1
  have al := an.1
  have f1 : Fg h (wI h 254 2 (iI ((pos + 1 : Nat) : Int))) := Fg.wi (by omega)
  have ek := kindI_E (f1.skt s2) (f1.kd s3) (i := pos + 1) (by omega)
  have e0 := an.2 0
  rw [Nat.add_zero] at e0
  rw [e0] at ek
  have t2 : hI (wI h 254 2 (iI ((pos + 1 : Nat) : Int))) 254 2 = iI ((pos + 1 : Nat) : Int) := hI_we _ _ _ _
  have tR : hR (wI h 254 2 (iI ((pos + 1 : Nat) : Int))) 254 0 = 255 := q2
  have f2 : Fg (wI h 254 2 (iI ((pos + 1 : Nat) : Int))) (wI (wI h 254 2 (iI ((pos + 1 : Nat) : Int))) 254 3 (iI (nth r 0 : Int))) := Fg.wi (by omega)
  refine ⟨wI (wI h 254 2 (iI ((pos + 1 : Nat) : Int))) 254 3 (iI (nth r 0 : Int)), ?_, g1, g2, g3, (g4.trans f1).trans f2, an, ?_, hI_we _ _ _ _, ?_, fun i d q => ?_⟩
  · unfold f_Grammar_reads
    have g7' : hI h 254 3 = iI (k : Int) := g7
    have qT : hT (wI h 254 2 (iI ((pos + 1 : Nat) : Int))) 254 = 10 := q1
    have qT2 : hT (wI h 254 2 (iI ((pos + 1 : Nat) : Int))) 255 = 11 := s2.1.1
    have ep : iI (pos : Int) + nI 1 = iI ((pos + 1 : Nat) : Int) := by rw [nI_L, iI_add]; rfl
    rw [gd_P q1, if_pos g7', g6, ep, lq_E, gd_P qT, tR, gd_P qT2, t2, bn_C ek, gd_P qT, lq_E]
    rfl
  · rw [hI_wn _ _ _ _ _ _ (by omega)]; exact t2
  · rw [hI_wn _ _ _ _ _ _ (by omega), hI_wn _ _ _ _ _ _ (by omega)]; exact g8
  · rw [hI_wn _ _ _ _ _ _ (by omega), hI_wn _ _ _ _ _ _ (by omega), hI_wn _ _ _ _ _ _ (by omega), hI_wn _ _ _ _ _ _ (by omega)]; exact g9 i d q
theorem GSt.cur (g : GSt hb K r ds pos h) : hI h 254 3 = iI (nth r 0 : Int) := g.2.2.2.2.2.2.1
theorem GSt.pz (g : GSt hb K r ds pos h) : hI h 254 2 = iI (pos : Int) := g.2.2.2.2.2.1
theorem GSt.t (g : GSt hb K r ds pos h) : hT h 254 = 10 := (g.2.2.2.1.skg g.1).1
theorem GSt.r1 (g : GSt hb K r ds pos h) : hR h 254 1 = 261 := (g.2.2.2.1.skg g.1).2.2.1
theorem GSt.tO (g : GSt hb K r ds pos h) : hT h 261 = 2 := (g.2.2.2.1.skg g.1).2.2.2.1
theorem GSt.k100 (g : GSt hb K r ds pos h) : nth r 0 < 100 := by
  have e := g.2.2.2.2.1.2 0
  rw [← e]
  exact g.2.2.1.2.2.2.2.2 _
theorem GSt.p400 (g : GSt hb K r ds pos h) : pos ≤ 400 := by
  have e := g.2.2.2.2.1.1
  have := g.2.2.1.2.1
  omega
theorem reads_n (g : GSt hb K r ds pos h) (hk : k < 100) (hn : nth r 0 ≠ k) : f_Grammar_reads h 254 (iI (k : Int)) = some (h, iI 0) := by
  have := g.k100
  unfold f_Grammar_reads
  rw [gd_P g.t, g.cur, if_neg (by rw [iI_eq (by omega) (by omega) (by omega) (by omega)]; omega), nI_L]
theorem add_E (g : GSt hb K r ds pos h) (hd : ds.length < 400) {v : Nat} : ∃ h', f_Orders_add h 261 (iI (k : Int)) (iI (v : Int)) = some h' ∧ GSt hb K r (ds ++ [(k, v)]) pos h' := by
  obtain ⟨g1, g2, g3, g4, g5, g6, g7, ⟨g8, g9⟩⟩ := g
  obtain ⟨q1, q2, q3, q4, q5, q6, q7, q8, q9, q10⟩ := g4.skg g1
  have n0 : ¬ iI (ds.length : Int) < 0 := by rw [z_i, iI_lt (by omega) (by omega) (by omega) (by omega)]; omega
  have ixi : (iI (ds.length : Int)).toNatClampNeg = ds.length := iI_ixn (by omega)
  have nn : ¬ nI 400 ≤ iI (ds.length : Int) := by rw [nI_L, iI_le (by omega) (by omega) (by omega) (by omega)]; omega
  have inbD : inb (iI (ds.length : Int)) 400 := ⟨n0, by show (iI (ds.length : Int)).toNatClampNeg < 400; rw [ixi]; omega⟩
  have f1 : Fg h (wI h 262 ds.length (iI (k : Int))) := Fg.wi (by omega)
  have f2 : Fg (wI h 262 ds.length (iI (k : Int))) (wI (wI h 262 ds.length (iI (k : Int))) 263 ds.length (iI (v : Int))) := Fg.wi (by omega)
  have f3 : Fg (wI (wI h 262 ds.length (iI (k : Int))) 263 ds.length (iI (v : Int))) (wI (wI (wI h 262 ds.length (iI (k : Int))) 263 ds.length (iI (v : Int))) 261 2 (iI ((ds.length + 1 : Nat) : Int))) := Fg.wi (by omega)
  refine ⟨wI (wI (wI h 262 ds.length (iI (k : Int))) 263 ds.length (iI (v : Int))) 261 2 (iI ((ds.length + 1 : Nat) : Int)), ?_, g1, g2, g3, ((g4.trans f1).trans f2).trans f3, g5, ?_, ?_, ?_, fun i d q => ?_⟩
  · have e2 : hI (wI h 262 ds.length (iI (k : Int))) 261 2 = iI (ds.length : Int) := (hI_wn _ _ _ _ _ _ (by omega)).trans g8
    have e3 : hI (wI (wI h 262 ds.length (iI (k : Int))) 263 ds.length (iI (v : Int))) 261 2 = iI (ds.length : Int) := (hI_wn _ _ _ _ _ _ (by omega)).trans e2
    have qT : hT (wI h 262 ds.length (iI (k : Int))) 261 = 2 := q4
    have qR : hR (wI h 262 ds.length (iI (k : Int))) 261 1 = 263 := q6
    have qT3 : hT (wI h 262 ds.length (iI (k : Int))) 263 = 101 := q8
    have qL3 : hL (wI h 262 ds.length (iI (k : Int))) 263 = 400 := q10
    have qT2 : hT (wI (wI h 262 ds.length (iI (k : Int))) 263 ds.length (iI (v : Int))) 261 = 2 := q4
    unfold f_Orders_add
    rw [gd_P q4, g8, if_neg n0, q5, gd_P q7, q9, if_neg nn, q6, gd_P q8, q10, if_neg nn, gd_P ⟨q7, inbD⟩, show ix (iI (ds.length : Int)) = ds.length from ixi, lq_E, gd_P qT, qR, e2, gd_P ⟨qT3, by rw [qL3]; exact inbD⟩, show ix (iI (ds.length : Int)) = ds.length from ixi, lq_E, gd_P qT2, e3, nI_L, iI_add, lq_E]
    rfl
  · rw [hI_wn _ _ _ _ _ _ (by omega), hI_wn _ _ _ _ _ _ (by omega), hI_wn _ _ _ _ _ _ (by omega)]; exact g6
  · rw [hI_wn _ _ _ _ _ _ (by omega), hI_wn _ _ _ _ _ _ (by omega), hI_wn _ _ _ _ _ _ (by omega)]; exact g7
  · rw [hI_we, List.length_append, List.length_singleton]
  · by_cases c : i < ds.length
    · rw [List.getElem?_append_left c] at q
      rw [hI_wn _ _ _ _ _ _ (by omega), hI_wn _ _ _ _ _ _ (by omega), hI_wn _ _ _ _ _ _ (by omega), hI_wn _ _ _ _ _ _ (by omega), hI_wn _ _ _ _ _ _ (by omega), hI_wn _ _ _ _ _ _ (by omega)]
      exact g9 i d q
    · rw [List.getElem?_append_right (by omega)] at q
      have ci : i - ds.length = 0 := by
        by_cases c0 : i - ds.length = 0
        · exact c0
        · rw [List.getElem?_eq_none (by rw [List.length_singleton]; omega)] at q
          cases q
      obtain rfl : i = ds.length := by omega
      rw [ci] at q
      obtain rfl : (k, v) = d := Option.some.inj q
      rw [hI_wn _ _ _ _ _ _ (by omega), hI_wn _ _ _ _ _ _ (by omega), hI_we, hI_wn _ _ _ _ _ _ (by omega), hI_we]
      exact ⟨rfl, rfl⟩
end

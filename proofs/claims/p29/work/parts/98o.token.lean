/-! 98o L3: one token -/
theorem tkb_k {k v : Nat} (h : k ≤ 54) : tkb k v = (KWL[k]?).getD [] := by
  unfold tkb
  rw [if_neg (by omega), if_neg (by omega)]
theorem aln_nz {r : List Nat} {c : Nat} (h : ¬ aln c) : ¬ (97 ≤ c ∧ c ≤ 122) ∧ ¬ (48 ≤ c ∧ c ≤ 57) := by
  unfold aln at h
  omega
theorem tokW {cs r : List Nat} {h : AH} {c : Nat} {w : List Nat} (T : Tp cs h) (S : SkT h) (hc : 97 ≤ c ∧ c ≤ 122) (hw : ∀ x ∈ w, aln x) (hl : w.length ≤ 9) (hr : ¬ aln (nth r 0)) {q i kd : Nat} (hi : i ≤ 400) (a : At cs q ((c :: w) ++ r)) (hk : f_Tokens_kindOf_J h 255 (wj (Int64.ofNat 0) (c :: w)) = some (h, iI (kd : Int))) :
    f_Tokens_behindToken h 255 201 (iI (cs.length : Int)) (iI (q : Int)) (iI (i : Int)) = some (wJ (wI h 257 i (iI (kd : Int))) 260 i (wj (Int64.ofNat 0) (c :: w)), iI ((q + (c :: w).length : Nat) : Int)) := by
  have hl2 := T.2.2.1
  have al := a.lt
  have ab := a.hd
  have e := word_E T S hr (w := c :: w) (fun x hx => by
    rcases List.mem_cons.mp hx with rfl | hx
    · exact Or.inl hc
    · exact hw x hx) (by rw [List.length_cons]; omega) hi a hk
  unfold f_Tokens_behindToken
  rw [bn_C (signAt_E T (by omega)), ab, if_pos (by rw [iI_lt (by omega) (by omega) (by omega) (by omega)]; omega), bn_C (ltr_y hc.1 hc.2), if_neg (by decide), gd_P S.1.1, bn_C e]
theorem tokN {cs r : List Nat} {h : AH} {c : Nat} {w : List Nat} (T : Tp cs h) (S : SkT h) (hw : ∀ x ∈ c :: w, 48 ≤ x ∧ x ≤ 57) (hl : w.length ≤ 5) (hr : ¬ aln (nth r 0)) {q i : Nat} (hi : i ≤ 400) (a : At cs q ((c :: w) ++ r)) :
    f_Tokens_behindToken h 255 201 (iI (cs.length : Int)) (iI (q : Int)) (iI (i : Int)) = some (wI (wI h 257 i (iI 56)) 259 i (iI (nvI 0 (c :: w))), iI ((q + (c :: w).length : Nat) : Int)) := by
  have hl2 := T.2.2.1
  have al := a.lt
  have ab := a.hd
  have e := num_E T S hr (w := c :: w) hw (by rw [List.length_cons]; omega) hi a
  obtain ⟨c1, c2⟩ := hw c (List.mem_cons_self ..)
  unfold f_Tokens_behindToken
  rw [bn_C (signAt_E T (by omega)), ab, if_pos (by rw [iI_lt (by omega) (by omega) (by omega) (by omega)]; omega), bn_C (ltr_n (by omega) (by omega)), if_pos (by decide), bn_C (dgt_y c1 c2), if_neg (by decide), gd_P S.1.1, bn_C e]
theorem s114A : ((List.range 13).all fun r => decide (nth s114 r < 128 ∧ ¬ (97 ≤ nth s114 r ∧ nth s114 r ≤ 122) ∧ ¬ (48 ≤ nth s114 r ∧ nth s114 r ≤ 57) ∧ (nth s114 r = 60 → r = 10) ∧ (nth s114 r = 62 → r = 11) ∧ (KWL[40 + r]?).getD [] = [nth s114 r])) = true := by decide +kernel
theorem tokS {cs r : List Nat} {h : AH} {s : Nat} (T : Tp cs h) (S : SkT h) (st : St h) (hs : s < 13) (hr : s = 10 ∨ s = 11 → nth r 0 ≠ 61) {q i : Nat} (hi : i ≤ 400) (a : At cs q ([nth s114 s] ++ r)) :
    f_Tokens_behindToken h 255 201 (iI (cs.length : Int)) (iI (q : Int)) (iI (i : Int)) = some (wI h 257 i (iI ((40 + s : Nat) : Int)), iI ((q + 1 : Nat) : Int)) := by
  obtain ⟨g1, g2, g3, g4, g5, _⟩ := of_decide_eq_true (List.all_eq_true.mp s114A s (List.mem_range.mpr hs))
  have hl2 := T.2.2.1
  have al := a.lt
  have ab := a.hd
  have an := a.skip1
  have an2 := an.2 0
  have bn2 := T.2.2.2.1 (q + 1)
  rw [Nat.add_zero] at an2
  have sg := sign_E st hs
  have sk := st.k114.1.1
  generalize nth s114 s = c at *
  have ep : iI (q : Int) + nI 1 = iI ((q + 1 : Nat) : Int) := by rw [nI_L, iI_add]; rfl
  have e90 : f_Tokens_behindToken_b90 h 255 (iI (q : Int)) (iI (i : Int)) (iI (c : Int)) = some (wI h 257 i (iI ((40 + s : Nat) : Int)), iI ((q + 1 : Nat) : Int)) := by
    unfold f_Tokens_behindToken_b90 f_Tokens_behindToken_b91
    rw [if_pos (by decide), gd_P sk, bn_C sg, if_pos (by rw [z_i, iI_le (by omega) (by omega) (by omega) (by omega)]; omega)]
    unfold f_Tokens_behindToken_b150
    rw [gd_P S.1.1, put_E S hi, bv_S, ep, nI_L, iI_add]
    rfl
  have e73 : nth r 0 ≠ 61 → f_Tokens_behindToken_b73 h 255 201 (iI (cs.length : Int)) (iI (q : Int)) (iI (i : Int)) (iI (c : Int)) = some (wI h 257 i (iI ((40 + s : Nat) : Int)), iI ((q + 1 : Nat) : Int)) := by
    intro ne
    unfold f_Tokens_behindToken_b73
    have n61 : ¬ iI (nth cs (q + 1) : Int) = nI 61 := by
      rw [nI_L, iI_eq (by omega) (by omega) (by omega) (by omega)]
      intro q2
      rw [an2] at q2
      exact ne (Int.ofNat.inj q2)
    rw [ep, bn_C (signAt_E T (by omega)), if_pos n61, e90]
  unfold f_Tokens_behindToken
  rw [bn_C (signAt_E T (by omega)), ab, if_pos (by rw [iI_lt (by omega) (by omega) (by omega) (by omega)]; omega), bn_C (ltr_n g1 g2), if_pos (by decide), bn_C (dgt_n g1 g3), if_pos (by decide)]
  by_cases c1 : c = 60
  · rw [if_pos (by rw [c1]; decide), e73 (hr (Or.inl (g4 c1)))]
  · rw [if_neg (by rw [nI_L, iI_eq (by omega) (by omega) (by omega) (by omega)]; omega)]
    by_cases c2 : c = 62
    · rw [if_neg (by rw [c2]; decide), e73 (hr (Or.inr (g5 c2)))]
    · rw [if_pos (by rw [nI_L, iI_eq (by omega) (by omega) (by omega) (by omega)]; omega), e90]
theorem tokE {cs r : List Nat} {h : AH} {c k : Nat} (T : Tp cs h) (S : SkT h) (hs : c = 60 ∧ k = 53 ∨ c = 62 ∧ k = 54) {q i : Nat} (hi : i ≤ 400) (a : At cs q ([c, 61] ++ r)) :
    f_Tokens_behindToken h 255 201 (iI (cs.length : Int)) (iI (q : Int)) (iI (i : Int)) = some (wI h 257 i (iI (k : Int)), iI ((q + 2 : Nat) : Int)) := by
  have hl2 := T.2.2.1
  have al := a.lt
  have ab := a.hd
  have an := a.skip1.hd
  have ep : iI (q : Int) + nI 1 = iI ((q + 1 : Nat) : Int) := by rw [nI_L, iI_add]; rfl
  have ep2 : iI (q : Int) + nI 2 = iI ((q + 2 : Nat) : Int) := by rw [nI_L, iI_add]; rfl
  have e73 : f_Tokens_behindToken_b73 h 255 201 (iI (cs.length : Int)) (iI (q : Int)) (iI (i : Int)) (iI (c : Int)) = some (wI h 257 i (iI (k : Int)), iI ((q + 2 : Nat) : Int)) := by
    unfold f_Tokens_behindToken_b73
    rw [ep, bn_C (signAt_E T (by omega)), an, if_neg (by decide)]
    unfold f_Tokens_behindToken_b91
    rw [if_neg (by decide)]
    rcases hs with ⟨rfl, rfl⟩ | ⟨rfl, rfl⟩
    · rw [if_neg (by decide)]
      unfold f_Tokens_behindToken_b115
      rw [gd_P S.1.1, put_E S hi, bv_S, ep2, nI_L]
      rfl
    · rw [if_pos (by decide)]
      unfold f_Tokens_behindToken_b115
      rw [gd_P S.1.1, put_E S hi, bv_S, ep2, nI_L]
      rfl
  unfold f_Tokens_behindToken
  rw [bn_C (signAt_E T (by omega)), ab, if_pos (by rw [iI_lt (by omega) (by omega) (by omega) (by omega)]; omega), bn_C (ltr_n (by omega) (by omega)), if_pos (by decide), bn_C (dgt_n (by omega) (by omega)), if_pos (by decide)]
  rcases hs with ⟨rfl, rfl⟩ | ⟨rfl, rfl⟩
  · rw [if_pos (by decide), e73]
  · rw [if_neg (by decide), if_neg (by decide), e73]
theorem dig_b {v : Nat} (h : v < 1000) : (∀ x ∈ dig v, 48 ≤ x ∧ x ≤ 57) ∧ nvI 0 (dig v) = v := by
  unfold dig
  split
  · refine ⟨fun x hx => ?_, ?_⟩
    · rw [List.mem_singleton] at hx; omega
    · show (0 * 10 + ((48 + v : Nat) : Int) - 48) = v; omega
  · split
    · refine ⟨fun x hx => ?_, ?_⟩
      · rw [List.mem_cons, List.mem_singleton] at hx; omega
      · show ((0 * 10 + ((48 + v / 10 : Nat) : Int) - 48) * 10 + ((48 + v % 10 : Nat) : Int) - 48) = v; omega
    · refine ⟨fun x hx => ?_, ?_⟩
      · rw [List.mem_cons, List.mem_cons, List.mem_singleton] at hx; omega
      · show (((0 * 10 + ((48 + v / 100 : Nat) : Int) - 48) * 10 + ((48 + v / 10 % 10 : Nat) : Int) - 48) * 10 + ((48 + v % 10 : Nat) : Int) - 48) = v; omega
theorem cons_of {w : List Nat} (h : 1 ≤ w.length) : ∃ c l, w = c :: l := by
  cases w with
  | nil => exact absurd h (by decide)
  | cons c l => exact ⟨c, l, rfl⟩
theorem tok_E {cs r : List Nat} {h : AH} {k v : Nat} (T : Tp cs h) (S : SkT h) (st : St h) (ok : okt k v) (ad : adj k (nth r 0)) {q i : Nat} (hi : i ≤ 400) (a : At cs q (tkb k v ++ r)) :
    ∃ h', f_Tokens_behindToken h 255 201 (iI (cs.length : Int)) (iI (q : Int)) (iI (i : Int)) = some (h', iI ((q + (tkb k v).length : Nat) : Int)) ∧ Fk i h h' ∧ Tk1 h' i k v := by
  have fw : ∀ (h : AH) (kd : Int32), Fk i h (wI h 257 i kd) := fun h kd => Fk.wi (by omega)
  rcases ok with ok | ⟨rfl, o1, o2⟩ | ⟨rfl, o1⟩
  · rw [tkb_k ok.2] at a ⊢
    by_cases c39 : k ≤ 39
    · have all := List.all_eq_true.mp kwAll (k - 1) (List.mem_range.mpr (by omega))
      rw [show k - 1 + 1 = k by omega] at all
      unfold kwOk at all
      rw [Bool.and_eq_true, Bool.and_eq_true] at all
      obtain ⟨⟨a1, a2⟩, a3⟩ := all
      obtain ⟨a4, a5⟩ := of_decide_eq_true a2
      have hk := kindJ_E S (x := kwj k) (r := k - 1) (fun i hi => of_decide_eq_true (List.all_eq_true.mp a3 i (List.mem_range.mpr hi))) (Or.inr ⟨by omega, by rw [show k - 1 + 1 = k by omega]⟩)
      rw [if_pos (by omega), show k - 1 + 1 = k by omega] at hk
      unfold kwj at hk
      generalize (KWL[k]?).getD [] = w at *
      obtain ⟨c, l, rfl⟩ := cons_of a5
      have hall : ∀ x ∈ c :: l, 97 ≤ x ∧ x ≤ 122 := fun x hx => of_decide_eq_true (List.all_eq_true.mp a1 x hx)
      rw [List.length_cons] at a4
      have e := tokW T S (hall c (List.mem_cons_self ..)) (fun x hx => Or.inl (hall x (List.mem_cons_of_mem _ hx))) (by omega) (ad.1 (Or.inl c39)) hi a hk
      refine ⟨_, e, (fw h _).trans (Fk.wj (Nat.le_refl _)), ?_, fun q => by omega, fun q => by omega⟩
      exact up2_e _ _ _ _
    · by_cases c52 : k ≤ 52
      · obtain ⟨s, rfl⟩ : ∃ s, k = 40 + s := ⟨k - 40, by omega⟩
        obtain ⟨g1, g2, g3, g4, g5, g6⟩ := of_decide_eq_true (List.all_eq_true.mp s114A s (List.mem_range.mpr (by omega)))
        rw [g6] at a ⊢
        have e := tokS T S st (by omega) (fun q => ad.2 (by omega)) hi a
        exact ⟨_, e, fw h _, up2_e _ _ _ _, fun q => by omega, fun q => by omega⟩
      · rcases (show k = 53 ∨ k = 54 by omega) with rfl | rfl
        · have e := tokE (c := 60) (k := 53) T S (Or.inl ⟨rfl, rfl⟩) hi (a : At cs q ([60, 61] ++ r))
          exact ⟨_, e, fw h _, up2_e _ _ _ _, fun q => by omega, fun q => by omega⟩
        · have e := tokE (c := 62) (k := 54) T S (Or.inr ⟨rfl, rfl⟩) hi (a : At cs q ([62, 61] ++ r))
          exact ⟨_, e, fw h _, up2_e _ _ _ _, fun q => by omega, fun q => by omega⟩
  · have et : tkb 55 v = [v / 16, 48 + v % 16] := rfl
    have nm : nmOk (v / 16) (v % 16) = true := by
      have all := List.all_eq_true.mp nmAll (v % 16) (List.mem_range.mpr o2)
      rw [Bool.and_eq_true, Bool.and_eq_true, Bool.and_eq_true] at all
      obtain ⟨⟨⟨n1, n2⟩, n3⟩, n4⟩ := all
      rcases o1 with o | o | o | o
      · rw [o]; exact n1
      · rw [o]; exact n2
      · rw [o]; exact n3
      · rw [o]; exact n4
    have hk := kindJ_E S (x := wj (Int64.ofNat 0) [v / 16, 48 + v % 16]) (r := 39) (fun i hi => of_decide_eq_true (List.all_eq_true.mp nm i (List.mem_range.mpr hi))) (Or.inl rfl)
    rw [if_neg (by omega)] at hk
    rw [et] at a ⊢
    have e := tokW T S (c := v / 16) (w := [48 + v % 16]) (by omega) (fun x hx => by rw [List.mem_singleton] at hx; exact Or.inr (by omega)) (by rw [List.length_singleton]; omega) (ad.1 (Or.inr (by omega))) hi a hk
    refine ⟨_, e, (fw h _).trans (Fk.wj (Nat.le_refl _)), ?_, fun q => by omega, fun _ => ?_⟩
    · exact up2_e _ _ _ _
    · exact up2_e _ _ _ _
  · have et : tkb 56 v = dig v := rfl
    obtain ⟨d1, d2⟩ := dig_b o1
    obtain ⟨d3, d4⟩ := dig_len (n := v)
    rw [et] at a ⊢
    generalize dig v = w at *
    obtain ⟨c, l, rfl⟩ := cons_of d3
    rw [List.length_cons] at d4
    have e := tokN T S d1 (by omega) (ad.1 (Or.inr (by omega))) hi a
    rw [d2] at e
    refine ⟨_, e, (fw h _).trans (Fk.wi (by omega)), ?_, fun _ => ?_, fun q => by omega⟩
    · show up2 (up2 (hI h) 257 i (iI 56)) 259 i (iI (v : Int)) 257 i = iI 56
      rw [up2_n _ _ _ _ _ _ (by omega), up2_e]
    · exact up2_e _ _ _ _

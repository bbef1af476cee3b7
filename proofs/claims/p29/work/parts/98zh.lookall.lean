/-! 98zh L3: all lines looked at -/
theorem ln_le {f : Nat → List Tok} {i : Nat} : ∀ {N : Nat}, i < N → (lnS f i).length + (f i).length ≤ (lnS f N).length := by
  intro N
  induction N with
  | zero => intro h; exact absurd h (Nat.not_lt_zero _)
  | succ k ih =>
    intro h
    rw [show lnS f (k + 1) = lnS f k ++ f k from rfl, List.length_append]
    by_cases e : i = k
    · rw [e]; exact Nat.le_refl _
    · have := ih (by omega)
      omega
theorem NL.ln {ts : List Tok} {L0 P : Nat} {f : Nat → List Tok} {inv : Nat → GM → Prop} : ∀ (N : Nat), Seg ts P (lnS f N) → (∀ i, i < N → ∀ M, inv i M → Seg ts (P + (lnS f i).length) (f i) → ∃ M', NL ts L0 M (P + (lnS f i).length) (f i).length M' ∧ inv (i + 1) M') → ∀ M, inv 0 M → ∃ M', NL ts L0 M P (lnS f N).length M' ∧ inv N M' := by
  intro N
  induction N with
  | zero => intro _ _ M h; exact ⟨M, NL.nil, h⟩
  | succ k ih =>
    intro s h M h0
    rw [show lnS f (k + 1) = lnS f k ++ f k from rfl] at s ⊢
    obtain ⟨M1, a1, i1⟩ := ih s.left (fun i hi => h i (by omega)) M h0
    obtain ⟨M2, a2, i2⟩ := h k (by omega) M1 i1 s.right
    refine ⟨M2, ?_, i2⟩
    rw [List.length_append]
    exact a1.trans a2
section
variable {n m p b no : Nat} {T C Pb : Int} {O : Nat → Nat → Int} {g : GM}
theorem lookPre {ts : List Tok} {L0 : Nat} {M : GM} (hNm : Nm n m p b) (hv : Iv n m p b T C Pb g) (s : Seg ts 0 (tkPre n m p b g)) (hL : L0 = (tkPre n m p b g).length) (i0 : IN 0 0 0 0 false 0 0 0 g M) :
    ∃ M', NL ts L0 M 0 (tkPre n m p b g).length M' ∧ IN n m p b true 12 4 0 g M' := by
  obtain ⟨w1, w2, w3, w4, w5, w6, w7, w8⟩ := hv
  have hN' := hNm
  unfold Nm at hN'
  unfold tkPre at s hL ⊢
  rw [List.length_append, List.length_append, List.length_append, List.length_append, List.length_append, List.length_append] at hL ⊢
  have sG := s.left
  have sR := s.right.left
  have sP := s.right.right.left
  have sB := s.right.right.right.left
  have sV := s.right.right.right.right.left
  have sH := s.right.right.right.right.right.left
  have sC := s.right.right.right.right.right.right
  generalize eG : lnS (fun i => tkG i (g (7 + i) 0).toNat (g (7 + i) 1).toNat (g (7 + i) 2).toNat) n = G at *
  generalize eR : lnS (fun i => tkR i (g (11 + 5 * i) 0).toNat) m = R at *
  generalize eP : lnS (fun i => tkP i (g (31 + i) 0).toNat (g (31 + i) 1).toNat (g (31 + i) 2).toNat) p = PP at *
  generalize eB : lnS (fun i => tkB i (g (39 + i) 0).toNat (g (39 + i) 1).toNat) b = B at *
  obtain ⟨M1, a1, i1⟩ : ∃ M', NL ts L0 M 0 G.length M' ∧ IN n 0 0 0 false 0 0 0 g M' := by
    rw [← eG] at sG hL ⊢
    refine NL.ln (inv := fun i M => IN i 0 0 0 false 0 0 0 g M) n sG (fun i hi M q s' => ?_) M i0
    have l1 := ln_le (f := fun i => tkG i (g (7 + i) 0).toNat (g (7 + i) 1).toNat (g (7 + i) 2).toNat) hi
    have k := w3 i hi
    have l2 : (tkG i (g (7 + i) 0).toNat (g (7 + i) 1).toNat (g (7 + i) 2).toNat).length = 9 := rfl
    exact ⟨_, nlG s' q.2.1.1 (by omega) (by omega) (by omega) (by omega) (by omega) (by omega), inG q (by omega) (Int.toNat_of_nonneg (by omega)) (Int.toNat_of_nonneg (by omega)) (Int.toNat_of_nonneg (by omega))⟩
  obtain ⟨M2, a2, i2⟩ : ∃ M', NL ts L0 M1 (0 + G.length) R.length M' ∧ IN n m 0 0 false 0 0 0 g M' := by
    rw [← eR] at sR hL ⊢
    refine NL.ln (inv := fun i M => IN n i 0 0 false 0 0 0 g M) m sR (fun i hi M q s' => ?_) M1 i1
    have l1 := ln_le (f := fun i => tkR i (g (11 + 5 * i) 0).toNat) hi
    have k := w4 i hi
    unfold IvR1 at k
    have l2 : (tkR i (g (11 + 5 * i) 0).toNat).length = 5 := rfl
    exact ⟨_, nlR s' q.2.1.2.1 (by omega) (by omega) (by omega) (by omega), inR q (by omega) (Int.toNat_of_nonneg (by omega))⟩
  obtain ⟨M3, a3, i3⟩ : ∃ M', NL ts L0 M2 (0 + G.length + R.length) PP.length M' ∧ IN n m p 0 false 0 0 0 g M' := by
    rw [← eP] at sP hL ⊢
    refine NL.ln (inv := fun i M => IN n m i 0 false 0 0 0 g M) p sP (fun i hi M q s' => ?_) M2 i2
    have l1 := ln_le (f := fun i => tkP i (g (31 + i) 0).toNat (g (31 + i) 1).toNat (g (31 + i) 2).toNat) hi
    have k := w5 i hi
    have l2 : (tkP i (g (31 + i) 0).toNat (g (31 + i) 1).toNat (g (31 + i) 2).toNat).length = 9 := rfl
    exact ⟨_, nlP s' (n := n) (m := m) q.2.1.2.2.1 (by omega) q.2.1.1 q.2.1.2.1 (by omega) (by omega) (by omega) (by omega) (by omega) (by omega) (by omega), inP q (by omega) (Int.toNat_of_nonneg (by omega)) (Int.toNat_of_nonneg (by omega)) (Int.toNat_of_nonneg (by omega))⟩
  obtain ⟨M4, a4, i4⟩ : ∃ M', NL ts L0 M3 (0 + G.length + R.length + PP.length) B.length M' ∧ IN n m p b false 0 0 0 g M' := by
    rw [← eB] at sB hL ⊢
    refine NL.ln (inv := fun i M => IN n m p i false 0 0 0 g M) b sB (fun i hi M q s' => ?_) M3 i3
    have l1 := ln_le (f := fun i => tkB i (g (39 + i) 0).toNat (g (39 + i) 1).toNat) hi
    have k1 := (w6 i hi).1
    have k2 := (w6 i hi).2.1
    have k3 := (w6 i hi).2.2.1
    have k4 := (w6 i hi).2.2.2.1
    have l2 : (tkB i (g (39 + i) 0).toNat (g (39 + i) 1).toNat).length = 7 := rfl
    exact ⟨_, nlB s' q.2.1.2.2.2.1 (by omega) (by omega) (by omega) (by omega) (by omega) (by omega), inB q (by omega) (Int.toNat_of_nonneg (by omega)) (Int.toNat_of_nonneg (by omega))⟩
  obtain ⟨M5, a5, i5⟩ : ∃ M', NL ts L0 M4 (0 + G.length + R.length + PP.length + B.length) (tkVs g).length M' ∧ IN n m p b true 0 0 0 g M' := by
    unfold IvSc at w1
    unfold tkVs at sV ⊢
    by_cases c : g 0 13 = 20 ∧ g 0 14 = 1
    · rw [if_pos c]
      exact ⟨M4, NL.nil, inV0 i4 c⟩
    · rw [if_neg c] at sV ⊢
      exact ⟨_, nlV sV (by omega) (by omega) (by omega), inV i4 (Int.toNat_of_nonneg (by omega)) (Int.toNat_of_nonneg (by omega))⟩
  obtain ⟨M6, a6, i6⟩ : ∃ M', NL ts L0 M5 (0 + G.length + R.length + PP.length + B.length + (tkVs g).length) (lnS (tkHs g) 12).length M' ∧ IN n m p b true 12 0 0 g M' := by
    refine NL.ln (inv := fun i M => IN n m p b true i 0 0 g M) 12 sH (fun i hi M q s' => ?_) M5 i5
    have k := w2 i hi
    unfold tkHs at s' ⊢
    by_cases c : g 6 i = 1
    · rw [if_pos c]
      exact ⟨M, NL.nil, inH0 q c⟩
    · rw [if_neg c] at s' ⊢
      exact ⟨_, nlH s' hi (by omega), inH q (Int.toNat_of_nonneg (by omega))⟩
  obtain ⟨M7, a7, i7⟩ : ∃ M', NL ts L0 M6 (0 + G.length + R.length + PP.length + B.length + (tkVs g).length + (lnS (tkHs g) 12).length) (lnS (tkCs g) 4).length M' ∧ IN n m p b true 12 4 0 g M' := by
    refine NL.ln (inv := fun i M => IN n m p b true 12 i 0 g M) 4 sC (fun i hi M q s' => ?_) M6 i6
    have k := w7 i hi
    unfold tkCs at s' ⊢
    by_cases c : g (43 + i) 1 = fP i
    · rw [if_pos c]
      exact ⟨M, NL.nil, inC0 q c⟩
    · rw [if_neg c] at s' ⊢
      exact ⟨_, nlC s' hi (by omega), inC q (Int.toNat_of_nonneg (by omega))⟩
  exact ⟨M7, a1.trans (a2.trans (a3.trans (a4.trans (a5.trans (a6.trans a7))))), i7⟩
theorem lookAll {M : GM} (hNm : Nm n m p b) (hv : Iv n m p b T C Pb g) (hno : no ≤ 7) (hW : ∀ i, i < no → Wk n m p b (O i)) (i0 : IN 0 0 0 0 false 0 0 0 g M) :
    ∃ M', NL (tkAll n m p b no O g) (tkPre n m p b g).length M 0 (tkAll n m p b no O g).length M' ∧ IN n m p b true 12 4 no g M' := by
  have hN' := hNm
  unfold Nm at hN'
  obtain ⟨ts, ets⟩ : ∃ ts, ts = tkAll n m p b no O g := ⟨_, rfl⟩
  have s : Seg ts 0 (tkPre n m p b g ++ lnS (fun i => tkO n m p b (O i)) no) := by
    rw [← tkAll_pre n m p b no O g, ← ets]
    exact Seg.all ts
  rw [← ets]
  obtain ⟨M1, a1, i1⟩ := lookPre (ts := ts) (M := M) hNm hv s.left rfl i0
  obtain ⟨M2, a2, i2⟩ : ∃ M', NL ts (tkPre n m p b g).length M1 (0 + (tkPre n m p b g).length) (lnS (fun i => tkO n m p b (O i)) no).length M' ∧ IN n m p b true 12 4 no g M' := by
    refine NL.ln (inv := fun i M => IN n m p b true 12 4 i g M) no s.right (fun i hi M q s' => ?_) M1 i1
    have c : Nb n m p b M := ⟨⟨q.2.1.1, q.2.1.2.1, q.2.1.2.2.1, q.2.1.2.2.2.1⟩, by omega⟩
    exact ⟨_, nlO (hW i hi) c q.2.1.2.2.2.2 (by omega) s', inO q⟩
  refine ⟨M2, ?_, i2⟩
  have el : ts.length = (tkPre n m p b g).length + (lnS (fun i => tkO n m p b (O i)) no).length := by rw [ets, tkAll_pre, List.length_append]
  rw [el]
  exact a1.trans a2
end

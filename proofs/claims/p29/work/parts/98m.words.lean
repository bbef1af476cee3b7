/-! 98m L3: words, numbers, signs on the tape -/
def aln (c : Nat) : Prop := (97 ≤ c ∧ c ≤ 122) ∨ (48 ≤ c ∧ c ≤ 57)
theorem put_E {h : AH} (S : SkT h) {i : Nat} (hi : i ≤ 400) (v : Int32) : f_Tokens_put h 255 (iI (i : Int)) v = some (wI h 257 i v) := by
  obtain ⟨⟨a1, a2, a3, a4, a5, a6⟩, ⟨b1, b2, b3, b4, b5, b6, b7, b8, b9, b10⟩, c⟩ := S
  have n0 : ¬ iI (i : Int) < 0 := by rw [z_i, iI_lt (by omega) (by omega) (by omega) (by omega)]; omega
  have ixi : (iI (i : Int)).toNatClampNeg = i := iI_ixn (by omega)
  unfold f_Tokens_put
  rw [if_neg n0, gd_P a1, a3, gd_P b3, b4, if_neg (by rw [nI_L, iI_le (by omega) (by omega) (by omega) (by omega)]; omega), gd_P ⟨b3, n0, by show (iI (i : Int)).toNatClampNeg < 401; rw [ixi]; omega⟩, show ix (iI (i : Int)) = i from ixi, lq_E]
theorem setNumber_E {h : AH} (S : SkT h) {i : Nat} (hi : i ≤ 400) (v : Int32) : f_Tokens_setNumber h 255 (iI (i : Int)) v = some (wI h 259 i v) := by
  obtain ⟨⟨a1, a2, a3, a4, a5, a6⟩, ⟨b1, b2, b3, b4, b5, b6, b7, b8, b9, b10⟩, c⟩ := S
  have n0 : ¬ iI (i : Int) < 0 := by rw [z_i, iI_lt (by omega) (by omega) (by omega) (by omega)]; omega
  have ixi : (iI (i : Int)).toNatClampNeg = i := iI_ixn (by omega)
  unfold f_Tokens_setNumber
  rw [if_neg n0, gd_P a1, a5, gd_P b7, b8, if_neg (by rw [nI_L, iI_le (by omega) (by omega) (by omega) (by omega)]; omega), gd_P ⟨b7, n0, by show (iI (i : Int)).toNatClampNeg < 401; rw [ixi]; omega⟩, show ix (iI (i : Int)) = i from ixi, lq_E]
theorem kindJ_l {h : AH} (S : SkT h) {x : Int64} {r : Nat} (h1 : ∀ i, i < r → kwj (i + 1) ≠ x) (h2 : r = 39 ∨ (r < 39 ∧ kwj (r + 1) = x)) : ∀ (j : Nat) {k N : Nat}, j + k = r → f_Tokens_kindOf_J_l2 (j + 1 + N) h 255 x (iI (k : Int)) = some (h, iI ((if r < 39 then r + 1 else 55 : Nat) : Int)) := by
  obtain ⟨⟨a1, a2, a3, a4, a5, a6⟩, ⟨b1, b2, b3, b4, b5, b6, b7, b8, b9, b10⟩, c⟩ := S
  intro j
  induction j with
  | zero =>
    intro k N hj
    obtain rfl : k = r := by omega
    rw [show 0 + 1 + N = N + 1 by omega]
    show f_Tokens_kindOf_J_b2 (f_Tokens_kindOf_J_l2 N) h 255 x (iI (k : Int)) = _
    unfold f_Tokens_kindOf_J_b2
    rw [gd_P a1, a2, gd_P b1, b2]
    rcases h2 with h2 | ⟨h2, h3⟩
    · rw [if_pos (by rw [nI_L, iI_le (by omega) (by omega) (by omega) (by omega)]; omega), if_neg (by omega)]
      rfl
    · have n0 : ¬ iI (k : Int) < 0 := by rw [z_i, iI_lt (by omega) (by omega) (by omega) (by omega)]; omega
      have ixk : (iI (k : Int)).toNatClampNeg = k := iI_ixn (by omega)
      rw [if_neg (by rw [nI_L, iI_le (by omega) (by omega) (by omega) (by omega)]; omega), gd_P ⟨b1, n0, by show (iI (k : Int)).toNatClampNeg < 39; rw [ixk]; omega⟩, show ix (iI (k : Int)) = k from ixk, c k h2, h3]
      have nl : ¬ x < x := by rw [Int64.lt_iff_toInt_lt]; omega
      rw [if_neg nl, if_pos rfl, if_neg (by intro q; exact q rfl), if_pos h2, nI_L, iI_add]
      rfl
  | succ j ih =>
    intro k N hj
    have n0 : ¬ iI (k : Int) < 0 := by rw [z_i, iI_lt (by omega) (by omega) (by omega) (by omega)]; omega
    have ixk : (iI (k : Int)).toNatClampNeg = k := iI_ixn (by omega)
    have q := ih (k := k + 1) (N := N) (by omega)
    rw [show j + 1 + 1 + N = (j + 1 + N) + 1 by omega, ← q]
    show f_Tokens_kindOf_J_b2 (f_Tokens_kindOf_J_l2 (j + 1 + N)) h 255 x (iI (k : Int)) = _
    have ne := h1 k (by omega)
    have ek : iI (k : Int) + nI 1 = iI ((k + 1 : Nat) : Int) := by rw [nI_L, iI_add]; rfl
    unfold f_Tokens_kindOf_J_b2
    rw [gd_P a1, a2, gd_P b1, b2, if_neg (by rw [nI_L, iI_le (by omega) (by omega) (by omega) (by omega)]; omega), gd_P ⟨b1, n0, by show (iI (k : Int)).toNatClampNeg < 39; rw [ixk]; omega⟩, show ix (iI (k : Int)) = k from ixk, c k (by omega), if_neg ne]
    by_cases lt : kwj (k + 1) < x
    · rw [if_pos lt, if_pos (by decide), ek, lq_E]
    · rw [if_neg lt, if_pos (by decide), ek, lq_E]
theorem kindJ_E {h : AH} (S : SkT h) {x : Int64} {r : Nat} (h1 : ∀ i, i < r → kwj (i + 1) ≠ x) (h2 : r = 39 ∨ (r < 39 ∧ kwj (r + 1) = x)) : f_Tokens_kindOf_J h 255 x = some (h, iI ((if r < 39 then r + 1 else 55 : Nat) : Int)) := by
  have hr : r ≤ 39 := by rcases h2 with q | q; exact Nat.le_of_eq q; omega
  obtain ⟨N, hN'⟩ : ∃ N, FU = r + 1 + N := ⟨FU - (r + 1), by unfold FU; omega⟩
  unfold f_Tokens_kindOf_J
  rw [hN', nI_L]
  exact kindJ_l S h1 h2 r (k := 0) (N := N) (by omega)
theorem word_l {cs r : List Nat} {h : AH} (T : Tp cs h) (hr : ¬ aln (nth r 0)) (a3 a4 : Int32) : ∀ (w : List Nat) {p N : Nat} (acc : Int64), (∀ c ∈ w, aln c) → At cs p (w ++ r) →
    f_Tokens_behindWord_l6 (w.length + 1 + N) h 255 201 (iI (cs.length : Int)) a3 a4 acc (iI (p : Int)) = f_Tokens_behindWord_b55 h 255 a3 a4 (wj acc w) (iI ((p + w.length : Nat) : Int)) := by
  have hl := T.2.2.1
  intro w
  induction w with
  | nil =>
    intro p N acc _ a
    have a2 := a.2 0
    have a1 := a.le
    rw [List.nil_append, Nat.add_zero] at a2
    rw [show ([] : List Nat).length + 1 + N = N + 1 by rw [List.length_nil]; omega]
    show f_Tokens_behindWord_b6 (f_Tokens_behindWord_l6 N) h 255 201 (iI (cs.length : Int)) a3 a4 acc (iI (p : Int)) = f_Tokens_behindWord_b55 h 255 a3 a4 acc (iI (p : Int))
    unfold f_Tokens_behindWord_b6
    by_cases c : cs.length ≤ p
    · rw [if_pos (by rw [iI_le (by omega) (by omega) (by omega) (by omega)]; omega)]
    · have b := T.2.2.2.1 p
      rw [a2] at b
      unfold aln at hr
      rw [if_neg (by rw [iI_le (by omega) (by omega) (by omega) (by omega)]; omega), bn_C (signAt_E T (by omega)), a2, bn_C (ltr_n b (by omega)), if_neg (by decide), bn_C (dgt_n b (by omega)), if_neg (by decide)]
  | cons c w ih =>
    intro p N acc hw a
    have ab := a.hd
    have al := a.lt
    have b := T.2.2.2.1 p
    rw [ab] at b
    have q := ih (p := p + 1) (N := N) (jst acc c) (fun x hx => hw x (List.mem_cons_of_mem _ hx)) a.skip1
    have ep : iI (p : Int) + nI 1 = iI ((p + 1 : Nat) : Int) := by rw [nI_L, iI_add]; rfl
    rw [List.length_cons, show w.length + 1 + 1 + N = (w.length + 1 + N) + 1 by omega, show p + (w.length + 1) = p + 1 + w.length by omega]
    refine Eq.trans ?_ q
    have e40 : f_Tokens_behindWord_b40 (f_Tokens_behindWord_l6 (w.length + 1 + N)) h 255 201 (iI (cs.length : Int)) a3 a4 acc (iI (p : Int)) (iI (c : Int)) = f_Tokens_behindWord_l6 (w.length + 1 + N) h 255 201 (iI (cs.length : Int)) a3 a4 (jst acc c) (iI ((p + 1 : Nat) : Int)) := by
      unfold f_Tokens_behindWord_b40
      rw [bn_C (joined_E b), ep, lq_E]
    show f_Tokens_behindWord_b6 (f_Tokens_behindWord_l6 (w.length + 1 + N)) h 255 201 (iI (cs.length : Int)) a3 a4 acc (iI (p : Int)) = _
    unfold f_Tokens_behindWord_b6
    rw [if_neg (by rw [iI_le (by omega) (by omega) (by omega) (by omega)]; omega), bn_C (signAt_E T (by omega)), ab]
    have hc := hw c (List.mem_cons_self ..)
    unfold aln at hc
    by_cases d : 97 ≤ c ∧ c ≤ 122
    · rw [bn_C (ltr_y d.1 d.2), if_pos (by decide), e40]
    · rw [bn_C (ltr_n b d), if_neg (by decide), bn_C (dgt_y (by omega) (by omega)), if_pos (by decide), e40]
theorem word_E {cs r w : List Nat} {h : AH} (T : Tp cs h) (S : SkT h) (hr : ¬ aln (nth r 0)) (hw : ∀ c ∈ w, aln c) (hl : w.length ≤ 10) {q i kd : Nat} (hi : i ≤ 400) (a : At cs q (w ++ r)) (hk : f_Tokens_kindOf_J h 255 (wj (Int64.ofNat 0) w) = some (h, iI (kd : Int))) :
    f_Tokens_behindWord h 255 201 (iI (cs.length : Int)) (iI (q : Int)) (iI (i : Int)) = some (wJ (wI h 257 i (iI (kd : Int))) 260 i (wj (Int64.ofNat 0) w), iI ((q + w.length : Nat) : Int)) := by
  have hl2 := T.2.2.1
  have a1 := a.le
  have S' := S
  obtain ⟨⟨a1', a2, a3, a4, a5, a6⟩, ⟨b1, b2, b3, b4, b5, b6, b7, b8, b9, b10⟩, c⟩ := S
  have n0 : ¬ iI (i : Int) < 0 := by rw [z_i, iI_lt (by omega) (by omega) (by omega) (by omega)]; omega
  have ixi : (iI (i : Int)).toNatClampNeg = i := iI_ixn (by omega)
  obtain ⟨N, hN'⟩ : ∃ N, FU = w.length + 1 + N := ⟨FU - (w.length + 1), by unfold FU; omega⟩
  unfold f_Tokens_behindWord
  rw [lq_E, hN', word_l T hr _ _ w (Int64.ofNat 0) hw a]
  unfold f_Tokens_behindWord_b55
  rw [iI_sub, if_pos (by rw [nI_L, iI_le (by omega) (by omega) (by omega) (by omega)]; omega), gd_P a1', bn_C hk]
  unfold f_Tokens_behindWord_b78
  have t1 : hT (wI h 257 i (iI (kd : Int))) 255 = 11 := a1'
  have t2 : hR (wI h 257 i (iI (kd : Int))) 255 4 = 260 := a6
  have t3 : hT (wI h 257 i (iI (kd : Int))) 260 = 103 := b9
  have t4 : hL (wI h 257 i (iI (kd : Int))) 260 = 401 := b10
  rw [gd_P a1', put_E S' hi, bv_S, if_neg n0, gd_P t1, t2, gd_P t3, t4, if_neg (by rw [nI_L, iI_le (by omega) (by omega) (by omega) (by omega)]; omega), gd_P ⟨t3, n0, by show (iI (i : Int)).toNatClampNeg < 401; rw [ixi]; omega⟩, show ix (iI (i : Int)) = i from ixi, lq_E]
def nvI : Int → List Nat → Int
  | a, [] => a
  | a, c :: l => nvI (a * 10 + c - 48) l
theorem nvI_app : ∀ (l : List Nat) (a : Int) (c : Nat), nvI a (l ++ [c]) = nvI a l * 10 + c - 48 := by
  intro l
  induction l with
  | nil => intro a c; rfl
  | cons x l ih => intro a c; exact ih _ c
theorem num_l {cs r : List Nat} {h : AH} (T : Tp cs h) (hr : ¬ aln (nth r 0)) (a3 a4 : Int32) : ∀ (w : List Nat) {p N : Nat} (acc : Int), (∀ c ∈ w, 48 ≤ c ∧ c ≤ 57) → At cs p (w ++ r) →
    f_Tokens_behindNumber_l6 (w.length + 1 + N) h 255 201 (iI (cs.length : Int)) a3 a4 (iI acc) (iI (p : Int)) = f_Tokens_behindNumber_b51 h 255 a3 a4 (iI (nvI acc w)) (iI ((p + w.length : Nat) : Int)) := by
  have hl := T.2.2.1
  intro w
  induction w with
  | nil =>
    intro p N acc _ a
    have a2 := a.2 0
    have a1 := a.le
    rw [List.nil_append, Nat.add_zero] at a2
    rw [show ([] : List Nat).length + 1 + N = N + 1 by rw [List.length_nil]; omega]
    show f_Tokens_behindNumber_b6 (f_Tokens_behindNumber_l6 N) h 255 201 (iI (cs.length : Int)) a3 a4 (iI acc) (iI (p : Int)) = f_Tokens_behindNumber_b51 h 255 a3 a4 (iI acc) (iI (p : Int))
    unfold f_Tokens_behindNumber_b6
    by_cases c : cs.length ≤ p
    · rw [if_pos (by rw [iI_le (by omega) (by omega) (by omega) (by omega)]; omega)]
    · have b := T.2.2.2.1 p
      rw [a2] at b
      unfold aln at hr
      rw [if_neg (by rw [iI_le (by omega) (by omega) (by omega) (by omega)]; omega), bn_C (signAt_E T (by omega)), a2, bn_C (dgt_n b (by omega)), if_neg (by decide)]
  | cons c w ih =>
    intro p N acc hw a
    have ab := a.hd
    have al := a.lt
    have q := ih (p := p + 1) (N := N) (acc * 10 + c - 48) (fun x hx => hw x (List.mem_cons_of_mem _ hx)) a.skip1
    have ep : iI (p : Int) + nI 1 = iI ((p + 1 : Nat) : Int) := by rw [nI_L, iI_add]; rfl
    have ea : iI acc * nI 10 + iI (c : Int) - nI 48 = iI (acc * 10 + c - 48) := by rw [nI_L, nI_L, iI_mul, iI_add, iI_sub]
    rw [List.length_cons, show w.length + 1 + 1 + N = (w.length + 1 + N) + 1 by omega, show p + (w.length + 1) = p + 1 + w.length by omega]
    refine Eq.trans ?_ q
    show f_Tokens_behindNumber_b6 (f_Tokens_behindNumber_l6 (w.length + 1 + N)) h 255 201 (iI (cs.length : Int)) a3 a4 (iI acc) (iI (p : Int)) = _
    obtain ⟨d1, d2⟩ := hw c (List.mem_cons_self ..)
    unfold f_Tokens_behindNumber_b6
    rw [if_neg (by rw [iI_le (by omega) (by omega) (by omega) (by omega)]; omega), bn_C (signAt_E T (by omega)), ab, bn_C (dgt_y d1 d2), if_pos (by decide), ea, ep, lq_E, lq_E]
theorem num_E {cs r w : List Nat} {h : AH} (T : Tp cs h) (S : SkT h) (hr : ¬ aln (nth r 0)) (hw : ∀ c ∈ w, 48 ≤ c ∧ c ≤ 57) (hl : w.length ≤ 6) {q i : Nat} (hi : i ≤ 400) (a : At cs q (w ++ r)) :
    f_Tokens_behindNumber h 255 201 (iI (cs.length : Int)) (iI (q : Int)) (iI (i : Int)) = some (wI (wI h 257 i (iI 56)) 259 i (iI (nvI 0 w)), iI ((q + w.length : Nat) : Int)) := by
  have hl2 := T.2.2.1
  have a1 := a.le
  obtain ⟨N, hN'⟩ : ∃ N, FU = w.length + 1 + N := ⟨FU - (w.length + 1), by unfold FU; omega⟩
  have S1 : SkT (wI h 257 i (iI 56)) := (Fk.wi (i := 0) (h := h) (c := 257) (s := i) (v := iI 56) (by omega)).skt S
  unfold f_Tokens_behindNumber
  rw [hN', nI_L, num_l T hr _ _ w 0 hw a]
  unfold f_Tokens_behindNumber_b51
  rw [iI_sub, if_pos (by rw [nI_L, iI_le (by omega) (by omega) (by omega) (by omega)]; omega)]
  unfold f_Tokens_behindNumber_b70
  rw [gd_P S.1.1, put_E S hi, bv_S, nI_L, gd_P S1.1.1, setNumber_E S1 hi, bv_S]

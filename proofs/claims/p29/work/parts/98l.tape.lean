/-! 98l L3: reading the tape; the tokens' object -/
def At (cs : List Nat) (p : Nat) (l : List Nat) : Prop := p + l.length = cs.length ∧ ∀ i, nth cs (p + i) = nth l i
theorem At.z (cs : List Nat) : At cs 0 cs := ⟨Nat.zero_add _, fun i => by rw [Nat.zero_add]⟩
theorem At.skip {cs a r : List Nat} {p : Nat} (k : At cs p (a ++ r)) : At cs (p + a.length) r := by
  refine ⟨?_, fun i => ?_⟩
  · have := k.1
    rw [List.length_append] at this
    omega
  · rw [Nat.add_assoc, k.2, nth_r]
theorem At.skip1 {cs r : List Nat} {a p : Nat} (k : At cs p (a :: r)) : At cs (p + 1) r := At.skip (a := [a]) k
theorem At.le {cs r : List Nat} {p : Nat} (k : At cs p r) : p ≤ cs.length := by have := k.1; omega
theorem At.hd {cs r : List Nat} {a p : Nat} (k : At cs p (a :: r)) : nth cs p = a := k.2 0
theorem At.lt {cs r : List Nat} {a p : Nat} (k : At cs p (a :: r)) : p < cs.length := by have := k.1; rw [List.length_cons] at this; omega
def Tp (cs : List Nat) (h : AH) : Prop := hT h 201 = 102 ∧ hL h 201 = 2000 ∧ cs.length ≤ 1516 ∧ (∀ i, nth cs i < 128) ∧ ∀ i, i < cs.length → hI h 201 i = iI (nth cs i : Int)
theorem and255 {c : Nat} (h : c < 128) : iI (c : Int) &&& nI 255 = iI (c : Int) := by
  have all : ((List.range 128).all fun c => decide (nI c &&& nI 255 = nI c)) = true := by decide +kernel
  have q := of_decide_eq_true (List.all_eq_true.mp all c (List.mem_range.mpr h))
  rw [nI_i c] at q
  exact q
theorem signAt_E {cs : List Nat} {h : AH} (T : Tp cs h) {p : Nat} (hp : p ≤ 100000) : f_Tokens_signAt h 201 (iI (cs.length : Int)) (iI (p : Int)) = some (h, iI (nth cs p : Int)) := by
  obtain ⟨t1, t2, t3, t4, t5⟩ := T
  have n0 : ¬ iI (p : Int) < 0 := by rw [z_i, iI_lt (by omega) (by omega) (by omega) (by omega)]; omega
  unfold f_Tokens_signAt
  rw [if_neg n0]
  by_cases c : cs.length ≤ p
  · rw [if_pos (by rw [iI_le (by omega) (by omega) (by omega) (by omega)]; omega), nth_z c]
    rfl
  · have ixp : (iI (p : Int)).toNatClampNeg = p := iI_ixn (by omega)
    rw [if_neg (by rw [iI_le (by omega) (by omega) (by omega) (by omega)]; omega), gd_P t1, t2, if_neg (by rw [nI_L, iI_le (by omega) (by omega) (by omega) (by omega)]; omega), gd_P ⟨t1, n0, by show (iI (p : Int)).toNatClampNeg < 2000; rw [ixp]; omega⟩, show ix (iI (p : Int)) = p from ixp, t5 p (by omega), and255 (t4 p)]
theorem dgt_y {h : AH} {c : Nat} (h1 : 48 ≤ c) (h2 : c ≤ 57) : f_Tokens_isDigit h (iI (c : Int)) = some (h, iI 1) := by
  unfold f_Tokens_isDigit
  rw [nI_L, if_neg (by rw [iI_lt (by omega) (by omega) (by omega) (by omega)]; omega), nI_L, if_neg (by rw [iI_lt (by omega) (by omega) (by omega) (by omega)]; omega), nI_L]
theorem dgt_n {h : AH} {c : Nat} (hc : c < 128) (h1 : ¬ (48 ≤ c ∧ c ≤ 57)) : f_Tokens_isDigit h (iI (c : Int)) = some (h, iI 0) := by
  unfold f_Tokens_isDigit
  rw [nI_L, nI_L, nI_L]
  by_cases c1 : c < 48
  · rw [if_pos (by rw [iI_lt (by omega) (by omega) (by omega) (by omega)]; omega)]
  · rw [if_neg (by rw [iI_lt (by omega) (by omega) (by omega) (by omega)]; omega), if_pos (by rw [iI_lt (by omega) (by omega) (by omega) (by omega)]; omega)]
theorem ltr_y {h : AH} {c : Nat} (h1 : 97 ≤ c) (h2 : c ≤ 122) : f_Tokens_isLetter h (iI (c : Int)) = some (h, iI 1) := by
  unfold f_Tokens_isLetter
  rw [nI_L, if_neg (by rw [iI_lt (by omega) (by omega) (by omega) (by omega)]; omega), nI_L, if_neg (by rw [iI_lt (by omega) (by omega) (by omega) (by omega)]; omega), nI_L]
theorem ltr_n {h : AH} {c : Nat} (hc : c < 128) (h1 : ¬ (97 ≤ c ∧ c ≤ 122)) : f_Tokens_isLetter h (iI (c : Int)) = some (h, iI 0) := by
  unfold f_Tokens_isLetter
  rw [nI_L, nI_L, nI_L]
  by_cases c1 : c < 97
  · rw [if_pos (by rw [iI_lt (by omega) (by omega) (by omega) (by omega)]; omega)]
  · rw [if_neg (by rw [iI_lt (by omega) (by omega) (by omega) (by omega)]; omega), if_pos (by rw [iI_lt (by omega) (by omega) (by omega) (by omega)]; omega)]
theorem blanks_E {cs r : List Nat} {h : AH} (T : Tp cs h) (hr : nth r 0 ≠ 32 ∧ nth r 0 ≠ 10) {st : Nat} : ∀ (ws : List Nat) {p N : Nat}, (∀ w ∈ ws, w = 32 ∨ w = 10) → st ≤ p → At cs p (ws ++ r) → f_Tokens_behindBlanks_l2 (ws.length + 1 + N) h 201 (iI (cs.length : Int)) (iI (st : Int)) (iI (p : Int)) = some (h, iI ((p + ws.length : Nat) : Int)) := by
  have T' := T
  obtain ⟨t1, t2, t3, t4, t5⟩ := T
  intro ws
  induction ws with
  | nil =>
    intro p N _ hst a
    have a1 := a.1
    have a2 := a.2 0
    rw [List.nil_append] at a1 a2
    rw [show ([] : List Nat).length + 1 + N = N + 1 by rw [List.length_nil]; omega]
    show f_Tokens_behindBlanks_b2 (f_Tokens_behindBlanks_l2 N) h 201 (iI (cs.length : Int)) (iI (st : Int)) (iI (p : Int)) = some (h, iI (p : Int))
    have n0 : ¬ iI (p : Int) < 0 := by rw [z_i, iI_lt (by omega) (by omega) (by omega) (by omega)]; omega
    unfold f_Tokens_behindBlanks_b2
    by_cases c : cs.length ≤ p
    · rw [if_pos (by rw [iI_le (by omega) (by omega) (by omega) (by omega)]; omega), bn_C (max_E (by omega) (by omega) (by omega) (by omega)), show max (st : Int) (cs.length : Int) = (p : Int) by omega]
    · have ixp : (iI (p : Int)).toNatClampNeg = p := iI_ixn (by omega)
      have b := t4 p
      rw [Nat.add_zero] at a2
      have b1 := hr.1
      have b2 := hr.2
      rw [if_neg (by rw [iI_le (by omega) (by omega) (by omega) (by omega)]; omega), if_neg n0, gd_P t1, t2, if_neg (by rw [nI_L, iI_le (by omega) (by omega) (by omega) (by omega)]; omega), gd_P ⟨t1, n0, by show (iI (p : Int)).toNatClampNeg < 2000; rw [ixp]; omega⟩, show ix (iI (p : Int)) = p from ixp, t5 p (by omega), if_neg (by rw [nI_L, iI_eq (by omega) (by omega) (by omega) (by omega)]; omega), if_neg (by rw [nI_L, iI_eq (by omega) (by omega) (by omega) (by omega)]; omega)]
  | cons w ws ih =>
    intro p N hw hst a
    have ab := a.hd
    have al := a.lt
    have q := ih (p := p + 1) (N := N) (fun x hx => hw x (List.mem_cons_of_mem _ hx)) (by omega) a.skip1
    rw [List.length_cons, show ws.length + 1 + 1 + N = (ws.length + 1 + N) + 1 by omega, show p + (ws.length + 1) = p + 1 + ws.length by omega, ← q]
    show f_Tokens_behindBlanks_b2 (f_Tokens_behindBlanks_l2 (ws.length + 1 + N)) h 201 (iI (cs.length : Int)) (iI (st : Int)) (iI (p : Int)) = _
    have n0 : ¬ iI (p : Int) < 0 := by rw [z_i, iI_lt (by omega) (by omega) (by omega) (by omega)]; omega
    have ixp : (iI (p : Int)).toNatClampNeg = p := iI_ixn (by omega)
    have ep : iI (p : Int) + nI 1 = iI ((p + 1 : Nat) : Int) := by rw [nI_L, iI_add]; rfl
    unfold f_Tokens_behindBlanks_b2
    rw [if_neg (by rw [iI_le (by omega) (by omega) (by omega) (by omega)]; omega), if_neg n0, gd_P t1, t2, if_neg (by rw [nI_L, iI_le (by omega) (by omega) (by omega) (by omega)]; omega), gd_P ⟨t1, n0, by show (iI (p : Int)).toNatClampNeg < 2000; rw [ixp]; omega⟩, show ix (iI (p : Int)) = p from ixp, t5 p al, ab]
    rcases hw w (List.mem_cons_self ..) with rfl | rfl
    · rw [if_pos (by decide)]
      unfold f_Tokens_behindBlanks_b35
      rw [ep, lq_E]
    · rw [if_neg (by decide), if_pos (by decide)]
      unfold f_Tokens_behindBlanks_b35
      rw [ep, lq_E]
-- the tokens' object
def jst (a : Int64) (c : Nat) : Int64 := (a <<< (Int32.toInt64 (nI 6) &&& 63)) + Int32.toInt64 (if 48 ≤ c ∧ c ≤ 57 then (iI (c : Int) - nI 48) + nI 27 else (iI (c : Int) - nI 97) + nI 1)
def wj : Int64 → List Nat → Int64
  | a, [] => a
  | a, c :: l => wj (jst a c) l
def kwj (k : Nat) : Int64 := wj (Int64.ofNat 0) ((KWL[k]?).getD [])
theorem joined_E {h : AH} {a : Int64} {c : Nat} (hc : c < 128) : f_Tokens_joined h a (iI (c : Int)) = some (h, jst a c) := by
  unfold f_Tokens_joined jst
  by_cases d : 48 ≤ c ∧ c ≤ 57
  · rw [bn_C (dgt_y d.1 d.2), if_neg (by decide), if_pos d]
    rfl
  · rw [bn_C (dgt_n hc d), if_pos (by decide), if_neg d]
    rfl
def SkT (h : AH) : Prop := (hT h 255 = 11 ∧ hR h 255 0 = 256 ∧ hR h 255 1 = 257 ∧ hR h 255 2 = 258 ∧ hR h 255 3 = 259 ∧ hR h 255 4 = 260) ∧ (hT h 256 = 103 ∧ hL h 256 = 39 ∧ hT h 257 = 101 ∧ hL h 257 = 401 ∧ hT h 258 = 101 ∧ hL h 258 = 401 ∧ hT h 259 = 101 ∧ hL h 259 = 401 ∧ hT h 260 = 103 ∧ hL h 260 = 401) ∧ ∀ i, i < 39 → hJ h 256 i = kwj (i + 1)
-- what the tokens' loop may change from the i-th token on
def Fk (i : Nat) (h h' : AH) : Prop := (hN h' = hN h ∧ hU h' = hU h ∧ hT h' = hT h ∧ hL h' = hL h ∧ hR h' = hR h) ∧ (∀ c s, ¬ (c = 255 ∧ s = 5) → ¬ ((c = 257 ∨ c = 258 ∨ c = 259) ∧ i ≤ s) → hI h' c s = hI h c s) ∧ ∀ c s, ¬ (c = 260 ∧ i ≤ s) → hJ h' c s = hJ h c s
theorem Fk.refl (i : Nat) (h : AH) : Fk i h h := ⟨⟨rfl, rfl, rfl, rfl, rfl⟩, fun _ _ _ _ => rfl, fun _ _ _ => rfl⟩
theorem Fk.trans {i : Nat} {h h' h'' : AH} (a : Fk i h h') (b : Fk i h' h'') : Fk i h h'' := by
  obtain ⟨⟨a1, a2, a3, a4, a5⟩, a6, a7⟩ := a
  obtain ⟨⟨b1, b2, b3, b4, b5⟩, b6, b7⟩ := b
  exact ⟨⟨b1.trans a1, b2.trans a2, b3.trans a3, b4.trans a4, b5.trans a5⟩, fun c s q1 q2 => (b6 c s q1 q2).trans (a6 c s q1 q2), fun c s q => (b7 c s q).trans (a7 c s q)⟩
theorem Fk.mono {i j : Nat} {h h' : AH} (k : Fk j h h') (hi : i ≤ j) : Fk i h h' := ⟨k.1, fun c s q1 q2 => k.2.1 c s q1 (fun q => q2 ⟨q.1, by have := q.2; omega⟩), fun c s q => k.2.2 c s (fun r => q ⟨r.1, by have := r.2; omega⟩)⟩
theorem Fk.skt {i : Nat} {h h' : AH} (k : Fk i h h') (S : SkT h) : SkT h' := by
  obtain ⟨⟨a1, a2, a3, a4, a5⟩, a6, a7⟩ := k
  refine ⟨by rw [a3, a5]; exact S.1, by rw [a3, a4]; exact S.2.1, fun j hj => ?_⟩
  rw [a7 _ _ (by omega)]
  exact S.2.2 j hj
theorem Fk.tp {i : Nat} {cs : List Nat} {h h' : AH} (k : Fk i h h') (T : Tp cs h) : Tp cs h' := by
  obtain ⟨⟨a1, a2, a3, a4, a5⟩, a6, a7⟩ := k
  refine ⟨by rw [a3]; exact T.1, by rw [a4]; exact T.2.1, T.2.2.1, T.2.2.2.1, fun j hj => ?_⟩
  rw [a6 _ _ (by omega) (by omega)]
  exact T.2.2.2.2 j hj
theorem Fk.wi {i : Nat} {h : AH} {c s : Nat} {v : Int32} (hc : (c = 255 ∧ s = 5) ∨ ((c = 257 ∨ c = 258 ∨ c = 259) ∧ i ≤ s)) : Fk i h (wI h c s v) := ⟨⟨rfl, rfl, rfl, rfl, rfl⟩, fun c' s' q1 q2 => up2_n _ _ _ _ _ _ (by omega), fun _ _ _ => rfl⟩
theorem Fk.wj {i : Nat} {h : AH} {s : Nat} {v : Int64} (hc : i ≤ s) : Fk i h (wJ h 260 s v) := ⟨⟨rfl, rfl, rfl, rfl, rfl⟩, fun _ _ _ _ => rfl, fun c' s' q => up2_n _ _ _ _ _ _ (by omega)⟩

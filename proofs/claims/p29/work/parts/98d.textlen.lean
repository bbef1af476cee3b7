/-! 98d L3: how long a text is -/
def kb (k : Nat) : Nat := if k = 55 then 2 else if k = 56 then 3 else ((KWL[k]?).getD []).length
def lenB : List Tok → Nat
  | [] => 0
  | t :: ts => kb t.1 + t.2.2.length + lenB ts
theorem fl_len : ∀ (ts : List Tok), (fl ts).length ≤ lenB ts := by
  intro ts
  induction ts with
  | nil => exact Nat.le_refl _
  | cons t ts ih =>
    obtain ⟨k, v, s⟩ := t
    have h1 : (tkb k v).length ≤ kb k := by
      unfold tkb kb
      by_cases c : k = 55
      · rw [if_pos c, if_pos c]; exact Nat.le_refl _
      · rw [if_neg c, if_neg c]
        by_cases d : k = 56
        · rw [if_pos d, if_pos d]; exact dig_len.2
        · rw [if_neg d, if_neg d]; exact Nat.le_refl _
    show (tkb k v ++ (s ++ fl ts)).length ≤ kb k + s.length + lenB ts
    rw [List.length_append, List.length_append]
    omega
theorem lenB_app : ∀ (a b : List Tok), lenB (a ++ b) = lenB a + lenB b := by
  intro a
  induction a with
  | nil => intro b; show lenB b = 0 + lenB b; omega
  | cons t ts ih =>
    intro b
    show kb t.1 + t.2.2.length + lenB (ts ++ b) = kb t.1 + t.2.2.length + lenB ts + lenB b
    rw [ih]
    omega
theorem kbG {k : Nat} (h : k < 4) : kb (18 + k) ≤ 6 := by
  rcases (show k = 0 ∨ k = 1 ∨ k = 2 ∨ k = 3 by omega) with rfl | rfl | rfl | rfl <;> decide
theorem lenT {n m p b w5 w6 w7 : Nat} {e : List Nat} : lenB (tkT n m p b w5 w6 w7 e) ≤ 50 + e.length := by
  have k := kbG (k := w6 % 4) (Nat.mod_lt _ (by omega))
  generalize hk : w6 % 4 = q at k
  unfold tkT
  rw [hk]
  split
  · show 4 + 1 + (2 + 1 + (3 + e.length + 0)) ≤ _; omega
  split
  · show 4 + 1 + (2 + 0 + (1 + 0 + (3 + e.length + 0))) ≤ _; omega
  split
  · show 5 + 1 + (2 + e.length + 0) ≤ _; omega
  split
  · show 3 + 1 + (6 + 1 + (2 + e.length + 0)) ≤ _; omega
  split
  · show 5 + 1 + (1 + 1 + (3 + 1 + (2 + 1 + (3 + e.length + 0)))) ≤ _; omega
  split
  · show 4 + 1 + (2 + 1 + (1 + 1 + (3 + 1 + (2 + 1 + (5 + 1 + (kb (18 + q) + 1 + (1 + 1 + (3 + e.length + 0)))))))) ≤ _; omega
  split
  · show 1 + 0 + (3 + 1 + (6 + 1 + (2 + 1 + (1 + 1 + (3 + 0 + (1 + 1 + (3 + 1 + (5 + 1 + (kb (18 + q) + 1 + (2 + 1 + (3 + e.length + 0))))))))))) ≤ _; omega
  split
  · show 4 + 1 + (2 + 0 + (2 + 0 + (3 + e.length + 0))) ≤ _; omega
  · show 3 + 1 + (1 + 1 + (3 + e.length + 0)) ≤ _; omega
theorem lenS {w2 w3 w4 : Nat} {e : List Nat} (h2 : w2 < 4) : lenB (tkS w2 w3 w4 e) ≤ 25 + e.length := by
  have k := kbG (k := w2) h2
  unfold tkS
  split
  · show 3 + e.length + 0 ≤ _; omega
  split
  · show 5 + 1 + (kb (18 + w2) + 0 + (1 + 0 + (3 + e.length + 0))) ≤ _; omega
  split
  · show 3 + 0 + (1 + 0 + (5 + 1 + (kb (18 + w2) + 0 + (1 + 0 + (3 + 0 + (1 + 0 + (3 + 0 + (1 + e.length + 0)))))))) ≤ _; omega
  · show 5 + 1 + (kb (18 + w2) + 0 + (1 + 0 + (3 + 0 + (1 + 0 + (3 + e.length + 0))))) ≤ _; omega
-- blanks behind
theorem flS_e {w2 w3 w4 : Nat} {e : List Nat} : fl (tkS w2 w3 w4 e) = fl (tkS w2 w3 w4 []) ++ e := by
  unfold tkS
  split
  · simp only [fl, List.append_assoc, List.append_nil, List.nil_append]
  split
  · simp only [fl, List.append_assoc, List.append_nil, List.nil_append]
  split
  · simp only [fl, List.append_assoc, List.append_nil, List.nil_append]
  · simp only [fl, List.append_assoc, List.append_nil, List.nil_append]
-- a string made since is appended
theorem Tx.q {h0 h h1 : AH} {a s c : Nat} {bs cs : List Nat} (t : Tx h0 a bs h) (k : Sq h h1 s cs c) (hl : bs.length + cs.length ≤ 2400) : ∃ h', f_SB_append_s h1 a s = some (h', a) ∧ Tx h0 a (bs ++ cs) h' ∧ Co (c + 1) h h' := by
  have t1 := t.ext k.2.2.2.2.2.1 k.2.2.2.2.1
  have er : hR h1 a 0 = hR h a 0 := congrFun (k.2.2.2.2.1 a t.1.2.1).2.2.2 0
  have vn := t.1.2.2.1
  have va := t.1.2.2.2.1
  have a2 := t.1.2.2.2.2.1
  obtain ⟨h', e1, e2, e3⟩ := t1.d k.1 k.2.1 k.2.2.2.1 (by rw [er]; rcases k.2.2.1 with q | q <;> omega) hl
  exact ⟨h', e1, e2, k.2.2.2.2.2.trans e3⟩

/-! 98f L3: the whole text -/
def lnS (f : Nat → List Tok) : Nat → List Tok
  | 0 => []
  | k + 1 => lnS f k ++ f k
theorem lenLn {f : Nat → List Tok} {B : Nat} : ∀ {N : Nat}, (∀ i, i < N → lenB (f i) ≤ B) → lenB (lnS f N) ≤ B * N := by
  intro N
  induction N with
  | zero => intro _; exact Nat.zero_le _
  | succ k ih =>
    intro h
    have h1 := ih fun i hi => h i (by omega)
    have h2 := h k (by omega)
    rw [show lnS f (k + 1) = lnS f k ++ f k from rfl, lenB_app, Nat.mul_succ]
    omega
theorem loopT {α : Type} {h0 : AH} {a : Nat} (L : Nat → AH → Nat → Option α) (Kk : AH → Option α) (f : Nat → List Tok) (N c B : Nat) (X : AH → Prop)
    (hstep : ∀ (fu i : Nat) (h : AH) (bs : List Nat), i < N → bs.length + 150 ≤ 2400 → Tx h0 a bs h → X h → ∃ h', L (fu + 1) h i = L fu h' (i + 1) ∧ Tx h0 a (bs ++ fl (f i)) h' ∧ Co c h h' ∧ X h')
    (hend : ∀ (fu : Nat) (h : AH) (bs : List Nat), Tx h0 a bs h → X h → L (fu + 1) h N = Kk h)
    (hB : ∀ i, i < N → lenB (f i) ≤ B) (hN : N < FU) {bs : List Nat} {h : AH} (t : Tx h0 a bs h) (x : X h) (hl : bs.length + B * N + 150 ≤ 2400) : ∃ h', L FU h 0 = Kk h' ∧ Tx h0 a (bs ++ fl (lnS f N)) h' ∧ Co (N * c) h h' ∧ X h' := by
  have key : ∀ (k i fu : Nat) (h : AH), i + k = N → k < fu → Tx h0 a (bs ++ fl (lnS f i)) h → X h → ∃ h', L fu h i = Kk h' ∧ Tx h0 a (bs ++ fl (lnS f N)) h' ∧ Co (k * c) h h' ∧ X h' := by
    intro k
    induction k with
    | zero =>
      intro i fu h e hf t x
      obtain ⟨fu, rfl⟩ : ∃ y, fu = y + 1 := ⟨fu - 1, by omega⟩
      obtain rfl : i = N := by omega
      exact ⟨h, hend fu h _ t x, t, (Co.refl h).mono (by omega), x⟩
    | succ k ih =>
      intro i fu h e hf t x
      obtain ⟨fu, rfl⟩ : ∃ y, fu = y + 1 := ⟨fu - 1, by omega⟩
      have l1 := Nat.le_trans (fl_len (lnS f i)) (lenLn (N := i) (B := B) fun j hj => hB j (by omega))
      have l2 : B * i ≤ B * N := Nat.mul_le_mul_left B (by omega)
      obtain ⟨h1, e1, e2, e3, e4⟩ := hstep fu i h _ (by omega) (by rw [List.length_append]; omega) t x
      have eq1 : (bs ++ fl (lnS f i)) ++ fl (f i) = bs ++ fl (lnS f (i + 1)) := by rw [show lnS f (i + 1) = lnS f i ++ f i from rfl, fl_app, List.append_assoc]
      rw [eq1] at e2
      obtain ⟨h2, d1, d2, d3, d4⟩ := ih (i + 1) fu h1 (by omega) (by omega) e2 e4
      exact ⟨h2, e1.trans d1, d2, (e3.trans d3).mono (by rw [Nat.succ_mul]; omega), d4⟩
  exact key N 0 FU h (by omega) hN (by rw [show fl (lnS f 0) = [] from rfl, List.append_nil]; exact t) x
theorem lenO {n m p b : Nat} {w : Nat → Int} (h2 : (w 2).toNat < 4) : lenB (tkO n m p b w) ≤ 110 := by
  have k1 := kbG h2
  have k2 := lenT (n := n) (m := m) (p := p) (b := b) (w5 := (w 5).toNat) (w6 := (w 6).toNat) (w7 := (w 7).toNat) (e := [])
  have k3 := lenS (w3 := (w 3).toNat) (w4 := (w 4).toNat) (e := [32]) h2
  rw [List.length_nil] at k2
  rw [List.length_singleton] at k3
  have kw : lenB (tkW n m p b (w 5).toNat (w 6).toNat (w 7).toNat) = 4 + 1 + lenB (tkT n m p b (w 5).toNat (w 6).toNat (w 7).toNat []) := rfl
  have ke : lenB [(44, 0, [32])] = 2 := rfl
  unfold tkO
  split
  · by_cases c : w 5 < 8
    · rw [if_pos c, if_pos c]
      show 4 + 1 + (2 + 1 + (4 + 1 + lenB (tkS _ _ _ [32] ++ _))) ≤ 110
      rw [lenB_app]
      show 4 + 1 + (2 + 1 + (4 + 1 + (lenB (tkS _ _ _ [32]) + (2 + 1 + (kb (18 + (w 2).toNat) + 1 + lenB (tkW _ _ _ _ _ _ _ ++ [(44, 0, [32])])))))) ≤ 110
      rw [lenB_app]
      omega
    · rw [if_neg c, if_neg c]
      show 4 + 1 + (2 + 1 + (4 + 1 + lenB (tkS _ _ _ [32] ++ _))) ≤ 110
      rw [lenB_app]
      show 4 + 1 + (2 + 1 + (4 + 1 + (lenB (tkS _ _ _ [32]) + (2 + 1 + (kb (18 + (w 2).toNat) + 0 + (1 + 1 + 0)))))) ≤ 110
      omega
  · have kq : kb (if w 0 = 0 then 22 else 25) = 4 := by split <;> rfl
    show kb (if w 0 = 0 then 22 else 25) + 1 + (2 + 1 + lenB (tkW _ _ _ _ _ _ _ ++ [(44, 0, [32])])) ≤ 110
    rw [lenB_app, kq]
    omega
-- all tokens
def tkHs (g : GM) (k : Nat) : List Tok := if g 6 k = 1 then [] else tkH k (g 6 k).toNat
def tkCs (g : GM) (k : Nat) : List Tok := if g (43 + k) 1 = fP k then [] else tkC k (g (43 + k) 1).toNat
def tkVs (g : GM) : List Tok := if g 0 13 = 20 ∧ g 0 14 = 1 then [] else tkV (g 0 13).toNat (g 0 14).toNat
def tkAll (n m p b no : Nat) (O : Nat → Nat → Int) (g : GM) : List Tok :=
  lnS (fun i => tkG i (g (7 + i) 0).toNat (g (7 + i) 1).toNat (g (7 + i) 2).toNat) n ++ (lnS (fun i => tkR i (g (11 + 5 * i) 0).toNat) m ++ (lnS (fun i => tkP i (g (31 + i) 0).toNat (g (31 + i) 1).toNat (g (31 + i) 2).toNat) p ++
    (lnS (fun i => tkB i (g (39 + i) 0).toNat (g (39 + i) 1).toNat) b ++ (tkVs g ++ (lnS (tkHs g) 12 ++ (lnS (tkCs g) 4 ++ lnS (fun i => tkO n m p b (O i)) no))))))

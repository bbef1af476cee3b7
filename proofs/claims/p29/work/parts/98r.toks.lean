/-! 98r L3: the tokens of the whole text, counted and split -/
theorem len_ln {f : Nat → List Tok} {B : Nat} : ∀ {N : Nat}, (∀ i, i < N → (f i).length ≤ B) → (lnS f N).length ≤ B * N := by
  intro N
  induction N with
  | zero => intro _; exact Nat.zero_le _
  | succ k ih =>
    intro h
    have h1 := ih fun i hi => h i (by omega)
    have h2 := h k (by omega)
    rw [show lnS f (k + 1) = lnS f k ++ f k from rfl, List.length_append, Nat.mul_succ]
    omega
theorem cntS {w2 w3 w4 : Nat} {e : List Nat} : (tkS w2 w3 w4 e).length ≤ 9 := by
  unfold tkS
  split
  · show 1 ≤ 9; omega
  split
  · show 4 ≤ 9; omega
  split
  · show 9 ≤ 9; omega
  · show 6 ≤ 9; omega
theorem cntT {n m p b w5 w6 w7 : Nat} {e : List Nat} : (tkT n m p b w5 w6 w7 e).length ≤ 12 := by
  unfold tkT
  split
  · show 3 ≤ 12; omega
  split
  · show 4 ≤ 12; omega
  split
  · show 2 ≤ 12; omega
  split
  · show 3 ≤ 12; omega
  split
  · show 5 ≤ 12; omega
  split
  · show 9 ≤ 12; omega
  split
  · show 12 ≤ 12; omega
  split
  · show 4 ≤ 12; omega
  · show 3 ≤ 12; omega
theorem cntO {n m p b : Nat} {w : Nat → Int} : (tkO n m p b w).length ≤ 28 := by
  have k1 := cntS (w2 := (w 2).toNat) (w3 := (w 3).toNat) (w4 := (w 4).toNat) (e := [32])
  have k2 := cntT (n := n) (m := m) (p := p) (b := b) (w5 := (w 5).toNat) (w6 := (w 6).toNat) (w7 := (w 7).toNat) (e := [])
  unfold tkO tkW
  split
  · rw [List.length_cons, List.length_cons, List.length_cons, List.length_append, List.length_cons, List.length_cons, List.length_append]
    split
    · rw [List.length_cons, List.length_singleton]; omega
    · rw [List.length_nil, List.length_singleton]; omega
  · rw [List.length_cons, List.length_cons, List.length_append, List.length_cons, List.length_singleton]; omega
theorem cntAll {n m p b no : Nat} {O : Nat → Nat → Int} {g : GM} (hNm : Nm n m p b) (hno : no ≤ 7) : (tkAll n m p b no O g).length ≤ 390 := by
  unfold Nm at hNm
  unfold tkAll
  have a1 := len_ln (f := fun i => tkG i (g (7 + i) 0).toNat (g (7 + i) 1).toNat (g (7 + i) 2).toNat) (B := 9) (N := n) fun i _ => Nat.le_refl 9
  have a2 := len_ln (f := fun i => tkR i (g (11 + 5 * i) 0).toNat) (B := 5) (N := m) fun i _ => Nat.le_refl 5
  have a3 := len_ln (f := fun i => tkP i (g (31 + i) 0).toNat (g (31 + i) 1).toNat (g (31 + i) 2).toNat) (B := 9) (N := p) fun i _ => Nat.le_refl 9
  have a4 := len_ln (f := fun i => tkB i (g (39 + i) 0).toNat (g (39 + i) 1).toNat) (B := 7) (N := b) fun i _ => Nat.le_refl 7
  have a5 : (tkVs g).length ≤ 10 := by
    unfold tkVs
    split
    · exact Nat.zero_le _
    · exact Nat.le_refl 10
  have a6 := len_ln (f := tkHs g) (B := 5) (N := 12) fun i _ => by
    unfold tkHs
    split
    · exact Nat.zero_le _
    · exact Nat.le_refl 5
  have a7 := len_ln (f := tkCs g) (B := 4) (N := 4) fun i _ => by
    unfold tkCs
    split
    · exact Nat.zero_le _
    · exact Nat.le_refl 4
  have a8 := len_ln (f := fun i => tkO n m p b (O i)) (B := 28) (N := no) fun i _ => cntO
  rw [List.length_append, List.length_append, List.length_append, List.length_append, List.length_append, List.length_append, List.length_append]
  omega
theorem split_E {ts : List Tok} {h : AH} (o : okTs ts) (hl : ts.length ≤ 399) (S : SkT h) (T : Tp (fl ts) h) (st : St h) :
    ∃ h', f_Tokens_split h 255 201 (iI ((fl ts).length : Int)) = some h' ∧ Fk 0 h h' ∧ (∀ (i : Nat) (t : Tok), ts[i]? = some t → Tk1 h' i t.1 t.2.1) ∧ hI h' 257 ts.length = iI 57 ∧ hI h' 255 5 = iI (ts.length : Int) := by
  have f0 : Fk 0 h (wI h 255 5 (iI 0)) := Fk.wi (by omega)
  obtain ⟨N, hN'⟩ : ∃ N, FU = ts.length + 1 + N := ⟨FU - (ts.length + 1), by unfold FU; omega⟩
  obtain ⟨h', e, f, k, e7, e5⟩ := split_l (cs := fl ts) ts (h := wI h 255 5 (iI 0)) (ws := []) (p := 0) (j := 0) (N := N) o (fun w hw => by cases hw) (At.z _) (by omega) (f0.skt S) (f0.tp T) (st.fk f0) (hI_we _ _ _ _)
  obtain ⟨t1, t2, t3, t4, t5⟩ := T
  refine ⟨h', ?_, f0.trans f, fun i t q => ?_, ?_, ?_⟩
  · unfold f_Tokens_split
    rw [gd_P t1, t2, nI_L, bn_C (min_E (by omega) (by omega) (by omega) (by omega)), gd_P S.1.1, nI_L, lq_E, show min ((fl ts).length : Int) 2000 = ((fl ts).length : Int) by omega, hN']
    exact e
  · have := k i t q
    rw [Nat.zero_add] at this
    exact this
  · rw [Nat.zero_add] at e7; exact e7
  · rw [Nat.zero_add] at e5; exact e5

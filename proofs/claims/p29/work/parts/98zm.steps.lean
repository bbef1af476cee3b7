/-! 98zm L3: the draft is the orders' steps (written by l3/gen98zm.py) -/
def TF (N : Nat → Int32) (j : Nat) (t : Tok) : Prop := (t.1 = 56 → N j = iI (t.2.1 : Int)) ∧ (t.1 = 55 → N j = iI ((t.2.1 % 16 : Nat) : Int)) ∧ (18 ≤ t.1 ∧ t.1 ≤ 21 → N j = iI ((t.1 - 18 : Nat) : Int))
def fd (N : Nat → Int32) (d : Nat × Nat) : Int32 × Int32 := (nI d.1, N d.2)
section
variable {n m p b ps : Nat} {w : Nat → Int} {N : Nat → Int32}
theorem dt0 {e : List Nat} (h7 : 0 ≤ w 7) (r4 : (w 6).toNat % 4 < 4) (rn : (w 6).toNat % n < 16) (rm : (w 6).toNat % m < 16) (rp : (w 6).toNat % p < 16) (rb : (w 6).toNat % b < 16) (h5 : (w 5).toNat = 0) (hf : ∀ (q : Nat) (t : Tok), (tkT n m p b 0 (w 6).toNat (w 7).toNat e)[q]? = some t → TF N (ps + q) t) : ∃ z, [(nI 27, N (ps)), (nI 56, N (ps + 2)), (nI 54, N (ps + 3))] = tSt n m p b w z := by
  have f1 : N (ps + 2) = iI (w 7 % 12) := ((hf 2 _ rfl).1 rfl).trans (by show iI (((w 7).toNat % 12 : Nat) : Int) = _; congr 1; omega)
  refine ⟨fun k => if k = 0 then N (ps) else if k = 1 then N (ps + 3) else 0, ?_⟩
  unfold tSt
  rw [h5, f1]
  rfl
theorem dt1 {e : List Nat} (h7 : 0 ≤ w 7) (r4 : (w 6).toNat % 4 < 4) (rn : (w 6).toNat % n < 16) (rm : (w 6).toNat % m < 16) (rp : (w 6).toNat % p < 16) (rb : (w 6).toNat % b < 16) (h5 : (w 5).toNat = 1) (hf : ∀ (q : Nat) (t : Tok), (tkT n m p b 1 (w 6).toNat (w 7).toNat e)[q]? = some t → TF N (ps + q) t) : ∃ z, [(nI 29, N (ps + 1)), (nI 56, N (ps + 3)), (nI 50, N (ps + 4))] = tSt n m p b w z := by
  have f0 : N (ps + 1) = iI (((w 6).toNat % p : Nat) : Int) := ((hf 1 _ rfl).2.1 rfl).trans (by show iI (((112 * 16 + (w 6).toNat % p) % 16 : Nat) : Int) = _; rw [show (112 * 16 + (w 6).toNat % p) % 16 = (w 6).toNat % p by omega])
  have f1 : N (ps + 3) = iI (w 7 % 21) := ((hf 3 _ rfl).1 rfl).trans (by show iI (((w 7).toNat % 21 : Nat) : Int) = _; congr 1; omega)
  refine ⟨fun k => if k = 0 then N (ps + 4) else 0, ?_⟩
  unfold tSt
  rw [h5, f0, f1]
  rfl
theorem dt2 {e : List Nat} (h7 : 0 ≤ w 7) (r4 : (w 6).toNat % 4 < 4) (rn : (w 6).toNat % n < 16) (rm : (w 6).toNat % m < 16) (rp : (w 6).toNat % p < 16) (rb : (w 6).toNat % b < 16) (h5 : (w 5).toNat = 2) (hf : ∀ (q : Nat) (t : Tok), (tkT n m p b 2 (w 6).toNat (w 7).toNat e)[q]? = some t → TF N (ps + q) t) : ∃ z, [(nI 34, N (ps + 1))] = tSt n m p b w z := by
  have f0 : N (ps + 1) = iI (((w 6).toNat % p : Nat) : Int) := ((hf 1 _ rfl).2.1 rfl).trans (by show iI (((112 * 16 + (w 6).toNat % p) % 16 : Nat) : Int) = _; rw [show (112 * 16 + (w 6).toNat % p) % 16 = (w 6).toNat % p by omega])
  refine ⟨fun _ => 0, ?_⟩
  unfold tSt
  rw [h5, f0]
  rfl
theorem dt3 {e : List Nat} (h7 : 0 ≤ w 7) (r4 : (w 6).toNat % 4 < 4) (rn : (w 6).toNat % n < 16) (rm : (w 6).toNat % m < 16) (rp : (w 6).toNat % p < 16) (rb : (w 6).toNat % b < 16) (h5 : (w 5).toNat = 3) (hf : ∀ (q : Nat) (t : Tok), (tkT n m p b 3 (w 6).toNat (w 7).toNat e)[q]? = some t → TF N (ps + q) t) : ∃ z, [(nI 33, N (ps + 2)), (nI 35, N (ps + 3))] = tSt n m p b w z := by
  have f0 : N (ps + 2) = iI (((w 6).toNat % b : Nat) : Int) := ((hf 2 _ rfl).2.1 rfl).trans (by show iI (((98 * 16 + (w 6).toNat % b) % 16 : Nat) : Int) = _; rw [show (98 * 16 + (w 6).toNat % b) % 16 = (w 6).toNat % b by omega])
  refine ⟨fun k => if k = 0 then N (ps + 3) else 0, ?_⟩
  unfold tSt
  rw [h5, f0]
  rfl
theorem dt4 {e : List Nat} (h7 : 0 ≤ w 7) (r4 : (w 6).toNat % 4 < 4) (rn : (w 6).toNat % n < 16) (rm : (w 6).toNat % m < 16) (rp : (w 6).toNat % p < 16) (rb : (w 6).toNat % b < 16) (h5 : (w 5).toNat = 4) (hf : ∀ (q : Nat) (t : Tok), (tkT n m p b 4 (w 6).toNat (w 7).toNat e)[q]? = some t → TF N (ps + q) t) : ∃ z, [(nI 28, N (ps)), (nI 56, N (ps + 2)), (nI 47, N (ps + 3)), (nI 56, N (ps + 4)), (nI 54, N (ps + 5))] = tSt n m p b w z := by
  have f1 : N (ps + 2) = iI 1 := (hf 2 _ rfl).1 rfl
  have f3 : N (ps + 4) = iI (w 7) := ((hf 4 _ rfl).1 rfl).trans (by show iI (((w 7).toNat : Nat) : Int) = _; congr 1; omega)
  refine ⟨fun k => if k = 0 then N (ps) else if k = 1 then N (ps + 3) else if k = 2 then N (ps + 5) else 0, ?_⟩
  unfold tSt
  rw [h5, f1, f3]
  rfl
theorem dt5 {e : List Nat} (h7 : 0 ≤ w 7) (r4 : (w 6).toNat % 4 < 4) (rn : (w 6).toNat % n < 16) (rm : (w 6).toNat % m < 16) (rp : (w 6).toNat % p < 16) (rb : (w 6).toNat % b < 16) (h5 : (w 5).toNat = 5) (hf : ∀ (q : Nat) (t : Tok), (tkT n m p b 5 (w 6).toNat (w 7).toNat e)[q]? = some t → TF N (ps + q) t) : ∃ z, [(nI 30, N (ps + 1)), (nI 56, N (ps + 3)), (nI 51, N (ps + 4)), (nI 31, N (ps + 6)), (nI 56, N (ps + 8)), (nI 50, N (ps + 9)), (nI 37, N (ps + 9))] = tSt n m p b w z := by
  have f0 : N (ps + 1) = iI (((w 6).toNat % m : Nat) : Int) := ((hf 1 _ rfl).2.1 rfl).trans (by show iI (((114 * 16 + (w 6).toNat % m) % 16 : Nat) : Int) = _; rw [show (114 * 16 + (w 6).toNat % m) % 16 = (w 6).toNat % m by omega])
  have f1 : N (ps + 3) = iI (w 7 % 30) := ((hf 3 _ rfl).1 rfl).trans (by show iI (((w 7).toNat % 30 : Nat) : Int) = _; congr 1; omega)
  have f3 : N (ps + 6) = iI ((((w 6).toNat % 4) : Nat) : Int) := ((hf 6 _ rfl).2.2 ⟨by show 18 ≤ 18 + (w 6).toNat % 4; omega, by show 18 + (w 6).toNat % 4 ≤ 21; omega⟩).trans (by show iI ((18 + (w 6).toNat % 4 - 18 : Nat) : Int) = _; rw [Nat.add_sub_cancel_left])
  have f4 : N (ps + 8) = iI (w 7 % 9) := ((hf 8 _ rfl).1 rfl).trans (by show iI (((w 7).toNat % 9 : Nat) : Int) = _; congr 1; omega)
  refine ⟨fun k => if k = 0 then N (ps + 4) else if k = 1 then N (ps + 9) else if k = 2 then N (ps + 9) else 0, ?_⟩
  unfold tSt
  rw [h5, f0, f1, f3, f4]
  rfl
theorem dt6 {e : List Nat} (h7 : 0 ≤ w 7) (r4 : (w 6).toNat % 4 < 4) (rn : (w 6).toNat % n < 16) (rm : (w 6).toNat % m < 16) (rp : (w 6).toNat % p < 16) (rb : (w 6).toNat % b < 16) (h5 : (w 5).toNat = 6) (hf : ∀ (q : Nat) (t : Tok), (tkT n m p b 6 (w 6).toNat (w 7).toNat e)[q]? = some t → TF N (ps + q) t) : ∃ z, [(nI 2, N (ps + 3)), (nI 56, N (ps + 5)), (nI 50, N (ps + 6)), (nI 35, N (ps + 6)), (nI 17, N (ps + 9)), (nI 56, N (ps + 11)), (nI 54, N (ps + 12)), (nI 36, N (ps + 12))] = tSt n m p b w z := by
  have f0 : N (ps + 3) = iI (((w 6).toNat % n : Nat) : Int) := ((hf 3 _ rfl).2.1 rfl).trans (by show iI (((103 * 16 + (w 6).toNat % n) % 16 : Nat) : Int) = _; rw [show (103 * 16 + (w 6).toNat % n) % 16 = (w 6).toNat % n by omega])
  have f1 : N (ps + 5) = iI (w 7 % 60) := ((hf 5 _ rfl).1 rfl).trans (by show iI (((w 7).toNat % 60 : Nat) : Int) = _; congr 1; omega)
  have f4 : N (ps + 9) = iI ((((w 6).toNat % 4) : Nat) : Int) := ((hf 9 _ rfl).2.2 ⟨by show 18 ≤ 18 + (w 6).toNat % 4; omega, by show 18 + (w 6).toNat % 4 ≤ 21; omega⟩).trans (by show iI ((18 + (w 6).toNat % 4 - 18 : Nat) : Int) = _; rw [Nat.add_sub_cancel_left])
  have f5 : N (ps + 11) = iI 1 := (hf 11 _ rfl).1 rfl
  refine ⟨fun k => if k = 0 then N (ps + 6) else if k = 1 then N (ps + 6) else if k = 2 then N (ps + 12) else if k = 3 then N (ps + 12) else 0, ?_⟩
  unfold tSt
  rw [h5, f0, f1, f4, f5]
  rfl
theorem dt7 {e : List Nat} (h7 : 0 ≤ w 7) (r4 : (w 6).toNat % 4 < 4) (rn : (w 6).toNat % n < 16) (rm : (w 6).toNat % m < 16) (rp : (w 6).toNat % p < 16) (rb : (w 6).toNat % b < 16) (h5 : (w 5).toNat = 7) (hf : ∀ (q : Nat) (t : Tok), (tkT n m p b 7 (w 6).toNat (w 7).toNat e)[q]? = some t → TF N (ps + q) t) : ∃ z, [(nI 32, N (ps + 1)), (nI 56, N (ps + 3)), (nI 53, N (ps + 4))] = tSt n m p b w z := by
  have f0 : N (ps + 1) = iI (((w 6).toNat % b : Nat) : Int) := ((hf 1 _ rfl).2.1 rfl).trans (by show iI (((98 * 16 + (w 6).toNat % b) % 16 : Nat) : Int) = _; rw [show (98 * 16 + (w 6).toNat % b) % 16 = (w 6).toNat % b by omega])
  have f1 : N (ps + 3) = iI (w 7 % 20) := ((hf 3 _ rfl).1 rfl).trans (by show iI (((w 7).toNat % 20 : Nat) : Int) = _; congr 1; omega)
  refine ⟨fun k => if k = 0 then N (ps + 4) else 0, ?_⟩
  unfold tSt
  rw [h5, f0, f1]
  rfl
theorem dt8 {e : List Nat} (h7 : 0 ≤ w 7) (r4 : (w 6).toNat % 4 < 4) (rn : (w 6).toNat % n < 16) (rm : (w 6).toNat % m < 16) (rp : (w 6).toNat % p < 16) (rb : (w 6).toNat % b < 16) (h5 : (w 5).toNat = 8) (hf : ∀ (q : Nat) (t : Tok), (tkT n m p b 8 (w 6).toNat (w 7).toNat e)[q]? = some t → TF N (ps + q) t) : ∃ z, [(nI 56, N (ps)), (nI 56, N (ps + 2)), (nI 52, N (ps + 3))] = tSt n m p b w z := by
  have f0 : N (ps) = iI 1 := (hf 0 _ rfl).1 rfl
  have f1 : N (ps + 2) = iI 1 := (hf 2 _ rfl).1 rfl
  refine ⟨fun k => if k = 0 then N (ps + 3) else 0, ?_⟩
  unfold tSt
  rw [h5, f0, f1]
  rfl
theorem dsm0 {e : List Nat} (h4 : 0 ≤ w 4) (h2 : (w 2).toNat < 4) (h5 : (w 3).toNat = 0) (hf : ∀ (q : Nat) (t : Tok), (tkS (w 2).toNat 0 (w 4).toNat e)[q]? = some t → TF N (ps + q) t) : ∃ z, [(nI 56, N (ps))] = sSt w z := by
  have f0 : N (ps) = iI (w 4 % 50) := ((hf 0 _ rfl).1 rfl).trans (by show iI (((w 4).toNat % 50 : Nat) : Int) = _; congr 1; omega)
  refine ⟨fun _ => 0, ?_⟩
  unfold sSt
  rw [h5, f0]
  rfl
theorem dsm1 {e : List Nat} (h4 : 0 ≤ w 4) (h2 : (w 2).toNat < 4) (h5 : (w 3).toNat = 1) (hf : ∀ (q : Nat) (t : Tok), (tkS (w 2).toNat 1 (w 4).toNat e)[q]? = some t → TF N (ps + q) t) : ∃ z, [(nI 31, N (ps + 1)), (nI 56, N (ps + 3)), (nI 47, N (ps + 4))] = sSt w z := by
  have f0 : N (ps + 1) = iI ((((w 2).toNat) : Nat) : Int) := ((hf 1 _ rfl).2.2 ⟨by show 18 ≤ 18 + (w 2).toNat; omega, by show 18 + (w 2).toNat ≤ 21; omega⟩).trans (by show iI ((18 + (w 2).toNat - 18 : Nat) : Int) = _; rw [Nat.add_sub_cancel_left])
  have f1 : N (ps + 3) = iI (w 4 % 7) := ((hf 3 _ rfl).1 rfl).trans (by show iI (((w 4).toNat % 7 : Nat) : Int) = _; congr 1; omega)
  refine ⟨fun k => if k = 0 then N (ps + 4) else 0, ?_⟩
  unfold sSt
  rw [h5, f0, f1]
  rfl
theorem dsm2 {e : List Nat} (h4 : 0 ≤ w 4) (h2 : (w 2).toNat < 4) (h5 : (w 3).toNat = 2) (hf : ∀ (q : Nat) (t : Tok), (tkS (w 2).toNat 2 (w 4).toNat e)[q]? = some t → TF N (ps + q) t) : ∃ z, [(nI 31, N (ps + 3)), (nI 56, N (ps + 5)), (nI 49, N (ps + 6)), (nI 56, N (ps + 7)), (nI 39, N (ps + 9))] = sSt w z := by
  have f0 : N (ps + 3) = iI ((((w 2).toNat) : Nat) : Int) := ((hf 3 _ rfl).2.2 ⟨by show 18 ≤ 18 + (w 2).toNat; omega, by show 18 + (w 2).toNat ≤ 21; omega⟩).trans (by show iI ((18 + (w 2).toNat - 18 : Nat) : Int) = _; rw [Nat.add_sub_cancel_left])
  have f1 : N (ps + 5) = iI 2 := (hf 5 _ rfl).1 rfl
  have f3 : N (ps + 7) = iI (w 4 % 9) := ((hf 7 _ rfl).1 rfl).trans (by show iI (((w 4).toNat % 9 : Nat) : Int) = _; congr 1; omega)
  refine ⟨fun k => if k = 0 then N (ps + 6) else if k = 1 then N (ps + 9) else 0, ?_⟩
  unfold sSt
  rw [h5, f0, f1, f3]
  rfl
theorem dsm3 {e : List Nat} (h4 : 0 ≤ w 4) (h2 : (w 2).toNat < 4) (h5 : (w 3).toNat = 3) (hf : ∀ (q : Nat) (t : Tok), (tkS (w 2).toNat 3 (w 4).toNat e)[q]? = some t → TF N (ps + q) t) : ∃ z, [(nI 17, N (ps + 1)), (nI 56, N (ps + 3)), (nI 48, N (ps + 4)), (nI 56, N (ps + 5)), (nI 46, N (ps + 6))] = sSt w z := by
  have f0 : N (ps + 1) = iI ((((w 2).toNat) : Nat) : Int) := ((hf 1 _ rfl).2.2 ⟨by show 18 ≤ 18 + (w 2).toNat; omega, by show 18 + (w 2).toNat ≤ 21; omega⟩).trans (by show iI ((18 + (w 2).toNat - 18 : Nat) : Int) = _; rw [Nat.add_sub_cancel_left])
  have f1 : N (ps + 3) = iI 2 := (hf 3 _ rfl).1 rfl
  have f3 : N (ps + 5) = iI (w 4 % 5) := ((hf 5 _ rfl).1 rfl).trans (by show iI (((w 4).toNat % 5 : Nat) : Int) = _; congr 1; omega)
  refine ⟨fun k => if k = 0 then N (ps + 4) else if k = 1 then N (ps + 6) else 0, ?_⟩
  unfold sSt
  rw [h5, f0, f1, f3]
  rfl
theorem dT_t {e : List Nat} (hNm : Nm n m p b) (hW : Wk n m p b w) (hf : ∀ (q : Nat) (t : Tok), (tkT n m p b (w 5).toNat (w 6).toNat (w 7).toNat e)[q]? = some t → TF N (ps + q) t) : ∃ z, (dT (w 5).toNat ps).map (fd N) = tSt n m p b w z := by
  unfold Nm at hNm
  unfold Wk at hW
  have h7 : 0 ≤ w 7 := by omega
  have r4 : (w 6).toNat % 4 < 4 := Nat.mod_lt _ (by decide)
  have rn : (w 6).toNat % n < 16 := by have := Nat.mod_lt (w 6).toNat (show n > 0 by omega); omega
  have rm : (w 6).toNat % m < 16 := by have := Nat.mod_lt (w 6).toNat (show m > 0 by omega); omega
  have rp : (w 6).toNat % p < 16 := by have := Nat.mod_lt (w 6).toNat (show p > 0 by omega); omega
  have rb : (w 6).toNat % b < 16 := by have := Nat.mod_lt (w 6).toNat (show b > 0 by omega); omega
  have h5 : (w 5).toNat < 9 := by omega
  generalize e5 : (w 5).toNat = k at *
  rcases (show k = 0 ∨ k = 1 ∨ k = 2 ∨ k = 3 ∨ k = 4 ∨ k = 5 ∨ k = 6 ∨ k = 7 ∨ k = 8 by omega) with rfl | rfl | rfl | rfl | rfl | rfl | rfl | rfl | rfl
  · exact dt0 h7 r4 rn rm rp rb e5 hf
  · exact dt1 h7 r4 rn rm rp rb e5 hf
  · exact dt2 h7 r4 rn rm rp rb e5 hf
  · exact dt3 h7 r4 rn rm rp rb e5 hf
  · exact dt4 h7 r4 rn rm rp rb e5 hf
  · exact dt5 h7 r4 rn rm rp rb e5 hf
  · exact dt6 h7 r4 rn rm rp rb e5 hf
  · exact dt7 h7 r4 rn rm rp rb e5 hf
  · exact dt8 h7 r4 rn rm rp rb e5 hf
theorem dS_s {e : List Nat} (hW : Wk n m p b w) (hf : ∀ (q : Nat) (t : Tok), (tkS (w 2).toNat (w 3).toNat (w 4).toNat e)[q]? = some t → TF N (ps + q) t) : ∃ z, (dS (w 3).toNat ps).map (fd N) = sSt w z := by
  unfold Wk at hW
  have h4 : 0 ≤ w 4 := by omega
  have h2 : (w 2).toNat < 4 := by omega
  have h3 : (w 3).toNat < 4 := by omega
  generalize e3 : (w 3).toNat = k at *
  rcases (show k = 0 ∨ k = 1 ∨ k = 2 ∨ k = 3 by omega) with rfl | rfl | rfl | rfl
  · exact dsm0 h4 h2 e3 hf
  · exact dsm1 h4 h2 e3 hf
  · exact dsm2 h4 h2 e3 hf
  · exact dsm3 h4 h2 e3 hf
end

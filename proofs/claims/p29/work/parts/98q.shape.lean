/-! 98q L3: the shape of the whole text's tokens -/
def SV (ts : List Tok) : Prop := shp ts = true ∧ ∀ t ∈ ts, okt t.1 t.2.1
theorem SV.nil : SV [] := ⟨rfl, fun t ht => absurd ht (by intro q; cases q)⟩
theorem shp_app : ∀ {a b : List Tok}, shp a = true → shp b = true → shp (a ++ b) = true := by
  intro a
  induction a with
  | nil => intro b _ h; exact h
  | cons t ts ih =>
    intro b h1 h2
    unfold shp at h1
    rw [Bool.and_eq_true, Bool.and_eq_true, Bool.or_eq_true] at h1
    obtain ⟨⟨s1, s2⟩, s3⟩ := h1
    rw [List.cons_append]
    unfold shp
    rw [Bool.and_eq_true, Bool.and_eq_true, Bool.or_eq_true]
    refine ⟨⟨s1, ?_⟩, ih s3 h2⟩
    rcases s2 with s2 | s2
    · exact Or.inl s2
    · cases ts with
      | nil => exact absurd (show false = true from s2) (by decide)
      | cons u us => exact Or.inr s2
theorem SV.app {a b : List Tok} (h1 : SV a) (h2 : SV b) : SV (a ++ b) := ⟨shp_app h1.1 h2.1, fun t ht => by
  rcases List.mem_append.mp ht with q | q
  · exact h1.2 t q
  · exact h2.2 t q⟩
theorem SV.ln {f : Nat → List Tok} : ∀ {N : Nat}, (∀ i, i < N → SV (f i)) → SV (lnS f N) := by
  intro N
  induction N with
  | zero => intro _; exact SV.nil
  | succ k ih => intro h; exact (ih fun i hi => h i (by omega)).app (h k (by omega))
def alk : List Tok → Prop
  | [] => True
  | t :: ts => okt t.1 t.2.1 ∧ alk ts
theorem alk_m : ∀ {ts : List Tok}, alk ts → ∀ t ∈ ts, okt t.1 t.2.1 := by
  intro ts
  induction ts with
  | nil => intro _ t ht; cases ht
  | cons u us ih =>
    intro h t ht
    rcases List.mem_cons.mp ht with rfl | q
    · exact h.1
    · exact ih h.2 t q
theorem SV.mk' {ts : List Tok} (h1 : shp ts = true) (h2 : alk ts) : SV ts := ⟨h1, alk_m h2⟩
theorem ok_k {k v : Nat} (h1 : 1 ≤ k) (h2 : k ≤ 54) : okt k v := Or.inl ⟨h1, h2⟩
theorem ok_n {l d : Nat} (h1 : l = 103 ∨ l = 114 ∨ l = 112 ∨ l = 98) (h2 : d < 10) : okt 55 (l * 16 + d) := Or.inr (Or.inl ⟨rfl, by omega, by omega⟩)
theorem ok_v {v : Nat} (h : v < 1000) : okt 56 v := Or.inr (Or.inr ⟨rfl, h⟩)
theorem svG {k v0 v1 v2 : Nat} (h : k < 10) (h0 : v0 < 1000) (h1 : v1 < 1000) (h2 : v2 < 1000) : SV (tkG k v0 v1 v2) := SV.mk' rfl ⟨ok_k (by decide) (by decide), ok_n (by omega) h, ok_k (by decide) (by decide), ok_v h0, ok_k (by decide) (by decide), ok_v h1, ok_k (by decide) (by decide), ok_v h2, ok_k (by decide) (by decide), trivial⟩
theorem svR {k v : Nat} (h : k < 10) (h0 : v < 1000) : SV (tkR k v) := SV.mk' rfl ⟨ok_k (by decide) (by decide), ok_n (by omega) h, ok_k (by decide) (by decide), ok_v h0, ok_k (by decide) (by decide), trivial⟩
theorem svP {k a r s : Nat} (h : k < 10) (h0 : a < 10) (h1 : r < 10) (h2 : s < 1000) : SV (tkP k a r s) := SV.mk' rfl ⟨ok_k (by decide) (by decide), ok_n (by omega) h, ok_k (by decide) (by decide), ok_n (by omega) h0, ok_k (by decide) (by decide), ok_n (by omega) h1, ok_k (by decide) (by decide), ok_v h2, ok_k (by decide) (by decide), trivial⟩
theorem svB {k v s : Nat} (h : k < 10) (h0 : v < 1000) (h1 : s < 1000) : SV (tkB k v s) := SV.mk' rfl ⟨ok_k (by decide) (by decide), ok_n (by omega) h, ok_k (by decide) (by decide), ok_v h0, ok_k (by decide) (by decide), ok_v h1, ok_k (by decide) (by decide), trivial⟩
theorem svV {r c : Nat} (h0 : r < 1000) (h1 : c < 1000) : SV (tkV r c) := SV.mk' rfl ⟨ok_k (by decide) (by decide), ok_v (by decide), ok_k (by decide) (by decide), ok_v (by decide), ok_k (by decide) (by decide), ok_k (by decide) (by decide), ok_v h0, ok_k (by decide) (by decide), ok_v h1, ok_k (by decide) (by decide), trivial⟩
theorem svH {k v : Nat} (h0 : k < 1000) (h1 : v < 1000) : SV (tkH k v) := SV.mk' rfl ⟨ok_k (by decide) (by decide), ok_v h0, ok_k (by decide) (by decide), ok_v h1, ok_k (by decide) (by decide), trivial⟩
theorem svC {k v : Nat} (h0 : k < 4) (h1 : v < 1000) : SV (tkC k v) := by
  refine SV.mk' ?_ ⟨ok_k (by decide) (by decide), ok_k (by omega) (by omega), ok_v h1, ok_k (by decide) (by decide), trivial⟩
  rcases (show k = 0 ∨ k = 1 ∨ k = 2 ∨ k = 3 by omega) with rfl | rfl | rfl | rfl <;> rfl
theorem svS {w2 w3 w4 : Nat} (h : w2 < 4) : SV (tkS w2 w3 w4 [32]) := by
  unfold tkS
  split
  · exact SV.mk' rfl ⟨ok_v (by first | omega | (dsimp only; omega)), trivial⟩
  · split
    · refine SV.mk' ?_ ⟨ok_k (by decide) (by decide), ok_k (by omega) (by omega), ok_k (by decide) (by decide), ok_v (by first | omega | (dsimp only; omega)), trivial⟩
      rcases (show w2 = 0 ∨ w2 = 1 ∨ w2 = 2 ∨ w2 = 3 by omega) with rfl | rfl | rfl | rfl <;> rfl
    · split
      · refine SV.mk' ?_ ⟨ok_k (by decide) (by decide), ok_k (by decide) (by decide), ok_k (by decide) (by decide), ok_k (by omega) (by omega), ok_k (by decide) (by decide), ok_v (by decide), ok_k (by decide) (by decide), ok_v (by first | omega | (dsimp only; omega)), ok_k (by decide) (by decide), trivial⟩
        rcases (show w2 = 0 ∨ w2 = 1 ∨ w2 = 2 ∨ w2 = 3 by omega) with rfl | rfl | rfl | rfl <;> rfl
      · refine SV.mk' ?_ ⟨ok_k (by decide) (by decide), ok_k (by omega) (by omega), ok_k (by decide) (by decide), ok_v (by decide), ok_k (by decide) (by decide), ok_v (by first | omega | (dsimp only; omega)), trivial⟩
        rcases (show w2 = 0 ∨ w2 = 1 ∨ w2 = 2 ∨ w2 = 3 by omega) with rfl | rfl | rfl | rfl <;> rfl
theorem svT {n m p b w5 w6 w7 : Nat} (hn : 1 ≤ n ∧ n < 10) (hm : 1 ≤ m ∧ m < 10) (hp : 1 ≤ p ∧ p < 10) (hb : 1 ≤ b ∧ b < 10) (h7 : w7 < 1000) : SV (tkT n m p b w5 w6 w7 [] ++ [(44, 0, [32])]) := by
  have r4 : w6 % 4 < 4 := Nat.mod_lt _ (by decide)
  have rn : w6 % n < 10 := by have := Nat.mod_lt w6 (show n > 0 by omega); omega
  have rm : w6 % m < 10 := by have := Nat.mod_lt w6 (show m > 0 by omega); omega
  have rp : w6 % p < 10 := by have := Nat.mod_lt w6 (show p > 0 by omega); omega
  have rb : w6 % b < 10 := by have := Nat.mod_lt w6 (show b > 0 by omega); omega
  unfold tkT
  generalize w6 % n = xn at *
  generalize w6 % m = xm at *
  generalize w6 % p = xp at *
  generalize w6 % b = xb at *
  generalize w6 % 4 = x4 at *
  split
  · exact SV.mk' rfl ⟨ok_k (by decide) (by decide), ok_k (by decide) (by decide), ok_v (by first | omega | (dsimp only; omega)), ok_k (by decide) (by decide), trivial⟩
  split
  · exact SV.mk' rfl ⟨ok_k (by decide) (by decide), ok_n (by omega) rp, ok_k (by decide) (by decide), ok_v (by first | omega | (dsimp only; omega)), ok_k (by decide) (by decide), trivial⟩
  split
  · exact SV.mk' rfl ⟨ok_k (by decide) (by decide), ok_n (by omega) rp, ok_k (by decide) (by decide), trivial⟩
  split
  · exact SV.mk' rfl ⟨ok_k (by decide) (by decide), ok_k (by decide) (by decide), ok_n (by omega) rb, ok_k (by decide) (by decide), trivial⟩
  split
  · exact SV.mk' rfl ⟨ok_k (by decide) (by decide), ok_k (by decide) (by decide), ok_v (by first | omega | (dsimp only; omega)), ok_k (by decide) (by decide), ok_v (by first | omega | (dsimp only; omega)), ok_k (by decide) (by decide), trivial⟩
  split
  · refine SV.mk' ?_ ⟨ok_k (by decide) (by decide), ok_n (by omega) rm, ok_k (by decide) (by decide), ok_v (by first | omega | (dsimp only; omega)), ok_k (by decide) (by decide), ok_k (by decide) (by decide), ok_k (by omega) (by omega), ok_k (by decide) (by decide), ok_v (by first | omega | (dsimp only; omega)), ok_k (by decide) (by decide), trivial⟩
    rcases (show x4 = 0 ∨ x4 = 1 ∨ x4 = 2 ∨ x4 = 3 by omega) with rfl | rfl | rfl | rfl <;> rfl
  split
  · refine SV.mk' ?_ ⟨ok_k (by decide) (by decide), ok_k (by decide) (by decide), ok_k (by decide) (by decide), ok_n (by omega) rn, ok_k (by decide) (by decide), ok_v (by first | omega | (dsimp only; omega)), ok_k (by decide) (by decide), ok_k (by decide) (by decide), ok_k (by decide) (by decide), ok_k (by omega) (by omega), ok_k (by decide) (by decide), ok_v (by first | omega | (dsimp only; omega)), ok_k (by decide) (by decide), trivial⟩
    rcases (show x4 = 0 ∨ x4 = 1 ∨ x4 = 2 ∨ x4 = 3 by omega) with rfl | rfl | rfl | rfl <;> rfl
  split
  · exact SV.mk' rfl ⟨ok_k (by decide) (by decide), ok_n (by omega) rb, ok_k (by decide) (by decide), ok_v (by first | omega | (dsimp only; omega)), ok_k (by decide) (by decide), trivial⟩
  · exact SV.mk' rfl ⟨ok_v (by first | omega | (dsimp only; omega)), ok_k (by decide) (by decide), ok_v (by first | omega | (dsimp only; omega)), ok_k (by decide) (by decide), trivial⟩
theorem svW {n m p b w5 w6 w7 : Nat} (hn : 1 ≤ n ∧ n < 10) (hm : 1 ≤ m ∧ m < 10) (hp : 1 ≤ p ∧ p < 10) (hb : 1 ≤ b ∧ b < 10) (h7 : w7 < 1000) : SV (tkW n m p b w5 w6 w7 ++ [(44, 0, [32])]) := by
  have a : SV [(26, 0, [32])] := SV.mk' rfl ⟨ok_k (by decide) (by decide), trivial⟩
  exact a.app (svT hn hm hp hb h7)
theorem svO {n m p b : Nat} {w : Nat → Int} (hNm : Nm n m p b) (hW : Wk n m p b w) : SV (tkO n m p b w) := by
  unfold Nm at hNm
  unfold Wk at hW
  have sW : SV (tkW n m p b (w 5).toNat (w 6).toNat (w 7).toNat ++ [(44, 0, [32])]) := svW (by omega) (by omega) (by omega) (by omega) (by omega)
  have e44 : SV [(44, 0, [32])] := SV.mk' rfl ⟨ok_k (by decide) (by decide), trivial⟩
  have w2 : (w 2).toNat < 4 := by omega
  unfold tkO
  split
  · rename_i c1
    have a : SV [(23, 0, [32]), (55, 98 * 16 + (w 1).toNat, [32])] := SV.mk' rfl ⟨ok_k (by decide) (by decide), ok_n (by omega) (by have := hW.2.1.2.1 c1; omega), trivial⟩
    have a2 : SV [(24, 0, [32])] := SV.mk' rfl ⟨ok_k (by decide) (by decide), trivial⟩
    have a3 : SV [(8, 0, [32])] := SV.mk' rfl ⟨ok_k (by decide) (by decide), trivial⟩
    refine (a.app a2).app ((svS w2).app (a3.app ?_))
    by_cases c : w 5 < 8
    · rw [if_pos c, if_pos c]
      have a4 : SV [(18 + (w 2).toNat, 0, [32])] := by
        refine SV.mk' ?_ ⟨ok_k (by omega) (by omega), trivial⟩
        generalize (w 2).toNat = x at *
        rcases (show x = 0 ∨ x = 1 ∨ x = 2 ∨ x = 3 by omega) with rfl | rfl | rfl | rfl <;> rfl
      exact a4.app sW
    · rw [if_neg c, if_neg c]
      show SV [(18 + (w 2).toNat, 0, []), (44, 0, [32])]
      refine SV.mk' ?_ ⟨ok_k (by omega) (by omega), ok_k (by decide) (by decide), trivial⟩
      generalize (w 2).toNat = x at *
      rcases (show x = 0 ∨ x = 1 ∨ x = 2 ∨ x = 3 by omega) with rfl | rfl | rfl | rfl <;> rfl
  · rename_i c1
    have c2 := hW.2.1.2.2 c1
    by_cases c0 : w 0 = 0
    · rw [if_pos c0]
      have a : SV [(22, 0, [32]), (55, 112 * 16 + (w 1).toNat, [32])] := SV.mk' rfl ⟨ok_k (by decide) (by decide), ok_n (by omega) (by omega), trivial⟩
      exact a.app sW
    · rw [if_neg c0]
      have a : SV [(25, 0, [32]), (55, 112 * 16 + (w 1).toNat, [32])] := SV.mk' rfl ⟨ok_k (by decide) (by decide), ok_n (by omega) (by omega), trivial⟩
      exact a.app sW
theorem svAll {n m p b no : Nat} {T C Pb : Int} {O : Nat → Nat → Int} {g : GM} (hNm : Nm n m p b) (hv : Iv n m p b T C Pb g) (hW : ∀ i, i < no → Wk n m p b (O i)) : SV (tkAll n m p b no O g) := by
  obtain ⟨v1, v2, v3, v4, v5, v6, v7, v8⟩ := hv
  have hN' := hNm
  unfold Nm at hN'
  unfold tkAll
  refine (SV.ln fun i hi => ?_).app ((SV.ln fun i hi => ?_).app ((SV.ln fun i hi => ?_).app ((SV.ln fun i hi => ?_).app (SV.app ?_ ((SV.ln fun i hi => ?_).app ((SV.ln fun i hi => ?_).app (SV.ln fun i hi => svO hNm (hW i hi))))))))
  · have q := v3 i hi
    exact svG (by omega) (by omega) (by omega) (by omega)
  · have q := v4 i hi
    unfold IvR1 at q
    exact svR (by omega) (by omega)
  · have q := v5 i hi
    exact svP (by omega) (by omega) (by omega) (by omega)
  · have q1 := (v6 i hi).2.1
    have q2 := (v6 i hi).2.2.2.1
    exact svB (by omega) (by omega) (by omega)
  · unfold tkVs
    split
    · exact SV.nil
    · unfold IvSc at v1
      exact svV (by omega) (by omega)
  · unfold tkHs
    split
    · exact SV.nil
    · have q := v2 i hi
      exact svH (by omega) (by omega)
  · unfold tkCs
    split
    · exact SV.nil
    · have q := v7 i hi
      exact svC hi (by omega)

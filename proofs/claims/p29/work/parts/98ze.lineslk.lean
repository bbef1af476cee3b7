/-! 98ze L3: lines looked at (written by l3/gen98ze.py) -/
def Seg (ts : List Tok) (P : Nat) (l : List Tok) : Prop := ∀ (q : Nat) (t : Tok), l[q]? = some t → ts[P + q]? = some t
theorem Seg.left {ts : List Tok} {P : Nat} {a b : List Tok} (s : Seg ts P (a ++ b)) : Seg ts P a := fun q t h => by
  have hq : q < a.length := by
    rcases Nat.lt_or_ge q a.length with c | c
    · exact c
    · rw [List.getElem?_eq_none c] at h; cases h
  exact s q t (by rw [List.getElem?_append_left hq]; exact h)
theorem Seg.right {ts : List Tok} {P : Nat} {a b : List Tok} (s : Seg ts P (a ++ b)) : Seg ts (P + a.length) b := fun q t h => by
  rw [Nat.add_assoc]
  exact s _ t (by rw [List.getElem?_append_right (by omega), Nat.add_sub_cancel_left]; exact h)
theorem Seg.all (ts : List Tok) : Seg ts 0 ts := fun q t h => by rw [Nat.zero_add]; exact h
section
variable {ts : List Tok} {L0 : Nat} {M : GM} {P : Nat}
def mG (x v0 v1 v2 : Nat) (M : GM) : GM := up2 (up2 (up2 (mA0 x M) (7 + x) 0 (v0 : Int)) (7 + x) 1 (v1 : Int)) (7 + x) 2 (v2 : Int)
def mR (x v : Nat) (M : GM) : GM := up2 (mA1 x M) (11 + 5 * x) 0 (v : Int)
def mP (x a r s : Nat) (M : GM) : GM := up2 (up2 (up2 (mA2 x M) (31 + x) 0 (a : Int)) (31 + x) 1 (r : Int)) (31 + x) 2 (s : Int)
def mB (x v s : Nat) (M : GM) : GM := up2 (up2 (mA3 x M) (39 + x) 0 (v : Int)) (39 + x) 1 (s : Int)
def mV (r c : Nat) (M : GM) : GM := up2 (up2 (up2 (up2 M 0 13 ((7 : Nat) : Int)) 0 14 ((5 : Nat) : Int)) 0 13 (r : Int)) 0 14 (c : Int)
def mH (k v : Nat) (M : GM) : GM := up2 M 6 k (v : Int)
def mC (k v : Nat) (M : GM) : GM := up2 M (43 + k) 1 (v : Int)
theorem nlG {x v0 v1 v2 : Nat} (s : Seg ts P (tkG x v0 v1 v2)) (hx : M 0 6 = (x : Int)) (hx2 : x < 4) (hL : P + 9 ≤ L0) (h0 : v0 ≤ 99) (h1 : v1 ≤ 20) (h2 : 1 ≤ v2) (h3 : v2 ≤ 9) : NL ts L0 M P 9 (mG x v0 v1 v2 M) := by
  have a0 := NL.one (L0 := L0) (M := M) (s 0 _ rfl) (by decide) (laSkip (s 0 _ rfl) ⟨by decide, by decide, by decide, by decide, by decide⟩)
  have a1 := NL.one (L0 := L0) (M := M) (s 1 _ rfl) (show (55 : Nat) < 57 by decide) (laA1 (s 1 _ rfl) rfl (s 0 _ rfl) rfl rfl rfl hx hx2 (by omega))
  have a2 := NL.one (L0 := L0) (M := (mA0 x M)) (s 2 _ rfl) (by decide) (laSkip (s 2 _ rfl) ⟨by decide, by decide, by decide, by decide, by decide⟩)
  have a3 := NL.one (L0 := L0) (M := (mA0 x M)) (s 3 _ rfl) (show (56 : Nat) < 57 by decide) (laN2 (x := x) (by simp (disch := omega) only [mA0, mA1, mA2, mA3, up2_e, up2_n]) hx2 (s 3 _ rfl) rfl (s 2 _ rfl) rfl rfl (Nat.zero_le _) h0)
  have a4 := NL.one (L0 := L0) (M := (up2 (mA0 x M) (7 + x) 0 (v0 : Int))) (s 4 _ rfl) (by decide) (laSkip (s 4 _ rfl) ⟨by decide, by decide, by decide, by decide, by decide⟩)
  have a5 := NL.one (L0 := L0) (M := (up2 (mA0 x M) (7 + x) 0 (v0 : Int))) (s 5 _ rfl) (show (56 : Nat) < 57 by decide) (laN3 (x := x) (by simp (disch := omega) only [mA0, mA1, mA2, mA3, up2_e, up2_n]) hx2 (s 5 _ rfl) rfl (s 4 _ rfl) rfl rfl (Nat.zero_le _) h1)
  have a6 := NL.one (L0 := L0) (M := (up2 (up2 (mA0 x M) (7 + x) 0 (v0 : Int)) (7 + x) 1 (v1 : Int))) (s 6 _ rfl) (by decide) (laSkip (s 6 _ rfl) ⟨by decide, by decide, by decide, by decide, by decide⟩)
  have a7 := NL.one (L0 := L0) (M := (up2 (up2 (mA0 x M) (7 + x) 0 (v0 : Int)) (7 + x) 1 (v1 : Int))) (s 7 _ rfl) (show (56 : Nat) < 57 by decide) (laN4 (x := x) (by simp (disch := omega) only [mA0, mA1, mA2, mA3, up2_e, up2_n]) hx2 (s 7 _ rfl) rfl (s 6 _ rfl) rfl rfl h2 h3)
  have a8 := NL.one (L0 := L0) (M := (up2 (up2 (up2 (mA0 x M) (7 + x) 0 (v0 : Int)) (7 + x) 1 (v1 : Int)) (7 + x) 2 (v2 : Int))) (s 8 _ rfl) (by decide) (laSkip (s 8 _ rfl) ⟨by decide, by decide, by decide, by decide, by decide⟩)
  exact ((((((((a0.trans a1).trans a2).trans a3).trans a4).trans a5).trans a6).trans a7).trans a8)
theorem nlR {x v : Nat} (s : Seg ts P (tkR x v)) (hx : M 0 7 = (x : Int)) (hx2 : x < 4) (hL : P + 5 ≤ L0) (h0 : 1 ≤ v) (h1 : v ≤ 60) : NL ts L0 M P 5 (mR x v M) := by
  have a0 := NL.one (L0 := L0) (M := M) (s 0 _ rfl) (by decide) (laSkip (s 0 _ rfl) ⟨by decide, by decide, by decide, by decide, by decide⟩)
  have a1 := NL.one (L0 := L0) (M := M) (s 1 _ rfl) (show (55 : Nat) < 57 by decide) (laA5 (s 1 _ rfl) rfl (s 0 _ rfl) rfl rfl rfl hx hx2 (by omega))
  have a2 := NL.one (L0 := L0) (M := (mA1 x M)) (s 2 _ rfl) (by decide) (laSkip (s 2 _ rfl) ⟨by decide, by decide, by decide, by decide, by decide⟩)
  have a3 := NL.one (L0 := L0) (M := (mA1 x M)) (s 3 _ rfl) (show (56 : Nat) < 57 by decide) (laN6R (x := x) (by simp (disch := omega) only [mA0, mA1, mA2, mA3, up2_e, up2_n]) hx2 (s 3 _ rfl) rfl (s 2 _ rfl) rfl (s 0 _ rfl) rfl rfl rfl h0 h1)
  have a4 := NL.one (L0 := L0) (M := (up2 (mA1 x M) (11 + 5 * x) 0 (v : Int))) (s 4 _ rfl) (by decide) (laSkip (s 4 _ rfl) ⟨by decide, by decide, by decide, by decide, by decide⟩)
  exact ((((a0.trans a1).trans a2).trans a3).trans a4)
theorem nlP {x a r t : Nat} (s : Seg ts P (tkP x a r t)) {n m : Nat} (hx : M 0 8 = (x : Int)) (hx2 : x < 8) (hn : M 0 6 = (n : Int)) (hm : M 0 7 = (m : Int)) (ha : a < n) (hr : r < m) (ha2 : a < 16) (hr2 : r < 16) (hL : P + 9 ≤ L0) (h0 : 1 ≤ t) (h1 : t ≤ 9) : NL ts L0 M P 9 (mP x a r t M) := by
  have a0 := NL.one (L0 := L0) (M := M) (s 0 _ rfl) (by decide) (laSkip (s 0 _ rfl) ⟨by decide, by decide, by decide, by decide, by decide⟩)
  have a1 := NL.one (L0 := L0) (M := M) (s 1 _ rfl) (show (55 : Nat) < 57 by decide) (laA7 (s 1 _ rfl) rfl (s 0 _ rfl) rfl rfl rfl hx hx2 (by omega))
  have a2 := NL.one (L0 := L0) (M := (mA2 x M)) (s 2 _ rfl) (by decide) (laSkip (s 2 _ rfl) ⟨by decide, by decide, by decide, by decide, by decide⟩)
  have a3 := NL.one (L0 := L0) (M := (mA2 x M)) (s 3 _ rfl) (show (55 : Nat) < 57 by decide) (laP8 (x := n) (y := x) (s 3 _ rfl) rfl (s 2 _ rfl) rfl rfl rfl (Eq.trans (by simp (disch := omega) only [mA0, mA1, mA2, mA3, up2_e, up2_n]) hn) ha ha2 (by simp (disch := omega) only [mA0, mA1, mA2, mA3, up2_e, up2_n]) hx2)
  have a4 := NL.one (L0 := L0) (M := (up2 (mA2 x M) (31 + x) 0 (a : Int))) (s 4 _ rfl) (by decide) (laSkip (s 4 _ rfl) ⟨by decide, by decide, by decide, by decide, by decide⟩)
  have a5 := NL.one (L0 := L0) (M := (up2 (mA2 x M) (31 + x) 0 (a : Int))) (s 5 _ rfl) (show (55 : Nat) < 57 by decide) (laP9 (x := m) (y := x) (s 5 _ rfl) rfl (s 4 _ rfl) rfl rfl rfl (Eq.trans (by simp (disch := omega) only [mA0, mA1, mA2, mA3, up2_e, up2_n]) hm) hr hr2 (by simp (disch := omega) only [mA0, mA1, mA2, mA3, up2_e, up2_n]) hx2)
  have a6 := NL.one (L0 := L0) (M := (up2 (up2 (mA2 x M) (31 + x) 0 (a : Int)) (31 + x) 1 (r : Int))) (s 6 _ rfl) (by decide) (laSkip (s 6 _ rfl) ⟨by decide, by decide, by decide, by decide, by decide⟩)
  have a7 := NL.one (L0 := L0) (M := (up2 (up2 (mA2 x M) (31 + x) 0 (a : Int)) (31 + x) 1 (r : Int))) (s 7 _ rfl) (show (56 : Nat) < 57 by decide) (laN10 (x := x) (by simp (disch := omega) only [mA0, mA1, mA2, mA3, up2_e, up2_n]) hx2 (s 7 _ rfl) rfl (s 6 _ rfl) rfl rfl h0 h1)
  have a8 := NL.one (L0 := L0) (M := (up2 (up2 (up2 (mA2 x M) (31 + x) 0 (a : Int)) (31 + x) 1 (r : Int)) (31 + x) 2 (t : Int))) (s 8 _ rfl) (by decide) (laSkip (s 8 _ rfl) ⟨by decide, by decide, by decide, by decide, by decide⟩)
  exact ((((((((a0.trans a1).trans a2).trans a3).trans a4).trans a5).trans a6).trans a7).trans a8)
theorem nlB {x v t : Nat} (s : Seg ts P (tkB x v t)) (hx : M 0 9 = (x : Int)) (hx2 : x < 4) (hL : P + 7 ≤ L0) (h0 : 1 ≤ v) (h1 : v ≤ 40) (h2 : 1 ≤ t) (h3 : t ≤ 9) : NL ts L0 M P 7 (mB x v t M) := by
  have a0 := NL.one (L0 := L0) (M := M) (s 0 _ rfl) (by decide) (laSkip (s 0 _ rfl) ⟨by decide, by decide, by decide, by decide, by decide⟩)
  have a1 := NL.one (L0 := L0) (M := M) (s 1 _ rfl) (show (55 : Nat) < 57 by decide) (laA11 (s 1 _ rfl) rfl (s 0 _ rfl) rfl rfl rfl hx hx2 (by omega))
  have a2 := NL.one (L0 := L0) (M := (mA3 x M)) (s 2 _ rfl) (by decide) (laSkip (s 2 _ rfl) ⟨by decide, by decide, by decide, by decide, by decide⟩)
  have a3 := NL.one (L0 := L0) (M := (mA3 x M)) (s 3 _ rfl) (show (56 : Nat) < 57 by decide) (laN6B (x := x) (by simp (disch := omega) only [mA0, mA1, mA2, mA3, up2_e, up2_n]) hx2 (s 3 _ rfl) rfl (s 2 _ rfl) rfl (s 0 _ rfl) rfl rfl rfl h0 h1)
  have a4 := NL.one (L0 := L0) (M := (up2 (mA3 x M) (39 + x) 0 (v : Int))) (s 4 _ rfl) (by decide) (laSkip (s 4 _ rfl) ⟨by decide, by decide, by decide, by decide, by decide⟩)
  have a5 := NL.one (L0 := L0) (M := (up2 (mA3 x M) (39 + x) 0 (v : Int))) (s 5 _ rfl) (show (56 : Nat) < 57 by decide) (laN12 (x := x) (by simp (disch := omega) only [mA0, mA1, mA2, mA3, up2_e, up2_n]) hx2 (s 5 _ rfl) rfl (s 4 _ rfl) rfl rfl h2 h3)
  have a6 := NL.one (L0 := L0) (M := (up2 (up2 (mA3 x M) (39 + x) 0 (v : Int)) (39 + x) 1 (t : Int))) (s 6 _ rfl) (by decide) (laSkip (s 6 _ rfl) ⟨by decide, by decide, by decide, by decide, by decide⟩)
  exact ((((((a0.trans a1).trans a2).trans a3).trans a4).trans a5).trans a6)
theorem nlV {r c : Nat} (s : Seg ts P (tkV r c)) (h0 : 1 ≤ r) (h1 : r ≤ 60) (h3 : c ≤ 5) : NL ts L0 M P 10 (mV r c M) := by
  have a0 := NL.one (L0 := L0) (M := M) (s 0 _ rfl) (by decide) (laSkip (s 0 _ rfl) ⟨by decide, by decide, by decide, by decide, by decide⟩)
  have a1 := NL.one (L0 := L0) (M := M) (s 1 _ rfl) (show (56 : Nat) < 57 by decide) (laN13 (s 1 _ rfl) rfl (s 0 _ rfl) rfl rfl (by decide) (by decide))
  have a2 := NL.one (L0 := L0) (M := (up2 M 0 13 ((7 : Nat) : Int))) (s 2 _ rfl) (by decide) (laSkip (s 2 _ rfl) ⟨by decide, by decide, by decide, by decide, by decide⟩)
  have a3 := NL.one (L0 := L0) (M := (up2 M 0 13 ((7 : Nat) : Int))) (s 3 _ rfl) (show (56 : Nat) < 57 by decide) (laN14 (s 3 _ rfl) rfl (s 2 _ rfl) rfl rfl (by decide) (by decide))
  have a4 := NL.one (L0 := L0) (M := (up2 (up2 M 0 13 ((7 : Nat) : Int)) 0 14 ((5 : Nat) : Int))) (s 4 _ rfl) (by decide) (laSkip (s 4 _ rfl) ⟨by decide, by decide, by decide, by decide, by decide⟩)
  have a5 := NL.one (L0 := L0) (M := (up2 (up2 M 0 13 ((7 : Nat) : Int)) 0 14 ((5 : Nat) : Int))) (s 5 _ rfl) (by decide) (laSkip (s 5 _ rfl) ⟨by decide, by decide, by decide, by decide, by decide⟩)
  have a6 := NL.one (L0 := L0) (M := (up2 (up2 M 0 13 ((7 : Nat) : Int)) 0 14 ((5 : Nat) : Int))) (s 6 _ rfl) (show (56 : Nat) < 57 by decide) (laN13 (s 6 _ rfl) rfl (s 5 _ rfl) rfl rfl h0 h1)
  have a7 := NL.one (L0 := L0) (M := (up2 (up2 (up2 M 0 13 ((7 : Nat) : Int)) 0 14 ((5 : Nat) : Int)) 0 13 (r : Int))) (s 7 _ rfl) (by decide) (laSkip (s 7 _ rfl) ⟨by decide, by decide, by decide, by decide, by decide⟩)
  have a8 := NL.one (L0 := L0) (M := (up2 (up2 (up2 M 0 13 ((7 : Nat) : Int)) 0 14 ((5 : Nat) : Int)) 0 13 (r : Int))) (s 8 _ rfl) (show (56 : Nat) < 57 by decide) (laN14 (s 8 _ rfl) rfl (s 7 _ rfl) rfl rfl (Nat.zero_le _) h3)
  have a9 := NL.one (L0 := L0) (M := (up2 (up2 (up2 (up2 M 0 13 ((7 : Nat) : Int)) 0 14 ((5 : Nat) : Int)) 0 13 (r : Int)) 0 14 (c : Int))) (s 9 _ rfl) (by decide) (laSkip (s 9 _ rfl) ⟨by decide, by decide, by decide, by decide, by decide⟩)
  exact (((((((((a0.trans a1).trans a2).trans a3).trans a4).trans a5).trans a6).trans a7).trans a8).trans a9)
theorem nlH {k v : Nat} (s : Seg ts P (tkH k v)) (h0 : k < 12) (h1 : v ≤ 3) : NL ts L0 M P 5 (mH k v M) := by
  have a0 := NL.one (L0 := L0) (M := M) (s 0 _ rfl) (by decide) (laSkip (s 0 _ rfl) ⟨by decide, by decide, by decide, by decide, by decide⟩)
  have a1 := NL.one (L0 := L0) (M := M) (s 1 _ rfl) (show (56 : Nat) < 57 by decide) (laN15 (s 1 _ rfl) rfl (s 0 _ rfl) rfl rfl (show k ≤ 11 by omega))
  have a2 := NL.one (L0 := L0) (M := M) (s 2 _ rfl) (by decide) (laSkip (s 2 _ rfl) ⟨by decide, by decide, by decide, by decide, by decide⟩)
  have a3 := NL.one (L0 := L0) (M := M) (s 3 _ rfl) (show (56 : Nat) < 57 by decide) (laN16 (s 3 _ rfl) rfl (s 2 _ rfl) rfl (s 1 _ rfl) rfl rfl rfl h0 h1)
  have a4 := NL.one (L0 := L0) (M := (up2 M 6 k (v : Int))) (s 4 _ rfl) (by decide) (laSkip (s 4 _ rfl) ⟨by decide, by decide, by decide, by decide, by decide⟩)
  exact ((((a0.trans a1).trans a2).trans a3).trans a4)
theorem nlC {k v : Nat} (s : Seg ts P (tkC k v)) (hk : k < 4) (h1 : v ≤ 50) : NL ts L0 M P 4 (mC k v M) := by
  have a0 := NL.one (L0 := L0) (M := M) (s 0 _ rfl) (by decide) (laSkip (s 0 _ rfl) ⟨by decide, by decide, by decide, by decide, by decide⟩)
  have a1 := NL.one (L0 := L0) (M := M) (s 1 _ rfl) (by show 18 + k < 57; omega) (laGrade (s 1 _ rfl) (gr4 hk))
  have a2 := NL.one (L0 := L0) (M := M) (s 2 _ rfl) (show (56 : Nat) < 57 by decide) (laNq (d := k) (s 2 _ rfl) rfl (s 1 _ rfl) rfl rfl hk h1)
  have a3 := NL.one (L0 := L0) (M := (up2 M (43 + k) 1 (v : Int))) (s 3 _ rfl) (by decide) (laSkip (s 3 _ rfl) ⟨by decide, by decide, by decide, by decide, by decide⟩)
  exact (((a0.trans a1).trans a2).trans a3)
end

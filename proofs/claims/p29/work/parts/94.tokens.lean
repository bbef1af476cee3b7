/-! 94 L3: tokens: kind, value, blanks behind; their bytes (written by l3/gen94.py) -/
abbrev Tok : Type := Nat × Nat × List Nat
def KWL : List (List Nat) := [[], [103, 97, 114, 100, 101, 110], [115, 116, 105, 99, 107, 115], [103, 114, 111, 119, 115], [116, 104, 105, 99, 107], [114, 97, 99, 107], [104, 111, 108, 100, 115], [112, 101, 101, 108, 101, 114], [111, 102], [116, 111], [115, 107, 105, 108, 108], [98, 111, 97, 116], [115, 112, 101, 101, 100], [114, 105, 118, 101, 114], [99, 117, 114, 114, 101, 110, 116], [115, 104, 97, 100, 101], [105, 115], [112, 114, 105, 99, 101], [102, 105, 114, 115, 116], [115, 101, 99, 111, 110, 100], [116, 104, 105, 114, 100], [102, 111, 117, 114, 116, 104], [119, 104, 101, 116], [108, 111, 97, 100], [119, 105, 116, 104], [114, 101, 115, 116], [119, 104, 101, 110], [104, 111, 117, 114], [99, 111, 105, 110, 115], [101, 100, 103, 101], [114, 111, 111, 109], [115, 116, 111, 114, 101], [109, 105, 108, 101], [97, 102, 108, 111, 97, 116], [98, 108, 117, 110, 116], [110, 111, 116], [97, 110, 100], [111, 114], [109, 105, 110], [109, 97, 120], [40], [41], [91], [93], [59], [44], [43], [45], [42], [47], [60], [62], [61], [60, 61], [62, 61]]
def tkb (k v : Nat) : List Nat := if k = 55 then [v / 16, 48 + v % 16] else if k = 56 then dig v else (KWL[k]?).getD []
def fl : List Tok → List Nat
  | [] => []
  | t :: ts => tkb t.1 t.2.1 ++ (t.2.2 ++ fl ts)
theorem fl_app : ∀ (a b : List Tok), fl (a ++ b) = fl a ++ fl b := by
  intro a
  induction a with
  | nil => intro b; rfl
  | cons t ts ih =>
    intro b
    show tkb t.1 t.2.1 ++ (t.2.2 ++ fl (ts ++ b)) = (tkb t.1 t.2.1 ++ (t.2.2 ++ fl ts)) ++ fl b
    rw [ih, List.append_assoc, List.append_assoc]
theorem dig1 {k : Nat} (h : k < 10) : dig k = [48 + k] := if_pos h
theorem tbN {c k : Nat} (h : k < 16) : tkb 55 (c * 16 + k) = [c, 48 + k] := by
  show [(c * 16 + k) / 16, 48 + (c * 16 + k) % 16] = [c, 48 + k]
  rw [show (c * 16 + k) / 16 = c by omega, show (c * 16 + k) % 16 = k by omega]
def gS (k : Nat) : List Nat := if k = 0 then s116 else if k = 1 then s118 else if k = 2 then s120 else s122
theorem tbG {k : Nat} (h : k < 4) : tkb (18 + k) 0 = gS k := by
  rcases (show k = 0 ∨ k = 1 ∨ k = 2 ∨ k = 3 by omega) with rfl | rfl | rfl | rfl <;> rfl
theorem gS_len (k : Nat) : (gS k).length ≤ 6 := by
  unfold gS
  split
  · decide
  · split
    · decide
    · split <;> decide
theorem St.g {h : AH} (k : St h) {i : Nat} (hi : i < 4) : Str h (hR h 2 i) (gS i) ∧ hR h 2 i < 200 ∧ hR h (hR h 2 i) 0 < 200 := by
  rw [k.2.1.2.2 i hi]
  rcases (show i = 0 ∨ i = 1 ∨ i = 2 ∨ i = 3 by omega) with rfl | rfl | rfl | rfl
  · exact k.k116
  · exact k.k118
  · exact k.k120
  · exact k.k122
-- the lines
def tkG (k v0 v1 v2 : Nat) : List Tok := [(1, 0, [32]), (55, 103 * 16 + k, [32]), (2, 0, [32]), (56, v0, [32]), (3, 0, [32]), (56, v1, [32]), (4, 0, [32]), (56, v2, []), (44, 0, [10])]
def tkR (k v : Nat) : List Tok := [(5, 0, [32]), (55, 114 * 16 + k, [32]), (6, 0, [32]), (56, v, []), (44, 0, [])]
def tkP (k a r s : Nat) : List Tok := [(7, 0, [32]), (55, 112 * 16 + k, [32]), (8, 0, [32]), (55, 103 * 16 + a, [32]), (9, 0, [32]), (55, 114 * 16 + r, [32]), (10, 0, [32]), (56, s, []), (44, 0, [])]
def tkB (k v s : Nat) : List Tok := [(11, 0, [32]), (55, 98 * 16 + k, [32]), (6, 0, [32]), (56, v, [32]), (12, 0, [32]), (56, s, []), (44, 0, [])]
def tkV (r c : Nat) : List Tok := [(13, 0, [32]), (56, 7, [32]), (14, 0, [32]), (56, 5, []), (44, 0, []), (13, 0, [32]), (56, r, [32]), (14, 0, [32]), (56, c, []), (44, 0, [])]
def tkH (k v : Nat) : List Tok := [(15, 0, [32]), (56, k, [32]), (16, 0, [32]), (56, v, []), (44, 0, [])]
def tkC (k v : Nat) : List Tok := [(17, 0, [32]), (18 + k, 0, [32]), (56, v, []), (44, 0, [])]
-- sums and tests of an order's row; the last token's blanks: e
def tkS (w2 w3 w4 : Nat) (e : List Nat) : List Tok :=
  if w3 = 0 then [(56, w4 % 50, e)]
  else if w3 = 1 then [(31, 0, [32]), (18 + w2, 0, []), (47, 0, []), (56, w4 % 7, e)]
  else if w3 = 2 then [(39, 0, []), (40, 0, []), (31, 0, [32]), (18 + w2, 0, []), (49, 0, []), (56, 2, []), (45, 0, []), (56, w4 % 9, []), (41, 0, e)]
  else [(17, 0, [32]), (18 + w2, 0, []), (48, 0, []), (56, 2, []), (46, 0, []), (56, w4 % 5, e)]
def tkT (n m p b w5 w6 w7 : Nat) (e : List Nat) : List Tok :=
  if w5 = 0 then [(27, 0, [32]), (54, 0, [32]), (56, w7 % 12, e)]
  else if w5 = 1 then [(29, 0, [32]), (55, 112 * 16 + w6 % p, []), (50, 0, []), (56, w7 % 21, e)]
  else if w5 = 2 then [(34, 0, [32]), (55, 112 * 16 + w6 % p, e)]
  else if w5 = 3 then [(35, 0, [32]), (33, 0, [32]), (55, 98 * 16 + w6 % b, e)]
  else if w5 = 4 then [(28, 0, [32]), (47, 0, [32]), (56, 1, [32]), (54, 0, [32]), (56, w7, e)]
  else if w5 = 5 then [(30, 0, [32]), (55, 114 * 16 + w6 % m, [32]), (51, 0, [32]), (56, w7 % 30, [32]), (37, 0, [32]), (31, 0, [32]), (18 + w6 % 4, 0, [32]), (50, 0, [32]), (56, w7 % 9, e)]
  else if w5 = 6 then [(42, 0, []), (35, 0, [32]), (2, 0, [32]), (55, 103 * 16 + w6 % n, [32]), (50, 0, [32]), (56, w7 % 60, []), (43, 0, [32]), (36, 0, [32]), (17, 0, [32]), (18 + w6 % 4, 0, [32]), (54, 0, [32]), (56, 1, e)]
  else if w5 = 7 then [(32, 0, [32]), (55, 98 * 16 + w6 % b, []), (53, 0, []), (56, w7 % 20, e)]
  else [(56, 1, [32]), (52, 0, [32]), (56, 1, e)]
def tkW (n m p b w5 w6 w7 : Nat) : List Tok := (26, 0, [32]) :: tkT n m p b w5 w6 w7 []
def tkO (n m p b : Nat) (w : Nat → Int) : List Tok :=
  if w 0 = 1 then (23, 0, [32]) :: (55, 98 * 16 + (w 1).toNat, [32]) :: (24, 0, [32]) :: (tkS (w 2).toNat (w 3).toNat (w 4).toNat [32] ++ (8, 0, [32]) :: (18 + (w 2).toNat, 0, if w 5 < 8 then [32] else []) :: ((if w 5 < 8 then tkW n m p b (w 5).toNat (w 6).toNat (w 7).toNat else []) ++ [(44, 0, [32])]))
  else (if w 0 = 0 then 22 else 25, 0, [32]) :: (55, 112 * 16 + (w 1).toNat, [32]) :: (tkW n m p b (w 5).toNat (w 6).toNat (w 7).toNat ++ [(44, 0, [32])])

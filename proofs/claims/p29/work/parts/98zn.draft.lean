/-! 98zn L3: the whole draft is the steps of all orders -/
def TFs (N : Nat → Int32) (ps : Nat) (l : List Tok) : Prop := ∀ (q : Nat) (t : Tok), l[q]? = some t → TF N (ps + q) t
theorem TFs.left {N : Nat → Int32} {P : Nat} {a b : List Tok} (s : TFs N P (a ++ b)) : TFs N P a := fun q t h => by
  have hq : q < a.length := by
    rcases Nat.lt_or_ge q a.length with c | c
    · exact c
    · rw [List.getElem?_eq_none c] at h; cases h
  exact s q t (by rw [List.getElem?_append_left hq]; exact h)
theorem TFs.right {N : Nat → Int32} {P : Nat} {a b : List Tok} (s : TFs N P (a ++ b)) : TFs N (P + a.length) b := fun q t h => by
  rw [Nat.add_assoc]
  exact s _ t (by rw [List.getElem?_append_right (by omega), Nat.add_sub_cancel_left]; exact h)
theorem dO_o {n m p b ps : Nat} {w : Nat → Int} {N : Nat → Int32} (hNm : Nm n m p b) (hW : Wk n m p b w) (hf : TFs N ps (tkO n m p b w)) : ∃ z y, (dO n m p b w ps).map (fd N) = oSt n m p b w z y := by
  have hW' := hW
  unfold Wk at hW
  have hN' := hNm
  unfold Nm at hN'
  unfold tkO at hf
  unfold dO oSt
  by_cases c1 : w 0 = 1
  · rw [if_pos c1] at hf
    have w1b := hW.2.1.2.1 c1
    have c0 : ¬ w 0 = 0 := by omega
    rw [if_pos c1]
    have s0 : TFs N ps ([(23, 0, [32]), (55, 98 * 16 + (w 1).toNat, [32]), (24, 0, [32])] ++ (tkS (w 2).toNat (w 3).toNat (w 4).toNat [32] ++ ([(8, 0, [32]), (18 + (w 2).toNat, 0, if w 5 < 8 then [32] else [])] ++ ((if w 5 < 8 then tkW n m p b (w 5).toNat (w 6).toNat (w 7).toNat else []) ++ [(44, 0, [32])])))) := hf
    obtain ⟨z, ez⟩ := dS_s (N := N) (ps := ps + 3) (e := [32]) hW' s0.right.left
    have fn : N (ps + 1) = iI (w 1) := ((s0 1 _ rfl).2.1 rfl).trans (by show iI (((98 * 16 + (w 1).toNat) % 16 : Nat) : Int) = _; congr 1; omega)
    have fg : N (ps + 3 + (tkS (w 2).toNat (w 3).toNat (w 4).toNat [32]).length + 1) = iI (w 2) := ((s0.right.right.left 1 _ rfl).2.2 ⟨by show 18 ≤ 18 + (w 2).toNat; omega, by show 18 + (w 2).toNat ≤ 21; omega⟩).trans (by show iI ((18 + (w 2).toNat - 18 : Nat) : Int) = _; congr 1; omega)
    by_cases c5 : w 5 < 8
    · rw [if_pos c5, if_pos c5] at s0
      rw [if_pos c5]
      have sW := s0.right.right.right.left
      have sT : TFs N (ps + 3 + (tkS (w 2).toNat (w 3).toNat (w 4).toNat [32]).length + 3) (tkT n m p b (w 5).toNat (w 6).toNat (w 7).toNat []) := TFs.right (a := [(26, 0, [32])]) sW
      obtain ⟨y, ey⟩ := dT_t (N := N) hNm hW' sT
      refine ⟨z, y, ?_⟩
      rw [List.map_append, List.map_cons, List.map_append, ez, ey, if_neg c0, if_pos c1, if_pos c5]
      show sSt w z ++ ((nI 56, N _) :: (tSt n m p b w y ++ [(nI 23, N (ps + 1))])) = _
      rw [fn, fg]
      rfl
    · rw [if_neg c5]
      refine ⟨z, fun _ => N (ps + 3 + (tkS (w 2).toNat (w 3).toNat (w 4).toNat [32]).length + 2), ?_⟩
      rw [List.map_append, List.map_cons, List.map_append, ez, if_neg c0, if_pos c1, if_neg c5]
      show sSt w z ++ ((nI 56, N _) :: ([(nI 60, N _)] ++ [(nI 23, N (ps + 1))])) = _
      rw [fn, fg]
      rfl
  · rw [if_neg c1] at hf
    have w1b := hW.2.1.2.2 c1
    rw [if_neg c1]
    have s0 : TFs N ps ([(if w 0 = 0 then 22 else 25, 0, [32]), (55, 112 * 16 + (w 1).toNat, [32]), (26, 0, [32])] ++ (tkT n m p b (w 5).toNat (w 6).toNat (w 7).toNat [] ++ [(44, 0, [32])])) := hf
    have fn : N (ps + 1) = iI (w 1) := ((s0 1 _ rfl).2.1 rfl).trans (by show iI (((112 * 16 + (w 1).toNat) % 16 : Nat) : Int) = _; congr 1; omega)
    obtain ⟨z, ez⟩ := dT_t (N := N) hNm hW' s0.right.left
    have ez' : (dT (w 5).toNat (ps + 3)).map (fd N) = tSt n m p b w z := ez
    refine ⟨z, fun _ => 0, ?_⟩
    rw [List.map_append, ez']
    by_cases c0 : w 0 = 0
    · rw [if_pos c0, if_pos c0]
      show tSt n m p b w z ++ [(nI 22, N (ps + 1))] = _
      rw [fn]
    · rw [if_neg c0, if_neg c0, if_neg c1]
      show tSt n m p b w z ++ [(nI 25, N (ps + 1))] = _
      rw [fn]
theorem aSt_snoc {n m p b : Nat} {O : Nat → Nat → Int} {z y : Nat → Nat → Int32} : ∀ (k i : Nat), aSt n m p b O z y (k + 1) i = aSt n m p b O z y k i ++ oSt n m p b (O (i + k)) (z (i + k)) (y (i + k)) := by
  intro k
  induction k with
  | zero => intro i; show oSt n m p b (O i) (z i) (y i) ++ [] = [] ++ oSt n m p b (O (i + 0)) (z (i + 0)) (y (i + 0)); rw [List.append_nil, List.nil_append]; rfl
  | succ k ih =>
    intro i
    show oSt n m p b (O i) (z i) (y i) ++ aSt n m p b O z y (k + 1) (i + 1) = (oSt n m p b (O i) (z i) (y i) ++ aSt n m p b O z y k (i + 1)) ++ _
    rw [ih (i + 1), List.append_assoc, show i + 1 + k = i + (k + 1) by omega]
theorem aSt_congr {n m p b : Nat} {O : Nat → Nat → Int} {z y z' y' : Nat → Nat → Int32} : ∀ (k i : Nat), (∀ j, i ≤ j → j < i + k → z j = z' j ∧ y j = y' j) → aSt n m p b O z y k i = aSt n m p b O z' y' k i := by
  intro k
  induction k with
  | zero => intro i _; rfl
  | succ k ih =>
    intro i h
    obtain ⟨h1, h2⟩ := h i (Nat.le_refl _) (by omega)
    show oSt n m p b (O i) (z i) (y i) ++ aSt n m p b O z y k (i + 1) = oSt n m p b (O i) (z' i) (y' i) ++ aSt n m p b O z' y' k (i + 1)
    rw [h1, h2, ih (i + 1) fun j a b => h j (by omega) (by omega)]
theorem dLn_a {n m p b ps : Nat} {O : Nat → Nat → Int} {N : Nat → Int32} (hNm : Nm n m p b) : ∀ (k : Nat), (∀ i, i < k → Wk n m p b (O i)) → (∀ i, i < k → TFs N (ps + (lnS (fun i => tkO n m p b (O i)) i).length) (tkO n m p b (O i))) → ∃ z y, (dLn (fun i => tkO n m p b (O i)) (fun i => dO n m p b (O i)) k ps).map (fd N) = aSt n m p b O z y k 0 := by
  intro k
  induction k with
  | zero => intro _ _; exact ⟨fun _ _ => 0, fun _ _ => 0, rfl⟩
  | succ k ih =>
    intro hW hf
    obtain ⟨z, y, e⟩ := ih (fun i hi => hW i (by omega)) (fun i hi => hf i (by omega))
    obtain ⟨z1, y1, e1⟩ := dO_o hNm (hW k (by omega)) (hf k (by omega))
    refine ⟨fun i => if i = k then z1 else z i, fun i => if i = k then y1 else y i, ?_⟩
    rw [aSt_snoc, Nat.zero_add]
    show ((dLn (fun i => tkO n m p b (O i)) (fun i => dO n m p b (O i)) k ps) ++ dO n m p b (O k) (ps + (lnS (fun i => tkO n m p b (O i)) k).length)).map (fd N) = _
    rw [List.map_append, e, e1, if_pos rfl, if_pos rfl]
    congr 1
    exact aSt_congr k 0 fun j _ hj => ⟨by rw [if_neg (by omega)], by rw [if_neg (by omega)]⟩

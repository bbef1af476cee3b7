/-! 98zzd THE START, IV: the small machine's heap at the entry -/
abbrev isB (a : Nat) : Prop := a = 3 ∨ a = 4 ∨ (10 ≤ a ∧ a < 124 ∧ a % 2 = 1)
abbrev isS (a : Nat) : Prop := 10 ≤ a ∧ a < 124 ∧ a % 2 = 0
def slC (s : State) (t j : Nat) : Int32 := match (s.heap[t]?).bind (fun c => c.slots[j]?) with
  | some (.int x) => x
  | _ => 0
def szC (s : State) (t : Nat) : Nat := match s.heap[t]? with
  | some c => c.slots.size
  | none => 0
def hSt (s : State) (L : Nat) (xs : Nat → Int32) (bp : Nat → Nat) : AH := (200, 0, (fun a => if a = 1 then 112 else if a = 2 then 111 else if isB a then 102 else if isS a then 15 else 0), (fun a => if a = 1 then L else if a = 2 then 4 else if isB a then szC s (bp a) else 0), (fun a j => if a = 1 then xs j else if isB a then slC s (bp a) j else 0), (fun a k => if a = 2 then 116 + 2 * k else if isS a ∧ k = 0 then a + 1 else 0), fun _ _ => 0)
def gSt (B0 b tG : Nat) (v5 : Value) (bp sp : Nat → Nat) (a : Nat) : Value := if a = 1 then .ref b else if a = 2 then .ref tG else if isB a then .ref (bp a) else if isS a then .ref (sp a) else if a = 5 then v5 else if 200 ≤ a then .ref (B0 + (a - 200)) else .null
section
variable {s : State} {L : Nat} {xs : Nat → Int32} {bp sp : Nat → Nat} {B0 b tG : Nat} {v5 : Value} {a : Nat}
theorem isB_f (h : isB a) : a ≠ 1 ∧ a ≠ 2 ∧ a < 200 ∧ ¬ isS a := by unfold isB at h; unfold isS; omega
theorem isS_f (h : isS a) : a ≠ 1 ∧ a ≠ 2 ∧ a < 200 ∧ ¬ isB a ∧ isB (a + 1) := by unfold isS at h; unfold isB; omega
theorem hS_TB (h : isB a) : hT (hSt s L xs bp) a = 102 := by
  obtain ⟨h1, h2, -, -⟩ := isB_f h
  show (if a = 1 then 112 else if a = 2 then 111 else if isB a then 102 else if isS a then 15 else 0) = 102
  rw [if_neg h1, if_neg h2, if_pos h]
theorem hS_TS (h : isS a) : hT (hSt s L xs bp) a = 15 := by
  obtain ⟨h1, h2, -, h3, -⟩ := isS_f h
  show (if a = 1 then 112 else if a = 2 then 111 else if isB a then 102 else if isS a then 15 else 0) = 15
  rw [if_neg h1, if_neg h2, if_neg h3, if_pos h]
theorem hS_T0 (h : hT (hSt s L xs bp) a ≠ 0) : a = 1 ∨ a = 2 ∨ isB a ∨ isS a := by
  by_cases h1 : a = 1
  · exact Or.inl h1
  · by_cases h2 : a = 2
    · exact Or.inr (Or.inl h2)
    · by_cases h3 : isB a
      · exact Or.inr (Or.inr (Or.inl h3))
      · by_cases h4 : isS a
        · exact Or.inr (Or.inr (Or.inr h4))
        · exfalso
          apply h
          show (if a = 1 then 112 else if a = 2 then 111 else if isB a then 102 else if isS a then 15 else 0) = 0
          rw [if_neg h1, if_neg h2, if_neg h3, if_neg h4]
theorem hS_LB (h : isB a) : hL (hSt s L xs bp) a = szC s (bp a) := by
  obtain ⟨h1, h2, -, -⟩ := isB_f h
  show (if a = 1 then L else if a = 2 then 4 else if isB a then szC s (bp a) else 0) = _
  rw [if_neg h1, if_neg h2, if_pos h]
theorem hS_IB (h : isB a) (j : Nat) : hI (hSt s L xs bp) a j = slC s (bp a) j := by
  obtain ⟨h1, h2, -, -⟩ := isB_f h
  show (if a = 1 then xs j else if isB a then slC s (bp a) j else 0) = _
  rw [if_neg h1, if_pos h]
theorem hS_IS (h : isS a) (j : Nat) : hI (hSt s L xs bp) a j = 0 := by
  obtain ⟨h1, h2, -, h3, -⟩ := isS_f h
  show (if a = 1 then xs j else if isB a then slC s (bp a) j else 0) = _
  rw [if_neg h1, if_neg h3]
theorem hS_RS (h : isS a) : hR (hSt s L xs bp) a 0 = a + 1 := by
  obtain ⟨h1, h2, -, h3, -⟩ := isS_f h
  show (if a = 2 then 116 + 2 * 0 else if isS a ∧ 0 = 0 then a + 1 else 0) = _
  rw [if_neg h2, if_pos ⟨h, rfl⟩]
theorem g_B (h : isB a) : gSt B0 b tG v5 bp sp a = .ref (bp a) := by
  obtain ⟨h1, h2, -, -⟩ := isB_f h
  unfold gSt
  rw [if_neg h1, if_neg h2, if_pos h]
theorem g_S (h : isS a) : gSt B0 b tG v5 bp sp a = .ref (sp a) := by
  obtain ⟨h1, h2, -, h3, -⟩ := isS_f h
  unfold gSt
  rw [if_neg h1, if_neg h2, if_neg h3, if_pos h]
theorem g_ok (h5 : v5 = .null ∨ ∃ x, v5 = .ref x) : gok B0 (gSt B0 b tG v5 bp sp) := by
  refine ⟨?_, fun a ha => ?_, fun a => ?_⟩
  · unfold gSt
    rw [if_neg (by decide), if_neg (by decide), if_neg (by unfold isB; omega), if_neg (by unfold isS; omega), if_neg (by decide), if_neg (by decide)]
  · have ha' : 200 ≤ a := ha
    unfold gSt
    rw [if_neg (by omega), if_neg (by omega), if_neg (by unfold isB; omega), if_neg (by unfold isS; omega), if_neg (by omega), if_pos ha']
    rfl
  · unfold gSt
    split
    · exact Or.inr ⟨_, rfl⟩
    · split
      · exact Or.inr ⟨_, rfl⟩
      · split
        · exact Or.inr ⟨_, rfl⟩
        · split
          · exact Or.inr ⟨_, rfl⟩
          · split
            · exact h5
            · split
              · exact Or.inr ⟨_, rfl⟩
              · exact Or.inl rfl
theorem slC_of {t j : Nat} {cell : Cell} {x : Int32} (h : s.heap[t]? = some cell) (hj : cell.slots[j]? = some (.int x)) : slC s t j = x := by
  unfold slC
  rw [h, Option.bind_some, hj]
theorem slC_out {t j : Nat} {cell : Cell} (h : s.heap[t]? = some cell) (hj : cell.slots.size ≤ j) : slC s t j = 0 := by
  unfold slC
  rw [h, Option.bind_some, Array.getElem?_eq_none hj]
theorem szC_of {t : Nat} {cell : Cell} (h : s.heap[t]? = some cell) : szC s t = cell.slots.size := by
  unfold szC
  rw [h]
variable {dC : Nat → ClassId} {dI : Nat → Nat → Nat} {dA : Nat → ClassId}
theorem HR_start (hB0 : B0 = s.heap.size) (hX : va_X b L xs s s.heap) (dS : ∀ cell, s.heap[b]? = some cell → cell.cls = dA 11) (dG : ∀ cell, s.heap[tG]? = some cell → cell.cls = dA 10) (hG : GC s tG (fun i => sp (10 + 2 * i))) (hB : ∀ a, isB a → ∃ bs, BC s (dA 1) (bp a) bs) (hS : ∀ a, isS a → SC s (dC 14) (dI 14 0) (dI 14 1) (sp a) (bp (a + 1))) : HR B0 (gSt B0 b tG v5 bp sp) dC dI dA s.heap (hSt s L xs bp) s.heap := by
  subst hB0
  have lt : ∀ {x : Nat} {cell : Cell}, s.heap[x]? = some cell → x < s.heap.size := fun h => (Array.getElem?_eq_some_iff.mp h).1
  refine ⟨by show 200 ≤ 200; omega, by show s.heap.size = s.heap.size + (200 - 200); omega, fun q _ => rfl, fun a ha => ?_⟩
  rcases hS_T0 ha with rfl | rfl | h | h
  · obtain ⟨cell, c1, c2, c3, c4, c5⟩ := hX
    refine ⟨by show 1 < 200; decide, Or.inr rfl, b, cell, rfl, c1, ns_of c2, c3, fun k => absurd (show 200 ≤ 1 from k) (by decide), fun _ => lt c1, Or.inr ⟨by show 101 ≤ 112; decide, by show 112 ≤ 112; decide, dS cell c1, szR.of c4, fun ty hty j hj => ?_, fun k => absurd (show 112 = 102 from k) (by decide)⟩⟩
    have hty' : some FieldType.int = some ty := hty
    cases hty'
    exact c5 j hj
  · obtain ⟨cell, c1, c2, c3, -, c5, c6, c7⟩ := hG
    refine ⟨by show 2 < 200; decide, Or.inr rfl, tG, cell, rfl, c1, c2, c3, fun k => absurd (show 200 ≤ 2 from k) (by decide), fun _ => lt c1, Or.inr ⟨by show 101 ≤ 111; decide, by show 111 ≤ 112; decide, dG cell c1, ⟨c5, c6, fun k => absurd rfl k⟩, fun ty hty j hj => ?_, fun k => absurd (show 111 = 102 from k) (by decide)⟩⟩
    have hty' : some (FieldType.object "java/lang/String") = some ty := hty
    cases hty'
    have hj' : j < 4 := hj
    show _ = some (gSt s.heap.size b tG v5 bp sp (116 + 2 * j))
    rw [g_S (by unfold isS; omega), c7 j hj']
    show some (Value.ref (sp (10 + 2 * (53 + j)))) = _
    rw [show 10 + 2 * (53 + j) = 116 + 2 * j by omega]
  · obtain ⟨bs, cell, c1, c2, c3, c4, c5, c6, c7, c8⟩ := hB a h
    obtain ⟨f1, f2, f3, f4⟩ := isB_f h
    have tB := hS_TB (s := s) (L := L) (xs := xs) (bp := bp) h
    refine ⟨f3, Or.inr (by rw [tB]; rfl), bp a, cell, g_B h, c1, c2, c3, fun k => absurd (show 200 ≤ a from k) (by omega), fun _ => lt c1, Or.inr ⟨by rw [tB]; decide, by rw [tB]; decide, by rw [tB]; exact c4, ?_, fun ty hty j hj => ?_, fun _ j => ?_⟩⟩
    · rw [tB, hS_LB h, szC_of c1]; exact szR.of rfl
    · rw [tB] at hty
      rw [hS_LB h, szC_of c1] at hj
      have hty' : some FieldType.byte = some ty := hty
      cases hty'
      obtain ⟨x, e1, e2⟩ := c7 j hj
      show _ = some (Value.int (hI (hSt s L xs bp) a j))
      rw [hS_IB h, slC_of c1 e1, e1]
    · rw [hS_IB h]
      by_cases hj : j < cell.slots.size
      · obtain ⟨x, e1, e2⟩ := c7 j hj
        rw [slC_of c1 e1]
        exact e2
      · rw [slC_out c1 (by omega)]
        rfl
  · obtain ⟨cell, c1, c2, c3, c4, c5, c6⟩ := hS a h
    obtain ⟨f1, f2, f3, f4, f5⟩ := isS_f h
    have tS := hS_TS (s := s) (L := L) (xs := xs) (bp := bp) h
    refine ⟨f3, Or.inr (by rw [tS]; rfl), sp a, cell, g_S h, c1, c2, c3, fun k => absurd (show 200 ≤ a from k) (by omega), fun _ => lt c1, Or.inl ⟨by rw [tS]; decide, by rw [tS]; decide, by rw [tS]; exact c4, fun q hq k hk => ?_⟩⟩
    rw [tS] at hq ⊢
    have hq' : some (("java/lang/String", qT15, 2) : vw_C) = some q := hq
    cases hq'
    have k1 : kdD "[B" = 1 := by decide
    have k2 : kdD "B" = 4 := by decide
    rcases (show k = 0 ∨ k = 1 by have : k < 2 := hk; omega) with rfl | rfl
    · show cell.slots[dI 14 0]? = some (enc (gSt s.heap.size b tG v5 bp sp) (fv (hSt s L xs bp) (kdD "[B") a 0))
      rw [k1, c5]
      show _ = some (gSt s.heap.size b tG v5 bp sp (hR (hSt s L xs bp) a 0))
      rw [hS_RS h, g_B f5]
    · show cell.slots[dI 14 1]? = some (enc (gSt s.heap.size b tG v5 bp sp) (fv (hSt s L xs bp) (kdD "B") a 1))
      rw [k2, c6]
      show _ = some (Value.int (hI (hSt s L xs bp) a 1))
      rw [hS_IS h]
-- what the law's own part wants of it
theorem bs_of {bs : List Nat} {d : ClassId} (h : isB a) (k : BC s d (bp a) bs) : bs.length ≤ hL (hSt s L xs bp) a ∧ nI (hL (hSt s L xs bp) a) = iI (bs.length : Int) ∧ ∀ j, j < bs.length → hI (hSt s L xs bp) a j = iI (nth bs j : Int) := by
  obtain ⟨cell, c1, c2, c3, c4, c5, c6, c7, c8⟩ := k
  rw [hS_LB h, szC_of c1]
  refine ⟨c5, ?_, fun j hj => ?_⟩
  · rw [← nI_i]
    exact c6
  · rw [hS_IB h, slC_of c1 (c8 j hj), nI_i]
theorem dg_nth {k : Nat} (h : k < 100) : nth dgO k = 48 + k % 10 ∧ nth dgT k = 48 + k / 10 := by
  have q : ((List.range 100).all fun k => decide (nth dgO k = 48 + k % 10) && decide (nth dgT k = 48 + k / 10)) = true := by decide +kernel
  have r := List.all_eq_true.mp q k (List.mem_range.mpr h)
  rw [Bool.and_eq_true] at r
  exact ⟨of_decide_eq_true r.1, of_decide_eq_true r.2⟩
theorem dg_len : dgO.length = 100 ∧ dgT.length = 100 := by decide +kernel
theorem St_start {d : ClassId} (h3 : BC s d (bp 3) dgO) (h4 : BC s d (bp 4) dgT) (hS : ∀ (i : Nat) (q : Nat × List Nat), SKL[i]? = some q → q.1 = 10 + 2 * i ∧ i < 57 ∧ BC s d (bp (11 + 2 * i)) q.2) : St (hSt s L xs bp) := by
  have b3 : isB 3 := Or.inl rfl
  have b4 : isB 4 := Or.inr (Or.inl rfl)
  obtain ⟨o1, o2, o3⟩ := bs_of (L := L) (xs := xs) b3 h3
  obtain ⟨t1, t2, t3⟩ := bs_of (L := L) (xs := xs) b4 h4
  rw [dg_len.1] at o1 o3
  rw [dg_len.2] at t1 t3
  refine ⟨⟨hS_TB b3, hS_TB b4, o1, t1, fun k hk => ?_⟩, ⟨rfl, Nat.le_refl _, fun k hk => rfl⟩, fun i q hq => ?_⟩
  · rw [o3 k hk, t3 k hk, (dg_nth hk).1, (dg_nth hk).2]
    exact ⟨rfl, rfl⟩
  · obtain ⟨q1, q2, q3⟩ := hS i q hq
    have hs : isS q.1 := by rw [q1]; unfold isS; omega
    have hb : isB (q.1 + 1) := (isS_f hs).2.2.2.2
    have e : 11 + 2 * i = q.1 + 1 := by omega
    rw [e] at q3
    obtain ⟨r1, r2, r3⟩ := bs_of (L := L) (xs := xs) hb q3
    have rs : hR (hSt s L xs bp) q.1 0 = q.1 + 1 := hS_RS hs
    refine ⟨⟨hS_TS hs, hS_IS hs 1, by rw [rs]; exact hS_TB hb, by rw [rs]; exact r1, by rw [rs]; exact r2, by rw [rs]; exact r3⟩, rs⟩
end

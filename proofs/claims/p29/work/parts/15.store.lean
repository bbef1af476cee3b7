/-! 15 SOUNDNESS of array stores and of new cells -/
theorem slot_set {cell : Cell} {j i : Nat} {v : Value} (hj : j < cell.slots.size) : (cell.setSlot j v).slots[i]? = if i = j then some v else cell.slots[i]? := by
  show (cell.slots.setIfInBounds j v)[i]? = _
  by_cases h : i = j
  · subst h; simp [hj]
  · rw [if_neg h, Array.getElem?_setIfInBounds_ne (fun q => h q.symm)]
theorem slot_size {cell : Cell} {j : Nat} {v : Value} : (cell.setSlot j v).slots.size = cell.slots.size := by
  show (cell.slots.setIfInBounds j v).size = _
  simp
-- one place of an array is written
theorem store_core {B0 : Nat} {g : Nat → Value} {dC : Nat → ClassId} {dI : Nat → Nat → Nat} {dA : Nat → ClassId} {H0 : Heap} {p : Program} {l : Launch} {e : Env} {R : Room} {s : State} {m : MethodId} {args : Array Value} {below : List Frame} {meth : Method} {c : Code} {Q : State → Prop} {t pc j : Nat} {L st1 : List Value} {h h1 : AH} {ls : Array Slot} {H H' : Heap} {locs : List Loc} {cells slots : Nat} {v : Value} {a x : Nat} {cell : Cell} {ty : FieldType}
    (G : gok B0 g) (hK : KF B0 g dC dI dA H0 s) (hLr : LR g ls L) (hH : HR B0 g dC dI dA H0 h H) (hlo : ∀ q ∈ locs, B0 ≤ q.base) (ht : hT h a = t) (ha : KK ≤ a) (b1 : 101 ≤ t) (b2 : t ≤ 112) (hty : ATy[t - 101]? = some ty) (hj : j < hL h a)
    (a1 : hN h1 = hN h) (a2 : hU h1 = hU h) (a3 : hT h1 = hT h) (a3' : hL h1 = hL h) (a4 : ∀ b, b ≠ a → ∀ cell, cellR g dC dI dA h b cell → cellR g dC dI dA h1 b cell) (a5 : enc g (avv h1 ty a j) = v) (a6 : ∀ i, i ≠ j → avv h1 ty a i = avv h ty a i) (a7 : t = 102 → ∀ i, (hI h1 a i).toInt8.toInt32 = hI h1 a i)
    (hg : g a = .ref x) (hcell : H[x]? = some cell) (z1 : H'[x]? = some (cell.setSlot j v)) (z2 : H'.size = H.size) (z3 : ∀ q, q ≠ x → H'[q]? = H[q]?)
    (k : Kt B0 g dC dI dA H0 p l e R s m args below meth c Q pc L st1 h h1 cells slots) : W p l e R s m args below meth c H' (locs ++ [⟨x, j⟩]) cells slots Q (F0 m pc ls (st1.map (enc g))) := by
  obtain ⟨-, x', cell', e1, e2, -, e4, e5, e6, e7, e8, e9, e10⟩ := arr_cell hH hK ht b1 b2 hty
  have exx : x' = x := Value.ref.inj (e1.symm.trans hg)
  subst exx
  cases hcell.symm.trans e2
  have hHR : HR B0 g dC dI dA H0 h1 H' := by
    refine HR.write G hH ha hg a1 a3 a4 z1 z2 z3 (e7 ha) (Or.inr ⟨by rw [a3, ht]; exact b1, by rw [a3, ht]; exact b2, by rw [a3, ht]; exact e6, by rw [a3, ht, a3', slot_size]; exact e8, fun ty' hty' i hi => ?_, fun h2 i => a7 (by rw [← ht, ← a3]; exact h2) i⟩)
    rw [a3, ht] at hty'
    cases hty.symm.trans hty'
    rw [a3'] at hi
    rw [slot_set (Nat.lt_of_lt_of_le hj e8.1)]
    by_cases hij : i = j
    · subst hij
      rw [if_pos rfl, a5]
    · rw [if_neg hij, a6 i hij]
      exact e9 i hi
  have h8 := k ls H' (locs ++ [⟨x', j⟩]) hLr hHR (fun q hq => by
    rcases List.mem_append.mp hq with h | h
    · exact hlo q h
    · rw [List.mem_singleton.mp h]
      have h6 := G.2.1 a ha
      rw [e1] at h6
      have h7 : x' = B0 + (a - KK) := Value.ref.inj h6
      show B0 ≤ x'
      omega)
  rw [a1, a2, Nat.sub_self, Nat.sub_self, Nat.add_zero, Nat.add_zero] at h8
  exact h8
theorem not_const {B0 : Nat} {g : Nat → Value} {dC : Nat → ClassId} {dI : Nat → Nat → Nat} {dA : Nat → ClassId} {H0 : Heap} {h : AH} {H : Heap} (hH : HR B0 g dC dI dA H0 h H) {a t : Nat} (ht : hT h a = t) (h1 : 1 ≤ t) (hc : onlyConst t = false) : KK ≤ a := by
  obtain ⟨-, q2, -⟩ := hH.cell ht h1
  rcases q2 with q2 | q2
  · exact q2
  · rw [hc] at q2; cases q2
theorem sw_iastore : SW .iastore := by
  intro B0 g dC dI dA H0 p l e R s m args below meth c Q y bytes ret len aux pc L st h pc' L' st' h' ls H locs cells slots G X hd hok hs hL hH hlo hc hsl hfr hll k
  obtain ⟨hx, hb, hml, hown, hts, hK, hini⟩ := X
  simp only [okI, Bool.and_eq_true] at hok
  obtain ⟨hok1, hok⟩ := hok
  obtain rfl := bq hok1
  have hax := eq_of_beq hok
  subst hax
  simp only [step1] at hs
  split at hs
  · rename_i t r x j a st1 hax
    cases hax
    obtain ⟨hp, hs⟩ := gd_inj hs
    obtain ⟨rfl, rfl, rfl, rfl⟩ := go_inj hs
    obtain ⟨-, xx, cell, e1, e2, e3, e4, e5, e6, e7, e8, e9, e10⟩ := arr_cell hH hK hp.1 (t := 101) (Nat.le_of_ble_eq_true rfl) (Nat.le_of_ble_eq_true rfl) (ty := .int) rfl
    rw [List.map_cons, List.map_cons, List.map_cons, show enc g (.ref a) = g a from rfl, e1]
    refine W.iast hx hb e2 e3 e4 (inb_not hp.2 e8) rfl rfl hd (fun H' z1 z2 z3 => ?_)
    exact store_core (h1 := wI h a (ix j) x) G hK hL hH hlo hp.1 (not_const hH hp.1 (Nat.le_of_ble_eq_true rfl) rfl) (Nat.le_of_ble_eq_true rfl) (Nat.le_of_ble_eq_true rfl) rfl hp.2.2 rfl rfl rfl rfl (fun b hb2 cell hr => cellR_wI hb2 cell hr) (by show Value.int (up2 (hI h) a (ix j) (x) a (ix j)) = _; rw [up2_eq]; try rfl) (fun i hi => by show Value.int (up2 (hI h) a (ix j) (x) a i) = Value.int (hI h a i); rw [up2_nk hi]; try rfl) (fun q => by cases q) e1 e2 z1 z2 z3 k
  · cases hs
theorem sw_lastore : SW .lastore := by
  intro B0 g dC dI dA H0 p l e R s m args below meth c Q y bytes ret len aux pc L st h pc' L' st' h' ls H locs cells slots G X hd hok hs hL hH hlo hc hsl hfr hll k
  obtain ⟨hx, hb, hml, hown, hts, hK, hini⟩ := X
  simp only [okI, Bool.and_eq_true] at hok
  obtain ⟨hok1, hok⟩ := hok
  obtain rfl := bq hok1
  have hax := eq_of_beq hok
  subst hax
  simp only [step1] at hs
  split at hs
  · rename_i t r x j a st1 hax
    cases hax
    obtain ⟨hp, hs⟩ := gd_inj hs
    obtain ⟨rfl, rfl, rfl, rfl⟩ := go_inj hs
    obtain ⟨-, xx, cell, e1, e2, e3, e4, e5, e6, e7, e8, e9, e10⟩ := arr_cell hH hK hp.1 (t := 103) (Nat.le_of_ble_eq_true rfl) (Nat.le_of_ble_eq_true rfl) (ty := .long) rfl
    rw [List.map_cons, List.map_cons, List.map_cons, show enc g (.ref a) = g a from rfl, e1]
    refine W.last hx hb e2 e3 e4 (inb_not hp.2 e8) rfl rfl hd (fun H' z1 z2 z3 => ?_)
    exact store_core (h1 := wJ h a (ix j) x) G hK hL hH hlo hp.1 (not_const hH hp.1 (Nat.le_of_ble_eq_true rfl) rfl) (Nat.le_of_ble_eq_true rfl) (Nat.le_of_ble_eq_true rfl) rfl hp.2.2 rfl rfl rfl rfl (fun b hb2 cell hr => cellR_wJ hb2 cell hr) (by show Value.long (up2 (hJ h) a (ix j) (x) a (ix j)) = _; rw [up2_eq]; try rfl) (fun i hi => by show Value.long (up2 (hJ h) a (ix j) (x) a i) = Value.long (hJ h a i); rw [up2_nk hi]; try rfl) (fun q => by cases q) e1 e2 z1 z2 z3 k
  · cases hs
theorem sw_bastore : SW .bastore := by
  intro B0 g dC dI dA H0 p l e R s m args below meth c Q y bytes ret len aux pc L st h pc' L' st' h' ls H locs cells slots G X hd hok hs hL hH hlo hc hsl hfr hll k
  obtain ⟨hx, hb, hml, hown, hts, hK, hini⟩ := X
  simp only [okI, Bool.and_eq_true] at hok
  obtain ⟨hok1, hok⟩ := hok
  obtain rfl := bq hok1
  have hax := eq_of_beq hok
  subst hax
  simp only [step1] at hs
  split at hs
  · rename_i t r x j a st1 hax
    cases hax
    obtain ⟨hp, hs⟩ := gd_inj hs
    obtain ⟨rfl, rfl, rfl, rfl⟩ := go_inj hs
    obtain ⟨-, xx, cell, e1, e2, e3, e4, e5, e6, e7, e8, e9, e10⟩ := arr_cell hH hK hp.1 (t := 102) (Nat.le_of_ble_eq_true rfl) (Nat.le_of_ble_eq_true rfl) (ty := .byte) rfl
    rw [List.map_cons, List.map_cons, List.map_cons, show enc g (.ref a) = g a from rfl, e1]
    have hby : (102 : Nat) = 102 → ∀ i, (hI (wI h a (ix j) x.toInt8.toInt32) a i).toInt8.toInt32 = hI (wI h a (ix j) x.toInt8.toInt32) a i := by
      intro _ i
      show (up2 (hI h) a (ix j) (x.toInt8.toInt32) a i).toInt8.toInt32 = up2 (hI h) a (ix j) (x.toInt8.toInt32) a i
      by_cases q : i = ix j
      · rw [q, up2_eq]; exact toByte_idem x
      · rw [up2_nk q]; exact e10 rfl i
    refine W.bast hx hb e2 e3 e4 (inb_not hp.2.2 e8) rfl rfl hd (fun H' z1 z2 z3 => ?_)
    exact store_core (h1 := wI h a (ix j) x.toInt8.toInt32) G hK hL hH hlo hp.1 (hp.2.1) (Nat.le_of_ble_eq_true rfl) (Nat.le_of_ble_eq_true rfl) rfl hp.2.2.2 rfl rfl rfl rfl (fun b hb2 cell hr => cellR_wI hb2 cell hr) (by show Value.int (up2 (hI h) a (ix j) (x.toInt8.toInt32) a (ix j)) = _; rw [up2_eq]; try rfl) (fun i hi => by show Value.int (up2 (hI h) a (ix j) (x.toInt8.toInt32) a i) = Value.int (hI h a i); rw [up2_nk hi]; try rfl) hby e1 e2 z1 z2 z3 k
  · cases hs

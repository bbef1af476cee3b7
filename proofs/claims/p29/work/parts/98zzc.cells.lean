/-! 98zzc THE START, III: cells of strings, rows, GRADES, script -/
theorem byte_back {x : Int32} (h1 : -128 ≤ x) (h2 : x ≤ 127) : x.toInt8.toInt32 = x := by
  have a1 : -128 ≤ x.toInt := by have := Int32.le_iff_toInt_le.mp h1; exact this
  have a2 : x.toInt ≤ 127 := by have := Int32.le_iff_toInt_le.mp h2; exact this
  apply Int32.toInt.inj
  rw [Int8.toInt_toInt32, Int32.toInt_toInt8]
  exact Int.bmod_eq_of_le (by omega) (by omega)
theorem fit_byte {v : Value} (h : fits .byte v = true) : ∃ x : Int32, v = .int x ∧ x.toInt8.toInt32 = x := by
  cases v with
  | int x =>
    have h' : (decide (-128 ≤ x) && decide (x ≤ 127)) = true := h
    rw [Bool.and_eq_true] at h'
    exact ⟨x, rfl, byte_back (of_decide_eq_true h'.1) (of_decide_eq_true h'.2)⟩
  | _ => exact absurd h (by simp [fits])
theorem fit_cell {s : State} (hf : heapFits s = true) {t : Nat} {cell : Cell} (hc : s.heap[t]? = some cell) (ha : s.isArrayOf cell .byte) : ∀ j, j < cell.slots.size → ∃ x : Int32, cell.slots[j]? = some (.int x) ∧ x.toInt8.toInt32 = x := by
  intro j hj
  obtain ⟨hlt, he⟩ := Array.getElem?_eq_some_iff.mp hc
  have h1 := Array.all_eq_true.mp hf t hlt
  rw [he] at h1
  unfold cellFits at h1
  have h2 := List.all_eq_true.mp h1 j (List.mem_range.mpr hj)
  have h3 : cell.slots[j]? = some cell.slots[j] := Array.getElem?_eq_getElem hj
  rw [h3] at h2
  obtain ⟨hns, k, hk, comp, hkind⟩ := ha
  have h4 : s.slotType? cell.cls cell.vm j = some .byte := by
    unfold State.slotType?
    rw [hk]
    cases hv : cell.vm with
    | statics k => exact absurd hv (hns k)
    | _ => simp [hkind]
  have h5 : fits .byte cell.slots[j] = true := by
    have h6 : s.fitsSlot cell.cls cell.vm j cell.slots[j] = true := h2
    unfold State.fitsSlot at h6
    rw [h4] at h6
    exact h6
  obtain ⟨x, e1, e2⟩ := fit_byte h5
  exact ⟨x, by rw [h3, e1], e2⟩
def BC (s : State) (d : ClassId) (t : Nat) (bs : List Nat) : Prop := ∃ cell : Cell, s.heap[t]? = some cell ∧ cell.vm.isStatics = false ∧ cell.vm ≠ .unknown ∧ cell.cls = d ∧ bs.length ≤ cell.slots.size ∧ cell.slots.size.toInt32 = nI bs.length ∧ (∀ j, j < cell.slots.size → ∃ x : Int32, cell.slots[j]? = some (.int x) ∧ x.toInt8.toInt32 = x) ∧ ∀ j, j < bs.length → cell.slots[j]? = some (.int (nI (nth bs j)))
def SC (s : State) (d : ClassId) (i0 i1 a tt : Nat) : Prop := ∃ cell : Cell, s.heap[a]? = some cell ∧ cell.vm.isStatics = false ∧ cell.vm ≠ .unknown ∧ cell.cls = d ∧ cell.slots[i0]? = some (.ref tt) ∧ cell.slots[i1]? = some (.int 0)
section
variable {args : Array Value} {s : State}
theorem bc_of {v : Term} {bs : List Nat} {d : ClassId} (hf : heapFits s = true) (hw : ∀ c ∈ rowW v bs, c.before args s = true) (hx : (Jvm.Cond.exactly v "[B").before args s = true) (hd : s.vm.findClass "[B" = some d) (hlen : bs.length < 1000) : ∃ t, v.eval args s none [] s = some (.ref t) ∧ BC s d t bs := by
  have hm : ∀ j, j < bs.length → Jvm.Cond.eq (.elem v (.int (Int32.ofNat j))) (.int (Int32.ofNat (nth bs j))) ∈ rowW v bs := fun j hj => by
    have q := elW_mem (v := v) bs 0 j hj
    rw [Nat.zero_add] at q
    exact List.mem_cons_of_mem _ (List.mem_cons_of_mem _ q)
  obtain ⟨t, ht, cell, c1, c2, c3, c4, c5, c6, -⟩ := va_Tof (ty := .byte) (N := bs.length) (f := fun j => .int (Int32.ofNat (nth bs j))) (A := fun q => s.heap.size ≤ q) (by omega) (hw _ List.mem_cons_self) (va_eqt (hw _ (List.mem_cons_of_mem _ List.mem_cons_self))) (fun j hj => va_eqt (hw _ (hm j hj))) (fun a ha h => by omega)
  obtain ⟨a, c, cA, kA, q1, q2, q3, q4, q5, q6, -⟩ := Cond.exactly_spec hx
  cases ht.symm.trans q1
  cases c1.symm.trans q3
  refine ⟨t, ht, cell, c1, q5, c3, ?_, c4, c5, fit_cell hf c1 c2, c6⟩
  rw [q6]
  exact Option.some.inj (q2.symm.trans hd)
theorem sc_of {t : Term} {bs : List Nat} {d : ClassId} {iS : Nat → Nat} {tt : Nat} (hw : ∀ c ∈ strW t bs, c.before args s = true) (hv : (sVl t).eval args s none [] s = some (.ref tt)) (hK : u_Kn s "java/lang/String" qT15 2 d iS) : ∃ a, t.eval args s none [] s = some (.ref a) ∧ SC s d (iS 0) (iS 1) a tt := by
  obtain ⟨a, c, cA, kA, q1, q2, q3, q4, q5, q6, -⟩ := Cond.exactly_spec (hw _ List.mem_cons_self)
  have hco := va_eqt (hw _ (List.mem_cons_of_mem _ List.mem_cons_self))
  obtain ⟨cf, kf, fi, fd, f1, f2⟩ := (show SlotIs s "java/lang/String" "value" "[B" (iS 0) from hK.1 0 (by decide))
  obtain ⟨cg, kg, gi, gd', g1, g2⟩ := (show SlotIs s "java/lang/String" "coder" "B" (iS 1) from hK.1 1 (by decide))
  obtain ⟨-, cell, p1, p2, p3, -, p5⟩ := Term.field_spec f1 q1 hv
  obtain ⟨-, cell', r1, -, -, -, r5⟩ := Term.field_spec g1 q1 hco
  cases p1.symm.trans q3
  cases r1.symm.trans q3
  rw [f2] at p5
  rw [g2] at r5
  refine ⟨a, q1, _, q3, q5, p2, ?_, p5, r5⟩
  rw [q6]
  exact Option.some.inj (q2.symm.trans hK.2.1)
theorem eq_str {t u : Term} {x : Nat} (h : (Jvm.Cond.eq t u).before args s = true) (hu : u.eval args s none [] s = some (.ref x)) : t.eval args s none [] s = some (.ref x) := by
  cases hv : t.eval args s none [] s with
  | none => simp [Cond.before, Cond.holds, Cond.value, hv] at h
  | some w =>
    simp only [Cond.before, Cond.holds, Cond.value, hv, hu] at h
    cases w <;> simp_all
def GC (s : State) (t : Nat) (ad : Nat → Nat) : Prop := ∃ cell : Cell, s.heap[t]? = some cell ∧ cell.vm.isStatics = false ∧ cell.vm ≠ .unknown ∧ (∃ (kA : Class) (comp : ClassId), s.vm.classes[cell.cls]? = some kA ∧ kA.kind = .array comp (.object "java/lang/String")) ∧ 4 ≤ cell.slots.size ∧ cell.slots.size.toInt32 = nI 4 ∧ ∀ j, j < 4 → cell.slots[j]? = some (.ref (ad (53 + j)))
theorem ns_of {s : State} {cell : Cell} {ty : FieldType} (h : s.isArrayOf cell ty) : cell.vm.isStatics = false := by
  cases hv : cell.vm with
  | statics k => exact absurd hv (h.1 k)
  | _ => rfl
theorem gc_of {ad : Nat → Nat} (hw : ∀ c ∈ grW, c.before args s = true) (h0 : (Term.string "QuillBoatsLaw" 186).eval args s none [] s = some (.ref (ad 53))) (h1 : (Term.string "QuillBoatsLaw" 188).eval args s none [] s = some (.ref (ad 54))) (h2 : (Term.string "QuillBoatsLaw" 190).eval args s none [] s = some (.ref (ad 55))) (h3 : (Term.string "QuillBoatsLaw" 192).eval args s none [] s = some (.ref (ad 56))) : ∃ t, tmG.eval args s none [] s = some (.ref t) ∧ GC s t ad := by
  have m : ∀ (i : Nat) (c : Jvm.Cond), grW[i]? = some c → c.before args s = true := fun i c h => hw c (List.mem_of_getElem? h)
  obtain ⟨t, ht, cell, c1, c2, c3, c4, c5, c6, -⟩ := va_Tof (tm := tmG) (ty := .object "java/lang/String") (N := 4) (f := fun j => .ref (ad (53 + j))) (A := fun q => s.heap.size ≤ q) (by omega) (m 0 _ rfl) (va_eqt (m 1 _ rfl)) (fun j hj => by
    rcases (show j = 0 ∨ j = 1 ∨ j = 2 ∨ j = 3 by omega) with rfl | rfl | rfl | rfl
    · exact eq_str (m 2 _ rfl) h0
    · exact eq_str (m 3 _ rfl) h1
    · exact eq_str (m 4 _ rfl) h2
    · exact eq_str (m 5 _ rfl) h3) (fun a ha h => by omega)
  obtain ⟨hns, k, hk, comp, hkind⟩ := c2
  exact ⟨t, ht, cell, c1, ns_of ⟨hns, k, hk, comp, hkind⟩, c3, ⟨k, comp, hk, hkind⟩, c4, c5, c6⟩
-- statics
theorem st_in : ([("QuillBoatsLaw", "GRADES", "[Ljava/lang/String;"), ("java/lang/Integer", "DigitOnes", "[B"), ("java/lang/Integer", "DigitTens", "[B"), ("jdk/internal/util/Preconditions", "SIOOBE_FORMATTER", "Ljava/util/function/BiFunction;"), ("java/lang/String", "COMPACT_STRINGS", "Z")].all fun q => decide (Jvm.Cond.laysStatic q.1 q.2.1 q.2.2 ∈ tables_1) && decide (Jvm.Cond.initialized q.1 ∈ tables_1)) = true := by decide +kernel
theorem st_Z (hts : ∀ w ∈ tables_1, w.before args s = true) {C n d : String} (h : (C, n, d) ∈ [("QuillBoatsLaw", "GRADES", "[Ljava/lang/String;"), ("java/lang/Integer", "DigitOnes", "[B"), ("java/lang/Integer", "DigitTens", "[B"), ("jdk/internal/util/Preconditions", "SIOOBE_FORMATTER", "Ljava/util/function/BiFunction;"), ("java/lang/String", "COMPACT_STRINGS", "Z")]) {v : Value} (hv : (Term.static C n d).eval args s none [] s = some v) : va_Z C n d v (fun z => s.heap.size ≤ z) s s.heap := by
  have q := List.all_eq_true.mp st_in _ h
  rw [Bool.and_eq_true] at q
  exact va_Zof (hts _ (of_decide_eq_true q.1)) (hts _ (of_decide_eq_true q.2)) hv (fun a ha z => by omega)
theorem isR_of {t : Term} (h : (Jvm.Cond.isRef t).before args s = true) : ∃ v, t.eval args s none [] s = some v ∧ (v = .null ∨ ∃ x, v = .ref x) := by
  cases hv : t.eval args s none [] s with
  | none => simp [Cond.before, Cond.holds, Cond.value, hv] at h
  | some w =>
    simp only [Cond.before, Cond.holds, Cond.value, hv] at h
    cases w with
    | null => exact ⟨_, rfl, Or.inl rfl⟩
    | ref x => exact ⟨_, rfl, Or.inr ⟨x, rfl⟩⟩
    | _ => simp at h
end

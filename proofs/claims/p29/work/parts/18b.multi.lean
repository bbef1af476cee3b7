/-! SOUNDNESS of new T[n][0]: n empty rows in a new row -/
def mzO (c : ClassId) (N h0 i : Nat) : Cell := { cls := c, slots := Array.ofFn (n := N) fun j => if j.val < i then Value.ref (h0 + 1 + j.val) else Value.null, vm := .none }
def mzI (comp : ClassId) : Cell := { cls := comp, slots := #[], vm := .none }
def mz (s : State) (c comp : ClassId) (N : Nat) : Nat → State
  | 0 => s.pushCell (mzO c N s.heap.size 0)
  | i + 1 => ((mz s c comp N i).pushCell (mzI comp)).setCell s.heap.size (mzO c N s.heap.size (i + 1))
theorem mzO_size (c : ClassId) (N h0 i : Nat) : (mzO c N h0 i).slots.size = N := by show (Array.ofFn _).size = N; simp
theorem mzO_get {c : ClassId} {N h0 i j : Nat} (hj : j < N) : (mzO c N h0 i).slots[j]? = some (if j < i then .ref (h0 + 1 + j) else .null) := by
  show (Array.ofFn _)[j]? = _
  simp [hj]
theorem mzO_set {c : ClassId} {N h0 i : Nat} (hi : i < N) : (mzO c N h0 i).setSlot i (.ref (h0 + 1 + i)) = mzO c N h0 (i + 1) := by
  have h1 : ((mzO c N h0 i).setSlot i (.ref (h0 + 1 + i))).slots = (mzO c N h0 (i + 1)).slots := by
    apply Array.ext_getElem?
    intro j
    rw [slot_set (by rw [mzO_size]; exact hi)]
    by_cases hj : j < N
    · rw [mzO_get hj]
      by_cases hji : j = i
      · subst hji
        rw [if_pos rfl, mzO_get hj, if_pos (by omega)]
      · rw [if_neg hji]
        rw [mzO_get hj]
        by_cases h2 : j < i
        · rw [if_pos h2, if_pos (by omega)]
        · rw [if_neg h2, if_neg (by omega)]
    · have e1 : (mzO c N h0 i).slots[j]? = none := by rw [Array.getElem?_eq_none_iff, mzO_size]; omega
      have e2 : (mzO c N h0 (i + 1)).slots[j]? = none := by rw [Array.getElem?_eq_none_iff, mzO_size]; omega
      rw [if_neg (by omega), e1, e2]
  show ({ cls := c, slots := ((mzO c N h0 i).setSlot i (.ref (h0 + 1 + i))).slots, vm := .none } : Cell) = _
  rw [h1]
  rfl
theorem mz_facts (s : State) (c comp : ClassId) (N : Nat) : ∀ i, (mz s c comp N i).heap.size = s.heap.size + 1 + i ∧ (mz s c comp N i).heap[s.heap.size]? = some (mzO c N s.heap.size i) ∧ (mz s c comp N i).vm = s.vm ∧ (mz s c comp N i).slotsUsed = s.slotsUsed + N ∧ (∀ q, q < s.heap.size → (mz s c comp N i).heap[q]? = s.heap[q]?) ∧ ∀ j, j < i → (mz s c comp N i).heap[s.heap.size + 1 + j]? = some (mzI comp)
  | 0 => by
    refine ⟨by simp [mz, State.pushCell], by simp [mz, State.pushCell], rfl, by show s.slotsUsed + (mzO c N s.heap.size 0).slots.size = _; rw [mzO_size], fun q hq => ?_, fun j hj => by omega⟩
    show (s.heap.push _)[q]? = _
    rw [Array.getElem?_push, if_neg (by omega)]
  | i + 1 => by
    obtain ⟨a1, a2, a3, a4, a5, a6⟩ := mz_facts s c comp N i
    have hh : (mz s c comp N (i + 1)).heap = ((mz s c comp N i).heap.push (mzI comp)).setIfInBounds s.heap.size (mzO c N s.heap.size (i + 1)) := rfl
    refine ⟨by rw [hh]; simp [a1]; omega, ?_, a3, ?_, fun q hq => ?_, fun j hj => ?_⟩
    · rw [hh, Array.getElem?_setIfInBounds_self_of_lt (by rw [Array.size_push, a1]; omega)]
    · show (mz s c comp N i).slotsUsed + 0 = _
      rw [a4]
      rfl
    · rw [hh, Array.getElem?_setIfInBounds_ne (by omega), Array.getElem?_push, if_neg (by rw [a1]; omega)]
      exact a5 q hq
    · rw [hh, Array.getElem?_setIfInBounds_ne (by omega), Array.getElem?_push]
      by_cases hji : j = i
      · subst hji
        rw [if_pos (by rw [a1])]
      · rw [if_neg (by rw [a1]; omega)]
        exact a6 j (by omega)
theorem mz_setTop (s : State) (f : JFrame) (c comp : ClassId) (N : Nat) : ∀ i, mz (s.setTop f) c comp N i = (mz s c comp N i).setTop f
  | 0 => rfl
  | i + 1 => by
    show ((mz (s.setTop f) c comp N i).pushCell (mzI comp)).setCell (s.setTop f).heap.size _ = _
    rw [mz_setTop s f c comp N i, State.heap_setTop, State.pushCell_setTop, State.setCell_setTop]
    rfl
theorem mz_stand {p : Program} {l : Launch} {e : Env} {R : Room} {s : State} {m : MethodId} {args : Array Value} {below : List Frame} {meth : Method} {c : Code} {T : State} {locs : List Loc} {cells slots : Nat} (X : Stand p l e R s m args below meth c T locs cells slots) (cA comp : ClassId) (N : Nat) : ∀ i, i ≤ N → ∃ L : List Loc, (∀ q ∈ L, q.base = T.heap.size) ∧ Stand p l e R s m args below meth c (mz T cA comp N i) (locs ++ L) (cells + 1 + i) (slots + N)
  | 0, _ => by
    have h1 := X.pushed (mzO cA N T.heap.size 0)
    rw [mzO_size] at h1
    exact ⟨[], (fun q h => by cases h), (by rw [List.append_nil]; exact h1)⟩
  | i + 1, hi => by
    obtain ⟨L, h1, h2⟩ := mz_stand X cA comp N i (by omega)
    obtain ⟨a1, a2, -⟩ := mz_facts T cA comp N i
    have h3 := h2.pushed (mzI comp)
    have h4 : ((mz T cA comp N i).pushCell (mzI comp)).heap[T.heap.size]? = some (mzO cA N T.heap.size i) := by
      show ((mz T cA comp N i).heap.push _)[T.heap.size]? = _
      rw [Array.getElem?_push, if_neg (by rw [a1]; omega)]
      exact a2
    have h5 := h3.stored h4 i (.ref (T.heap.size + 1 + i))
    rw [mzO_set (by omega)] at h5
    refine ⟨L ++ [⟨T.heap.size, i⟩], fun q hq => ?_, ?_⟩
    · rcases List.mem_append.mp hq with h | h
      · exact h1 q h
      · rw [List.mem_singleton.mp h]
    · rw [← List.append_assoc]
      exact h5
section
variable {E : CtlPost} {e : Env} {d : Bool} {acts : List Action} {s : State}
theorem mz_new {c comp : ClassId} {k : Class} {t : FieldType} {len : Nat} (hk : s.vm.classes[c]? = some k) (hkind : k.kind = .array comp t) (href : t.isReference = true) (hlimit : ¬ len > e.platform.arrayLengthLimit) (hheap : ¬ len * componentBytes t > e.platform.maxHeapBytes) {Q : Addr → Pre}
    (h1 : s.heap.size < e.platform.maxCells) (h2 : s.slotsUsed + len ≤ e.platform.maxSlots) (hq : Q s.heap.size d acts (s.pushCell { cls := c, slots := Array.replicate len .null, vm := .none })) : wp (Jvm.newArray c len .null) Q E e d acts s := by
  have hfit : fits t .null = true := by cases t <;> first | rfl | cases href
  have hfits : ∀ (i : Nat) (v : Value), (Array.replicate len Value.null)[i]? = some v → s.fitsSlot c .none i v = true := by
    intro i v hv
    rw [Array.getElem?_replicate] at hv
    split at hv
    · cases hv
      simp [State.fitsSlot, State.slotType?, hk, hkind, hfit]
    · cases hv
  have hall : (Array.replicate len Value.null).all (fun v => v.isDefault) = true := by
    rw [Array.all_replicate]
    split <;> rfl
  have hact : allocActs (Array.replicate len Value.null) s.heap.size acts = acts := by
    unfold allocActs
    rw [if_pos hall]
  simp only [Jvm.newArray, Jvm.arrayFits, wp_bind', W.ask, W.ite, hlimit, if_false, wp_pure', W.theClass, hk, hkind, hheap, W.alloc, W.stop, Option.some.injEq, exists_eq_left', Array.size_replicate, hact]
  rw [if_neg (by omega)]
  exact ⟨h1, h2, hfits, hq⟩
end
theorem oc_0 (c : ClassId) (N h0 : Nat) : ({ cls := c, slots := Array.replicate N .null, vm := .none } : Cell) = mzO c N h0 0 := by
  have h1 : Array.replicate N Value.null = (mzO c N h0 0).slots := by
    apply Array.ext_getElem?
    intro j
    by_cases hj : j < N
    · rw [mzO_get hj, repl_get hj, if_neg (by omega)]
    · have e1 : (Array.replicate N Value.null)[j]? = none := by rw [Array.getElem?_eq_none_iff, Array.size_replicate]; omega
      have e2 : (mzO c N h0 0).slots[j]? = none := by rw [Array.getElem?_eq_none_iff, mzO_size]; omega
      rw [e1, e2]
  rw [h1]
  rfl
section
variable {E : CtlPost} {e : Env} {d : Bool} {acts : List Action} {s : State}
theorem mz_make {c comp cc : ClassId} {k kc : Class} {t0 type : FieldType} {n m : Int32} (hk : s.vm.classes[c]? = some k) (hkind : k.kind = .array comp t0) (href : t0.isReference = true)
    (hkc : s.vm.classes[comp]? = some kc) (hkindc : kc.kind = .array cc type) (hrefc : type.isReference = true) (hn : ¬ n < 0) (hm : m = 0)
    (hl1 : ¬ n.toNatClampNeg > e.platform.arrayLengthLimit) (hh1 : ¬ n.toNatClampNeg * componentBytes t0 > e.platform.maxHeapBytes)
    (hc : s.heap.size + 1 + n.toNatClampNeg ≤ e.platform.maxCells) (hs : s.slotsUsed + n.toNatClampNeg ≤ e.platform.maxSlots)
    {Q : Addr → Pre} (hq : ∀ d' acts', Q s.heap.size d' acts' (mz s c comp n.toNatClampNeg n.toNatClampNeg)) :
    wp (multianewarray.make c [n, m]) Q E e d acts s := by
  subst hm
  have hfind : (([0] : List Int32).find? (· < 0)) = none := rfl
  have hdv : defaultValue t0 = .null := by cases t0 <;> first | rfl | cases href
  have hdc : defaultValue type = .null := by cases type <;> first | rfl | cases hrefc
  have hfit : ∀ a, fits t0 (.ref a) = true := by intro a; cases t0 <;> first | rfl | cases href
  rw [multianewarray.make]
  simp only [wp_bind', W.ite, hn, if_false, wp_pure', W.theClass, hk, hkind, Option.some.injEq, exists_eq_left']
  refine mz_new hk hkind href hl1 hh1 (by omega) (by omega) ?_
  simp only [hfind]
  rw [ite_self, wp_bind', Std.Legacy.Range.forIn_eq_forIn_range']
  have hsz : ([:n.toNatClampNeg] : Std.Legacy.Range).size = n.toNatClampNeg := by simp [Std.Legacy.Range.size]
  rw [hsz]
  show wp (forIn (List.range' 0 n.toNatClampNeg 1) PUnit.unit _) _ E e d acts _
  refine wp_forIn_inv (fun rest s' => ∃ i, i ≤ n.toNatClampNeg ∧ rest = List.range' i (n.toNatClampNeg - i) ∧ s' = mz s c comp n.toNatClampNeg i) _ _ ⟨0, Nat.zero_le _, rfl, by rw [oc_0]; rfl⟩ ?_ ?_
  · rintro x rest s' d' acts' Q' ⟨i, hi, hl, rfl⟩ hnext
    have hlt : i < n.toNatClampNeg := by
      rcases Nat.lt_or_ge i n.toNatClampNeg with h | h
      · exact h
      · rw [show n.toNatClampNeg - i = 0 from by omega] at hl; simp at hl
    obtain ⟨rfl, hrest⟩ : x = i ∧ rest = List.range' (i + 1) (n.toNatClampNeg - (i + 1)) := by
      rw [show n.toNatClampNeg - i = (n.toNatClampNeg - (i + 1)) + 1 from by omega, List.range'_succ] at hl
      exact ⟨(List.cons.inj hl).1, (List.cons.inj hl).2⟩
    obtain ⟨f1, f2, f3, f4, -, -⟩ := mz_facts s c comp n.toNatClampNeg x
    simp only [wp_bind']
    rw [multianewarray.make]
    simp only [wp_bind', W.ite, show ¬ ((0 : Int32) < 0) from by decide, if_false, wp_pure', W.theClass, f3, hkc, hkindc, Option.some.injEq, exists_eq_left', hdc]
    refine mz_new (by rw [f3]; exact hkc) hkindc hrefc (Nat.not_lt_zero _) (by rw [Nat.zero_mul]; exact Nat.not_lt_zero _) (by rw [f1]; omega) (by rw [f4]; omega) ?_
    have hlt0 : s.heap.size < (mz s c comp n.toNatClampNeg x).heap.size := by rw [f1]; omega
    simp only [wp_bind', W.writeLoc, wp_pure']
    refine ⟨mzO c n.toNatClampNeg s.heap.size x, by rw [State.heap_pushCell_of_lt (h := hlt0)]; exact f2, (fun z => nomatch z), by rw [mzO_size]; exact hlt, ?_, hnext _ _ _ ⟨x + 1, hlt, hrest, ?_⟩⟩
    · simp [State.fitsSlot, State.slotType?, f3, mzO, hk, hkind, hfit]
    · rw [f1, mzO_set hlt]; rfl
  · rintro s' d' acts' ⟨i, hi, hl, rfl⟩
    have hiN : i = n.toNatClampNeg := by
      rcases Nat.lt_or_ge i n.toNatClampNeg with h | h
      · rw [show n.toNatClampNeg - i = (n.toNatClampNeg - (i + 1)) + 1 from by omega, List.range'_succ] at hl; cases hl
      · omega
    subst hiN
    simp only [wp_pure']
    exact hq _ _
end
section
variable {p : Program} {l : Launch} {e : Env} {R : Room} {s : State} {m : MethodId} {args : Array Value} {below : List Frame} {meth : Method} {c : Code} {H : Heap} {locs : List Loc} {cells slots : Nat} {Q : State → Prop}
theorem w_multi {cc : ByteArray} (hexec : p.tables.exec = Jvm.exec) (hb : c.code = cc) {own nm : String} {index : Nat} {ty ty0 : FieldType} (hown : s.vm.findClass own = some m.cls) (hclink : (Cond.classLink own index nm).before args s = true)
    {cA comp cx : ClassId} {kA kC : Class} (hnm : s.vm.findClass nm = some cA) (hkA : s.vm.classes[cA]? = some kA) (hkindA : kA.kind = .array comp (.array ty0)) (hkC : s.vm.classes[comp]? = some kC) (hkindC : kC.kind = .array cx (.array ty))
    {g : JFrame} (hg : g.method = m) (hdg : decode cc g.pc = .ok (.multianewarray index 2, 4)) {n k : Int32} {rest : List Value} (hstack : g.stack = .int k :: .int n :: rest) (hn : ¬ n < 0) (hk : k = 0) (hbytes : n.toNatClampNeg * 4 ≤ 536870912) (hcells : cells + (1 + n.toNatClampNeg) ≤ R.cells) (hslots : slots + n.toNatClampNeg ≤ R.slots)
    (kk : ∀ (H' : Heap) (L : List Loc), (∀ q ∈ L, q.base = H.size) → H'.size = H.size + 1 + n.toNatClampNeg → H'[H.size]? = some (mzO cA n.toNatClampNeg H.size n.toNatClampNeg) → (∀ q, q < H.size → H'[q]? = H[q]?) → (∀ j, j < n.toNatClampNeg → H'[H.size + 1 + j]? = some (mzI comp)) →
      W p l e R s m args below meth c H' (locs ++ L) (cells + 1 + n.toNatClampNeg) (slots + n.toNatClampNeg) Q { g with pc := g.pc + 4, stack := .ref H.size :: rest }) : W p l e R s m args below meth c H locs cells slots Q g := by
  intro T hT X
  subst hT; subst hb; subst hg
  have hpl : e.platform.magicAccessors = ({} : Platform).magicAccessors := by rw [X.admits.platform]
  obtain ⟨c0, hfc0, hcl⟩ := Cond.classLink_spec hown hclink e.platform hpl
  cases hnm.symm.trans hfc0
  obtain ⟨hg₁, hwarm₁, hready₁⟩ := State.classEntry (e := e) X.warmed hcl
  generalize T.vm.noted g.method.cls index (.cls cA) = vm₁ at hg₁ hwarm₁ hready₁
  have hal : s.vm.Alike vm₁ := hwarm₁.alike
  obtain ⟨kA₁, hkA₁, heA⟩ := hal.2.2 _ _ hkA
  obtain ⟨kC₁, hkC₁, heC⟩ := hal.2.2 _ _ hkC
  have hkindA₁ : kA₁.kind = .array comp (.array ty0) := by rw [heA]; exact hkindA
  have hkindC₁ : kC₁.kind = .array cx (.array ty) := by rw [heC]; exact hkindC
  have X₁ := X.noted hwarm₁
  obtain ⟨hr1, hr2⟩ := X.roomAbove hcells hslots
  have hl1 : ¬ n.toNatClampNeg > e.platform.arrayLengthLimit := by rw [Launch.admits_arrayLengthLimit X.admits]; omega
  have hh1 : ¬ n.toNatClampNeg * componentBytes (.array ty0) > e.platform.maxHeapBytes := by
    rw [Launch.admits_maxHeapBytes X.admits]; show ¬ n.toNatClampNeg * 4 > 536870912; omega
  obtain ⟨LL, hLL, XF⟩ := mz_stand X₁ cA comp n.toNatClampNeg n.toNatClampNeg (Nat.le_refl _)
  obtain ⟨f1, f2, f3, f4, f5, f6⟩ := mz_facts (T.setVm vm₁) cA comp n.toNatClampNeg n.toNatClampNeg
  obtain ⟨t', a1, b1⟩ := kk _ LL hLL f1 f2 f5 f6 (mz (T.setVm vm₁) cA comp n.toNatClampNeg n.toNatClampNeg) rfl XF
  refine ⟨t', ?_, b1⟩
  jvm_step X.here [hexec, hdg]
  simp only [multianewarray.sem, wp_bind', W.resolveClassAt_links (State.method?_setTop g X.here.top) hg₁]
  rw [W.popN, if_neg (by decide)]
  refine ⟨g, State.topJava?_setTop' (s := T.setVm vm₁) g X.here.top, [.int n, .int k], rest, rfl, hstack, ?_⟩
  simp only [List.mapM_cons, List.mapM_nil, wp_bind', wp_pure']
  refine mz_make (k := kA₁) (kc := kC₁) (comp := comp) (cc := cx) (t0 := .array ty0) (type := .array ty) hkA₁ hkindA₁ rfl hkC₁ hkindC₁ rfl hn hk hl1 hh1 (by show T.heap.size + 1 + _ ≤ _; omega) (by show T.slotsUsed + _ ≤ _; omega) (fun d' acts' => ?_)
  have eS : ((T.setTop g).setVm vm₁).setTop { g with stack := rest } = (T.setVm vm₁).setTop { g with stack := rest } := by
    show ((T.setVm vm₁).setTop g).setTop _ = _
    rw [State.setTop_setTop]
  rw [eS, mz_setTop]
  simp only [wp_bind', W.mark, W.pushRef, State.topJava?_setTop' _ XF.here.top, Option.some.injEq, exists_eq_left', State.setTop_setTop, State.heap_setTop]
  intro acts
  simp [jvm, XF.here.top]
  exact a1
end
theorem HR.multi {B0 : Nat} {g : Nat → Value} {dC : Nat → ClassId} {dI : Nat → Nat → Nat} {dA : Nat → ClassId} {H0 : Heap} (G : gok B0 g) {h : AH} {H H' : Heap} {n : Nat} (hr : HR B0 g dC dI dA H0 h H)
    (z2 : H'.size = H.size + 1 + n) (z1 : H'[H.size]? = some (mzO (dA 9) n H.size n)) (z3 : ∀ q, q < H.size → H'[q]? = H[q]?) (z4 : ∀ j, j < n → H'[H.size + 1 + j]? = some (mzI (dA 8))) : HR B0 g dC dI dA H0 (hMA h 110 109 n) H' ∧ g (hN h) = .ref H.size := by
  obtain ⟨h1, h2, h3, h4⟩ := hr
  have hg : ∀ i, g (hN h + i) = .ref (H.size + i) := by
    intro i
    rw [G.2.1 _ (by omega), h2, show B0 + (hN h + i - KK) = B0 + (hN h - KK) + i from by omega]
  have hN' : hN (hMA h 110 109 n) = hN h + 1 + n := rfl
  have hT' : ∀ b, hT (hMA h 110 109 n) b = if b = hN h then 110 else if hN h < b ∧ b < hN h + 1 + n then 109 else hT h b := fun _ => rfl
  have hL' : ∀ b, hL (hMA h 110 109 n) b = if b = hN h then n else if hN h < b ∧ b < hN h + 1 + n then 0 else hL h b := fun _ => rfl
  have hI' : ∀ b j, hI (hMA h 110 109 n) b j = if hN h ≤ b ∧ b < hN h + 1 + n then 0 else hI h b j := fun _ _ => rfl
  have hR' : ∀ b j, hR (hMA h 110 109 n) b j = if b = hN h then hN h + 1 + j else if hN h < b ∧ b < hN h + 1 + n then 0 else hR h b j := fun _ _ => rfl
  have hJ' : ∀ b j, hJ (hMA h 110 109 n) b j = if hN h ≤ b ∧ b < hN h + 1 + n then 0 else hJ h b j := fun _ _ => rfl
  generalize hMA h 110 109 n = h' at hN' hT' hL' hI' hR' hJ' ⊢
  refine ⟨⟨by rw [hN']; omega, by rw [hN', z2, h2]; omega, fun q hq => by rw [z3 q (by omega)]; exact h3 q hq, fun a ha => ?_⟩, hg 0⟩
  by_cases c1 : a = hN h
  · subst c1
    have t1 : hT h' (hN h) = 110 := by rw [hT', if_pos rfl]
    have t2 : hL h' (hN h) = n := by rw [hL', if_pos rfl]
    refine ⟨by rw [hN']; omega, Or.inl h1, _, mzO (dA 9) n H.size n, hg 0, z1, rfl, (fun z => nomatch z), fun _ => rfl, fun hk => by omega, Or.inr ⟨by rw [t1]; omega, by rw [t1]; omega, by rw [t1]; rfl, szR.of (by rw [t2, mzO_size]), fun ty hty j hj => ?_, fun z => by rw [t1] at z; omega⟩⟩
    rw [t1] at hty
    rw [t2] at hj
    cases hty
    rw [mzO_get hj, if_pos hj]
    show _ = some (g (hR h' (hN h) j))
    rw [hR', if_pos rfl, show hN h + 1 + j = hN h + (1 + j) from by omega, hg, show H.size + 1 + j = H.size + (1 + j) from by omega]
  · by_cases c2 : hN h < a ∧ a < hN h + 1 + n
    · have t1 : hT h' a = 109 := by rw [hT', if_neg c1, if_pos c2]
      have t2 : hL h' a = 0 := by rw [hL', if_neg c1, if_pos c2]
      have z5 := z4 (a - hN h - 1) (by omega)
      have g5 := hg (a - hN h)
      rw [show hN h + (a - hN h) = a from by omega] at g5
      rw [show H.size + 1 + (a - hN h - 1) = H.size + (a - hN h) from by omega] at z5
      refine ⟨by rw [hN']; omega, Or.inl (by omega), _, mzI (dA 8), g5, z5, rfl, (fun z => nomatch z), fun _ => rfl, fun hk => by omega, Or.inr ⟨by rw [t1]; omega, by rw [t1]; omega, by rw [t1]; rfl, szR.of (by rw [t2]; rfl), fun ty hty j hj => by rw [t2] at hj; omega, fun z => by rw [t1] at z; omega⟩⟩
    · have t1 : hT h' a = hT h a := by rw [hT', if_neg c1, if_neg c2]
      have c3 : ¬ (hN h ≤ a ∧ a < hN h + 1 + n) := by omega
      rw [t1] at ha ⊢
      obtain ⟨q1, q2, y, cell, q3, q4, q5, q6, q7, q8, q9⟩ := h4 a ha
      exact ⟨by rw [hN']; omega, q2, y, cell, q3, by rw [z3 y (Array.getElem?_eq_some_iff.mp q4).1]; exact q4, q5, q6, q7, q8, cellR_row t1 (by rw [hL', if_neg c1, if_neg c2]) (fun j => by rw [hI', if_neg c3]) (fun j => by rw [hR', if_neg c1, if_neg c2]) (fun j => by rw [hJ', if_neg c3]) q9⟩
theorem sw_multianewarray (idx nn : Nat) : SW (.multianewarray idx nn) := by
  intro B0 g dC dI dA H0 p l e R s m args below meth c Q y bytes ret len aux pc L st h pc' L' st' h' ls H locs cells slots G X hd hok hs hL hH hlo hc hsl hfr hll k
  obtain ⟨hx, hb, hml, hown, hts, hK, hini⟩ := X
  simp only [okI, Bool.and_eq_true] at hok
  obtain ⟨⟨hok1, hok2⟩, hok⟩ := hok
  obtain rfl := bq hok1
  obtain rfl := bq hok2
  split at hok
  · rename_i r1 r2 r3
    simp only [step1] at hs
    split at hs
    · rename_i t' u' r' k0 n st1 hax
      cases hax
      obtain ⟨hp, hs⟩ := gd_inj hs
      obtain ⟨rfl, rfl, rfl, rfl⟩ := go_inj hs
      have eN : hN (hMA h 110 109 (ix n)) - hN h = 1 + ix n := by show hN h + 1 + ix n - hN h = 1 + ix n; omega
      have eU : hU (hMA h 110 109 (ix n)) - hU h = ix n := by show hU h + ix n - hU h = ix n; omega
      rw [eN] at hc
      rw [eU] at hsl
      have hby : (ix n) * 4 ≤ 536870912 := by have := hp.2.2; omega
      obtain ⟨kA, comp, y1, y2, y3', -, y5⟩ := hK.2.1 9 (.array (.array .int)) rfl
      obtain ⟨kC, comp2, w1, w2, w3', -⟩ := hK.2.1 8 (.array .int) rfl
      have y3 := y3' (by decide)
      have w3 := w3' (by decide)
      have hcomp : comp = dA 8 := (Option.some.inj ((y5 _ rfl).symm.trans w3))
      subst hcomp
      refine w_multi hx hb hown (hts _ (hasW_mem hok)) (nm := "[[[I") (cA := dA 9) y3 y1 y2 w1 w2 rfl hd rfl hp.2.1 hp.1 hby hc hsl (fun H' LL hLL z2 z1 z3 z4 => ?_)
      obtain ⟨hHR, hg⟩ := HR.multi G hH z2 z1 z3 z4
      have h8 := k ls H' (locs ++ LL) hL hHR (fun q hq => by
        rcases List.mem_append.mp hq with hq | hq
        · exact hlo q hq
        · rw [hLL q hq]
          have := hH.2.1
          omega)
      rw [eN, eU, List.map_cons, show enc g (.ref (hN h)) = g (hN h) from rfl, hg, show cells + (1 + ix n) = cells + 1 + ix n from by omega] at h8
      exact h8
    · cases hs
  · cases hok

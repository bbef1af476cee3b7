/-! 10 SOUNDNESS of the small machine over the kit's: what is held, locals, simple instructions -/
theorem lkR_mem {pc : Nat} : ∀ {b : List (Nat × Row)} {r : Row}, lkR pc b = some r → (pc, r) ∈ b
  | [], _, h => by cases h
  | (k, q) :: b, r, h => by
    unfold lkR at h
    cases hk : Nat.beq k pc with
    | true =>
      rw [hk] at h
      have e1 : k = pc := Nat.eq_of_beq_eq_true hk
      cases h
      rw [e1]
      exact List.mem_cons_self
    | false =>
      rw [hk] at h
      exact List.mem_cons_of_mem _ (lkR_mem h)
theorem tb_ok {i pc : Nat} {r : Row} (h : tb i pc = some r) : i < NM ∧ ∃ y bytes mL' ret hints, mdOf i = some (y, bytes, mL', ret, hints) ∧ okRow y bytes ret (pc, r) = true := by
  unfold tb at h
  cases hB : TLs[i / 16]? with
  | none => rw [hB] at h; cases h
  | some B =>
    rw [hB] at h
    dsimp only at h
    cases hT : B[i % 16]? with
    | none => rw [hT] at h; cases h
    | some T =>
      rw [hT] at h
      dsimp only at h
      have hi : i / 16 < TLs.length := (List.getElem?_eq_some_iff.mp hB).1
      rw [tl_none] at hi
      have h1 := tl_len _ hi B hB
      have h2 : i % 16 < B.length := (List.getElem?_eq_some_iff.mp hT).1
      have hlt : i < NM := by unfold NM; omega
      refine ⟨hlt, ?_⟩
      have hok := ok_all i hlt (pc / 32)
      unfold okBk at hok
      rw [hB] at hok
      cases hm : mdOf i with
      | none =>
        exfalso
        unfold mdOf at hm
        have := List.getElem?_eq_none_iff.mp hm
        have h3 : MDs.length = NM := rfl
        omega
      | some md =>
        obtain ⟨y, bytes, mL', ret, hints⟩ := md
        rw [hm] at hok
        dsimp only at hok
        rw [hT] at hok
        dsimp only at hok
        refine ⟨y, bytes, mL', ret, hints, rfl, ?_⟩
        unfold tbR at h
        cases hb : T[pc / 32]? with
        | none => rw [hb] at h; cases h
        | some b =>
          rw [hb] at h
          have hd : T.getD (pc / 32) [] = b := by rw [List.getD_eq_getElem?_getD, hb]; rfl
          rw [hd] at hok
          exact List.all_eq_true.mp hok _ (lkR_mem h)
theorem twAt_mem {r : Nat} {w : Jvm.Cond} (h : twAt r = some w) : w ∈ TW := by
  unfold twAt at h
  cases hl : TWs[r / 1000]? with
  | none => rw [hl] at h; cases h
  | some l =>
    rw [hl] at h
    exact List.mem_flatten.mpr ⟨l, List.mem_of_getElem? hl, List.mem_of_getElem? h⟩
theorem hasW_mem {r : Nat} {w : Jvm.Cond} (h : hasW r w = true) : w ∈ TWg := by
  unfold hasW at h
  rw [Bool.and_eq_true] at h
  exact List.mem_filter.mpr ⟨twAt_mem (of_decide_eq_true h.2), h.1⟩
theorem cw_mem {j : Nat} {y : MethodName} {bytes : ByteArray} {mL' : Nat} {ret : Option FieldType} {hints : List Nat} (hj : j ≠ 0) (h : mdOf j = some (y, bytes, mL', ret, hints)) : Jvm.Cond.code y bytes mL' ret ∈ TWg := by
  obtain ⟨r, hr⟩ := cw_all j y bytes mL' ret hints hj h
  exact List.mem_filter.mpr ⟨twAt_mem hr, rfl⟩
-- ===== values, cells, heaps =====
def enc (g : Nat → Value) : Value → Value
  | .ref a => g a
  | v => v
def gok (B0 : Nat) (g : Nat → Value) : Prop := g 0 = .null ∧ (∀ a, KK ≤ a → g a = .ref (B0 + (a - KK))) ∧ ∀ a, g a = .null ∨ ∃ x, g a = .ref x
def avv (h : AH) (ty : FieldType) (a j : Nat) : Value := match ty with
  | .long => .long (hJ h a j)
  | .object _ => .ref (hR h a j)
  | .array _ => .ref (hR h a j)
  | _ => .int (hI h a j)
-- an array's length against its cell's (of the constant array of strings less is known)
def szR (t n z : Nat) : Prop := n ≤ z ∧ z.toInt32 = nI n ∧ (t ≠ 111 → z = n)
theorem szR.of {t n z : Nat} (h : z = n) : szR t n z := ⟨by omega, by rw [h]; rfl, fun _ => h⟩
theorem szR.eq {t n z : Nat} (h : szR t n z) (ht : t ≠ 111) : z = n := h.2.2 ht
def cellR (g : Nat → Value) (dC : Nat → ClassId) (dI : Nat → Nat → Nat) (dA : Nat → ClassId) (h : AH) (a : Nat) (cell : Cell) : Prop :=
  (1 ≤ hT h a ∧ hT h a ≤ 15 ∧ cell.cls = dC (hT h a - 1) ∧ ∀ q, CT[hT h a - 1]? = some q → ∀ k, k < q.2.2 → cell.slots[dI (hT h a - 1) k]? = some (enc g (fv h (kdD (q.2.1 k).2.2.1) a k))) ∨
  (101 ≤ hT h a ∧ hT h a ≤ 112 ∧ cell.cls = dA (hT h a - 101) ∧ szR (hT h a) (hL h a) cell.slots.size ∧ (∀ ty, ATy[hT h a - 101]? = some ty → ∀ j, j < hL h a → cell.slots[j]? = some (enc g (avv h ty a j))) ∧ (hT h a = 102 → ∀ j, (hI h a j).toInt8.toInt32 = hI h a j))
def HR (B0 : Nat) (g : Nat → Value) (dC : Nat → ClassId) (dI : Nat → Nat → Nat) (dA : Nat → ClassId) (H0 : Heap) (h : AH) (H : Heap) : Prop :=
  KK ≤ hN h ∧ H.size = B0 + (hN h - KK) ∧ (∀ q : Nat, q < B0 → H[q]? = H0[q]?) ∧ ∀ a : Nat, hT h a ≠ 0 → a < hN h ∧ (KK ≤ a ∨ onlyConst (hT h a) = true) ∧ ∃ (x : Nat) (cell : Cell), g a = .ref x ∧ H[x]? = some cell ∧ cell.vm.isStatics = false ∧ cell.vm ≠ .unknown ∧ (KK ≤ a → cell.vm = .none) ∧ (a < KK → x < B0) ∧ cellR g dC dI dA h a cell
-- ===== locals =====
def okL (L : List Value) (i : Nat) (v : Value) : Prop := (∀ p, v ≠ .retAddr p) ∧ (v.category = 2 → ∃ p, L[i + 1]? = some (.retAddr p))
def LR (g : Nat → Value) (ls : Array Slot) (L : List Value) : Prop := ls.size = L.length ∧ lv_wf ls ∧ ∀ (i : Nat) (v : Value), L[i]? = some v → okL L i v → ls[i]? = some (.val (enc g v))
theorem enc_cat {B0 : Nat} {g : Nat → Value} (G : gok B0 g) (v : Value) (hv : ∀ p, v ≠ .retAddr p) : (enc g v).category = v.category := by
  cases v with
  | ref a => rcases G.2.2 a with h | ⟨x, h⟩ <;> (show (g a).category = 1; rw [h]; rfl)
  | _ => rfl
noncomputable def lvL (g : Nat → Value) (L : List Value) : List (Nat × Value) := by
  classical
  exact (List.range L.length).filterMap fun j => match L[j]? with
    | some v => if okL L j v then some (j, enc g v) else none
    | none => none
theorem lvL_mem {g : Nat → Value} {L : List Value} {q : Nat × Value} : q ∈ lvL g L ↔ ∃ v, L[q.1]? = some v ∧ okL L q.1 v ∧ q.2 = enc g v := by
  unfold lvL
  rw [List.mem_filterMap]
  constructor
  · rintro ⟨j, -, hj⟩
    cases hv : L[j]? with
    | none => rw [hv] at hj; cases hj
    | some v =>
      rw [hv] at hj
      dsimp only at hj
      split at hj
      · cases hj; exact ⟨v, hv, by assumption, rfl⟩
      · cases hj
  · rintro ⟨v, h1, h2, h3⟩
    refine ⟨q.1, List.mem_range.mpr (List.getElem?_eq_some_iff.mp h1).1, ?_⟩
    rw [h1]
    dsimp only
    rw [if_pos h2, ← h3]
theorem LR.has {g : Nat → Value} {ls : Array Slot} {L : List Value} (h : LR g ls L) : lv_has ls L.length (lvL g L) := by
  refine ⟨h.1, h.2.1, fun q hq => ?_⟩
  obtain ⟨v, h1, h2, h3⟩ := lvL_mem.mp hq
  rw [h3]
  exact h.2.2 q.1 v h1 h2
theorem LR.set {B0 : Nat} {g : Nat → Value} (G : gok B0 g) {ls : Array Slot} {L : List Value} {i : Nat} {v : Value} (hi : i < L.length) (hc : v.category = 1) (hr : ∀ p, v ≠ .retAddr p)
    (h : lv_has ls L.length ((i, enc g v) :: (lvL g L).filter (fun q => !(q.1 == i) && !(q.1 + 1 == i && q.2.category == 2)))) : LR g ls (L.set i v) := by
  refine ⟨by rw [List.length_set]; exact h.1, h.2.1, fun j w hj hw => ?_⟩
  by_cases e : j = i
  · subst e
    rw [List.getElem?_set_self hi] at hj
    cases hj
    exact h.2.2 (j, enc g v) List.mem_cons_self
  · rw [List.getElem?_set_ne (Ne.symm e)] at hj
    have hw2 : okL L j w := by
      refine ⟨hw.1, fun hcat => ?_⟩
      obtain ⟨p, hp⟩ := hw.2 hcat
      by_cases e2 : j + 1 = i
      · rw [e2, List.getElem?_set_self hi] at hp
        exact absurd (Option.some.inj hp) (hr p)
      · rw [List.getElem?_set_ne (Ne.symm e2)] at hp
        exact ⟨p, hp⟩
    refine h.2.2 (j, enc g w) (List.mem_cons_of_mem _ (List.mem_filter.mpr ⟨lvL_mem.mpr ⟨w, hj, hw2, rfl⟩, ?_⟩))
    have h1 : (j == i) = false := by simpa using e
    rw [h1]
    by_cases e2 : j + 1 = i
    · have hcat : ¬ w.category = 2 := by
        intro hcat
        obtain ⟨p, hp⟩ := hw.2 hcat
        rw [e2, List.getElem?_set_self hi] at hp
        exact hr p (Option.some.inj hp)
      have h3 : ((enc g w).category == 2) = false := by
        rw [enc_cat G w hw.1]
        simpa using hcat
      dsimp only
      rw [h3, Bool.and_false]
      rfl
    · have h3 : (j + 1 == i) = false := by simpa using e2
      dsimp only
      rw [h3, Bool.false_and]
      rfl
theorem LR.setJ {B0 : Nat} {g : Nat → Value} (G : gok B0 g) {ls : Array Slot} {L : List Value} {i : Nat} {x : Int64} (hi : i + 1 < L.length)
    (h : lv_has ls L.length ((i, Value.long x) :: (lvL g L).filter (fun q => !(q.1 == i) && (!(q.1 == i + 1) && !(q.1 + 1 == i && q.2.category == 2))))) : LR g ls ((L.set i (.long x)).set (i + 1) (.retAddr 0)) := by
  have hl1 : i + 1 < (L.set i (.long x)).length := by rw [List.length_set]; exact hi
  refine ⟨by rw [List.length_set, List.length_set]; exact h.1, h.2.1, fun j w hj hw => ?_⟩
  by_cases e0 : j = i + 1
  · subst e0
    rw [List.getElem?_set_self hl1] at hj
    cases hj
    exact absurd rfl (hw.1 0)
  · rw [List.getElem?_set_ne (Ne.symm e0)] at hj
    by_cases e : j = i
    · subst e
      rw [List.getElem?_set_self (by omega)] at hj
      cases hj
      exact h.2.2 (j, Value.long x) List.mem_cons_self
    · rw [List.getElem?_set_ne (Ne.symm e)] at hj
      have key : w.category = 2 → ¬ j + 1 = i ∧ ∃ p, L[j + 1]? = some (.retAddr p) := by
        intro hcat
        obtain ⟨p, hp⟩ := hw.2 hcat
        rw [List.getElem?_set_ne (by omega)] at hp
        by_cases e2 : j + 1 = i
        · rw [e2, List.getElem?_set_self (by omega)] at hp
          cases hp
        · rw [List.getElem?_set_ne (Ne.symm e2)] at hp
          exact ⟨e2, p, hp⟩
      have hw2 : okL L j w := ⟨hw.1, fun hcat => (key hcat).2⟩
      refine h.2.2 (j, enc g w) (List.mem_cons_of_mem _ (List.mem_filter.mpr ⟨lvL_mem.mpr ⟨w, hj, hw2, rfl⟩, ?_⟩))
      have h1 : (j == i) = false := by simpa using e
      have h2 : (j == i + 1) = false := by simpa using e0
      dsimp only
      rw [h1, h2]
      by_cases e2 : j + 1 = i
      · have h3 : ((enc g w).category == 2) = false := by
          rw [enc_cat G w hw.1]
          simpa using fun hcat => (key hcat).1 e2
        rw [h3, Bool.and_false]
        rfl
      · have h3 : (j + 1 == i) = false := by simpa using e2
        rw [h3, Bool.false_and]
        rfl
theorem ltL_lt : ∀ {i : Nat} {L : List Value}, ltL i L = true → i < L.length
  | 0, _ :: _, _ => by simp
  | i + 1, _ :: l, h => by
    have := ltL_lt (i := i) (L := l) h
    simp only [List.length_cons]
    omega
  | 0, [], h => by cases h
  | _ + 1, [], h => by cases h
theorem fitN_le : ∀ {l : List Value} {n : Nat}, fitN l n = true → (l.map fun v => v.category).sum ≤ n ∧ ∀ v ∈ l, ∀ p, v ≠ .retAddr p
  | [], n, _ => ⟨Nat.zero_le _, fun _ h => by cases h⟩
  | .int x :: l, n + 1, h => by
    obtain ⟨h1, h2⟩ := fitN_le (l := l) (n := n) h
    have h3 : (Value.int x).category = 1 := rfl
    refine ⟨by rw [List.map_cons, List.sum_cons]; omega, fun v hv p => ?_⟩
    rcases List.mem_cons.mp hv with rfl | hv
    · exact fun e => by cases e
    · exact h2 v hv p
  | .ref x :: l, n + 1, h => by
    obtain ⟨h1, h2⟩ := fitN_le (l := l) (n := n) h
    have h3 : (Value.ref x).category = 1 := rfl
    refine ⟨by rw [List.map_cons, List.sum_cons]; omega, fun v hv p => ?_⟩
    rcases List.mem_cons.mp hv with rfl | hv
    · exact fun e => by cases e
    · exact h2 v hv p
  | .long x :: l, n + 2, h => by
    obtain ⟨h1, h2⟩ := fitN_le (l := l) (n := n) h
    have h3 : (Value.long x).category = 2 := rfl
    refine ⟨by rw [List.map_cons, List.sum_cons]; omega, fun v hv p => ?_⟩
    rcases List.mem_cons.mp hv with rfl | hv
    · exact fun e => by cases e
    · exact h2 v hv p
  | .double x :: l, n + 2, h => by
    obtain ⟨h1, h2⟩ := fitN_le (l := l) (n := n) h
    have h3 : (Value.double x).category = 2 := rfl
    refine ⟨by rw [List.map_cons, List.sum_cons]; omega, fun v hv p => ?_⟩
    rcases List.mem_cons.mp hv with rfl | hv
    · exact fun e => by cases e
    · exact h2 v hv p
theorem fit8_sum {B0 : Nat} {g : Nat → Value} (G : gok B0 g) {l : List Value} (h : fit8 l = true) : ((l.map (enc g)).map fun v => v.category).sum ≤ 8 := by
  obtain ⟨h1, h2⟩ := fitN_le h
  have : (l.map (enc g)).map (fun v => v.category) = l.map (fun v => v.category) := by
    rw [List.map_map]
    exact List.map_congr_left fun v hv => enc_cat G v (h2 v hv)
  rw [this]
  exact h1

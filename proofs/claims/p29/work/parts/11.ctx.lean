/-! 11 WHAT THE TABLES SAY at a state, and that it lasts -/
def AF (dA : Nat → ClassId) (U : State) (k : Nat) (ty : FieldType) : Prop := ∃ (kA : Class) (comp : ClassId), U.vm.classes[dA k]? = some kA ∧ kA.kind = .array comp ty ∧ (k < 10 → U.vm.findClass ("[" ++ ty.toString) = some (dA k)) ∧ (∀ C, k < 10 → ty = .object C → U.vm.findClass C = some comp) ∧ (∀ t, ty = .array t → U.vm.findClass (FieldType.array t).toString = some comp)
def AOw (ty : FieldType) (U : State) : Prop := (Jvm.Cond.arrayOver ty).before #[] U = true
def KF (B0 : Nat) (g : Nat → Value) (dC : Nat → ClassId) (dI : Nat → Nat → Nat) (dA : Nat → ClassId) (H0 : Heap) (U : State) : Prop :=
  (∀ (c : Nat) (q : vw_C), CT[c]? = some q → u_Kn U q.1 q.2.1 q.2.2 (dC c) (dI c)) ∧
  (∀ (k : Nat) (ty : FieldType), ATy[k]? = some ty → AF dA U k ty) ∧
  (∀ q, q ∈ SKs → ∃ x, g q.1 = .ref x ∧ vk_R q.2.1 q.2.2.1 q.2.2.2 x U) ∧
  (∀ q, q ∈ STs → ∃ v, kst [q.2.2.2.1, q.2.2.2.2] = some v ∧ va_Z q.1 q.2.1 q.2.2.1 (enc g v) (fun z => B0 ≤ z) U H0) ∧
  (∀ w, w ∈ NWs → va_Nw w U) ∧ (∀ ty, ty ∈ AOs → AOw ty U)
theorem AF.moved {dA : Nat → ClassId} {u U : State} {k : Nat} {ty : FieldType} (hvm : u.vm.Alike U.vm) (h : AF dA u k ty) : AF dA U k ty := by
  obtain ⟨kA, comp, h1, h2, h3, h4, h5⟩ := h
  obtain ⟨k', hk', he⟩ := hvm.2.2 _ _ h1
  exact ⟨k', comp, hk', by rw [he]; exact h2, fun q => by rw [hvm.findClass]; exact h3 q, fun C q e => by rw [hvm.findClass]; exact h4 C q e, fun t e => by rw [hvm.findClass]; exact h5 t e⟩
theorem AOw.movedA {t : FieldType} {u U : State} (hvm : u.vm.Alike U.vm) (h : AOw (.array t) u) : AOw (.array t) U := by
  obtain ⟨comp, c, k, h1, h2, h3, h4, h5⟩ := arrayOverA_spec h
  obtain ⟨k', hk', he⟩ := hvm.2.2 _ _ h3
  have hi : (U.vm.classes.findIdx? fun (x : Class) => match x.kind with | .array component _ => component == comp | _ => false) = some c := by
    refine (va_idx_bare U.vm comp).symm.trans ?_
    have hb : U.vm.bare = u.vm.bare := by first | exact hvm.bare_eq | exact hvm.bare_eq.symm
    rw [hb]
    exact (va_idx_bare u.vm comp).trans h2
  have hkind : k'.kind = .array comp (.array t) := by rw [he]; exact h4
  have f1 : U.vm.findClass (FieldType.array t).toString = some comp := by rw [hvm.findClass]; exact h1
  have f2 : U.vm.findClass ("[" ++ (FieldType.array t).toString) = some c := by rw [hvm.findClass]; exact h5
  unfold AOw Cond.before Cond.holds
  simp only [Cond.value]
  rw [f1, Option.bind_some]
  refine (congrArg (fun o : Option Nat => (o.bind (fun c => (U.vm.classes[c]?).map fun (k : Class) => match k.kind with | .array _ ty => decide (ty = FieldType.array t) && decide (U.vm.findClass ("[" ++ (FieldType.array t).toString) = some c) | _ => false) == some true)) hi).trans ?_
  simp [hk', hkind, f2]
theorem AOw.moved {ty : FieldType} (hty : ty ∈ AOs) {u U : State} (hvm : u.vm.Alike U.vm) (h : AOw ty u) : AOw ty U := by
  have key : (∃ C, ty = .object C) ∨ ∃ t, ty = .array t := by
    unfold AOs at hty
    simp only [List.mem_cons, List.not_mem_nil, or_false] at hty
    rcases hty with h | h | h | h | h | h | h <;> subst h <;> first | exact Or.inl ⟨_, rfl⟩ | exact Or.inr ⟨_, rfl⟩
  rcases key with ⟨C, rfl⟩ | ⟨t, rfl⟩
  · exact va_AO.moved hvm h
  · exact AOw.movedA hvm h
theorem NW_warm {w : Jvm.Cond} (hw : w ∈ NWs) {s U : State} (hW : s.WarmedH U.vm) (h : va_Nw w s) : va_Nw w U := by
  unfold NWs at hw
  simp only [List.mem_cons, List.not_mem_nil, or_false] at hw
  rcases hw with e | e | e | e | e <;> subst e
  · exact va_Nw.warmM hW h
  · exact va_Nw.warmM hW h
  · exact va_Nw.warmM hW h
  · exact va_Nw.warmF hW h
  · exact va_Nw.warmC hW h
section
variable {B0 : Nat} {g : Nat → Value} {dC : Nat → ClassId} {dI : Nat → Nat → Nat} {dA : Nat → ClassId} {H0 : Heap}
theorem KF.warm {s U : State} (hW : s.WarmedH U.vm) (h : KF B0 g dC dI dA H0 s) : KF B0 g dC dI dA H0 U := by
  obtain ⟨h1, h2, h3, h4, h5, h6⟩ := h
  refine ⟨fun c q hq => u_Kn_moved hW.alike (h1 c q hq), fun k ty hk => (h2 k ty hk).moved hW.alike, fun q hq => ?_, fun q hq => ?_, fun w hw => NW_warm hw hW (h5 w hw), fun ty hty => AOw.moved hty hW.alike (h6 ty hty)⟩
  · obtain ⟨x, e1, e2⟩ := h3 q hq
    exact ⟨x, e1, vk_R.warm hW e2⟩
  · obtain ⟨v, e1, e2⟩ := h4 q hq
    exact ⟨v, e1, va_Z.moved hW.alike e2⟩
theorem KF.calling {U : State} (h : KF B0 g dC dI dA H0 U) (fr : JFrame) (mk : MethodId) (a : Array Value) : KF B0 g dC dI dA H0 (U.calling fr mk a) := KF.warm (s := U) (U := U.calling fr mk a) (State.WarmedH.refl U) h
-- ===== heaps =====
theorem HR.cell {h : AH} {H : Heap} (hr : HR B0 g dC dI dA H0 h H) {a t : Nat} (ht : hT h a = t) (h0 : 1 ≤ t) : a < hN h ∧ (KK ≤ a ∨ onlyConst t = true) ∧ ∃ (x : Nat) (cell : Cell), g a = .ref x ∧ H[x]? = some cell ∧ cell.vm.isStatics = false ∧ cell.vm ≠ .unknown ∧ (KK ≤ a → cell.vm = .none) ∧ (a < KK → x < B0) ∧ cellR g dC dI dA h a cell := by
  have := hr.2.2.2 a (by rw [ht]; omega)
  rw [ht] at this
  exact this
theorem HR.write (G : gok B0 g) {h h' : AH} {H H' : Heap} (hr : HR B0 g dC dI dA H0 h H) {a x : Nat} (ha : KK ≤ a) (hx : g a = .ref x) (e1 : hN h' = hN h) (e2 : hT h' = hT h)
    (e3 : ∀ b, b ≠ a → ∀ cell, cellR g dC dI dA h b cell → cellR g dC dI dA h' b cell) {cell' : Cell} (z1 : H'[x]? = some cell') (z2 : H'.size = H.size) (z3 : ∀ q, q ≠ x → H'[q]? = H[q]?) (z4 : cell'.vm = .none) (z5 : cellR g dC dI dA h' a cell') : HR B0 g dC dI dA H0 h' H' := by
  obtain ⟨h1, h2, h3, h4⟩ := hr
  have hx2 : x = B0 + (a - KK) := by
    have := G.2.1 a ha
    rw [hx] at this
    exact Value.ref.inj this
  refine ⟨by rw [e1]; exact h1, by rw [e1, z2]; exact h2, fun q hq => by rw [z3 q (by omega)]; exact h3 q hq, fun b hb => ?_⟩
  rw [e2] at hb
  obtain ⟨q1, q2, y, cell, q3, q4, q5, q6, q7, q8, q9⟩ := h4 b hb
  refine ⟨by rw [e1]; exact q1, by rw [e2]; exact q2, ?_⟩
  by_cases hab : b = a
  · subst hab
    refine ⟨x, cell', hx, z1, by rw [z4]; rfl, (by rw [z4]; exact nofun), fun _ => z4, fun hk => absurd ha (by omega), z5⟩
  · have hyx : y ≠ x := by
      rcases Nat.lt_or_ge b KK with hk | hk
      · have := q8 hk
        omega
      · have h5 := G.2.1 b hk
        rw [q3] at h5
        have h6 : y = B0 + (b - KK) := Value.ref.inj h5
        omega
    exact ⟨y, cell, q3, by rw [z3 y hyx]; exact q4, q5, q6, q7, q8, e3 b hab cell q9⟩
theorem HR.alloc (G : gok B0 g) {h h' : AH} {H H' : Heap} (hr : HR B0 g dC dI dA H0 h H) (e1 : hN h' = hN h + 1) (e2 : ∀ b, b ≠ hN h → hT h' b = hT h b) (ht : 1 ≤ hT h' (hN h))
    (e3 : ∀ b, b ≠ hN h → ∀ cell, cellR g dC dI dA h b cell → cellR g dC dI dA h' b cell) {cell' : Cell} (z1 : H'[H.size]? = some cell') (z2 : H'.size = H.size + 1) (z3 : ∀ q, q < H.size → H'[q]? = H[q]?) (z4 : cell'.vm = .none) (z5 : cellR g dC dI dA h' (hN h) cell') : HR B0 g dC dI dA H0 h' H' ∧ g (hN h) = .ref H.size := by
  obtain ⟨h1, h2, h3, h4⟩ := hr
  have hg : g (hN h) = .ref H.size := by rw [G.2.1 _ h1, h2]
  refine ⟨⟨by rw [e1]; omega, by rw [e1, z2, h2]; omega, fun q hq => by rw [z3 q (by omega)]; exact h3 q hq, fun b hb => ?_⟩, hg⟩
  by_cases hab : b = hN h
  · subst hab
    exact ⟨by rw [e1]; omega, Or.inl h1, _, cell', hg, z1, by rw [z4]; rfl, (by rw [z4]; exact nofun), fun _ => z4, fun hk => by omega, z5⟩
  · rw [e2 b hab] at hb ⊢
    obtain ⟨q1, q2, y, cell, q3, q4, q5, q6, q7, q8, q9⟩ := h4 b hb
    exact ⟨by rw [e1]; omega, q2, y, cell, q3, by rw [z3 y (Array.getElem?_eq_some_iff.mp q4).1]; exact q4, q5, q6, q7, q8, e3 b hab cell q9⟩
end

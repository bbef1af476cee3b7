/-! 98zza THE START, I: words at the entry; classes, array classes -/
section
variable {args : Array Value} {s : State}
theorem sx_sel {y : MethodName} (hc : y.cls = "java/lang/AbstractStringBuilder") (h0 : (Jvm.Cond.selects "java/lang/StringBuilder" (yASB "isLatin1" "()Z") (yASB "isLatin1" "()Z")).before args s = true) (hp : (Jvm.Cond.privateMethod y).before args s = true) (hi : (Jvm.Cond.instanceMethod y).before args s = true) : (Jvm.Cond.selects "java/lang/StringBuilder" y y).before args s = true := by
  obtain ⟨c, r, m, q1, q2, q3, -, mk, q5, q6⟩ := Cond.selects_spec h0
  obtain ⟨m2, methM, hnamed, hmethM, -, -⟩ := Cond.instanceMethod_spec hi
  have hy : y.cls ≠ "java/lang/invoke/MethodHandle" ∧ y.cls ≠ "java/lang/invoke/VarHandle" := by rw [hc]; exact ⟨by decide, by decide⟩
  have hfound : s.methodFound? y.cls y.name y.desc = some m2 := State.methodFound?_of_named hnamed hy
  have hcls : m2.cls = m.cls := by
    have a1 := findClass_of_methodNamed hnamed
    have a2 : s.vm.findClass "java/lang/AbstractStringBuilder" = some m.cls := findClass_of_methodNamed q3
    rw [hc] at a1
    exact Option.some.inj (a1.symm.trans a2)
  have hsel : selectMethod {} s.vm c m2 = .method m2 := selectMethod_private hmethM (Cond.privateMethod_at hp m2 methM hnamed hmethM)
  simp only [Cond.before, Cond.holds, Cond.value, q1, hfound, hnamed, hsel, hcls, q5]
  simp; exact q6
theorem sx_in : ([("ensureCapacityInternal", "(I)V"), ("putStringAt", "(ILjava/lang/String;)V"), ("newCapacity", "(I)I"), ("inflateIfNeededFor", "(Ljava/lang/String;)V")].all fun q => decide (Jvm.Cond.privateMethod (yASB q.1 q.2) ∈ tables_1) && decide (Jvm.Cond.instanceMethod (yASB q.1 q.2) ∈ tables_1)) = true := by decide +kernel
theorem sx_lat : Jvm.Cond.selects "java/lang/StringBuilder" (yASB "isLatin1" "()Z") (yASB "isLatin1" "()Z") ∈ tables_1 := by decide +kernel
theorem tb_words (hts : ∀ w ∈ lw_tbl, w.before args s = true) : ∀ w ∈ tables_1, w.before args s = true := fun w hw => hts w (List.mem_append_right _ hw)
theorem sx_words (hts : ∀ w ∈ lw_tbl, w.before args s = true) : ∀ w ∈ q_sx, w.before args s = true := by
  intro w hw
  have ht := tb_words hts
  unfold q_sx at hw
  obtain ⟨q, hq, rfl⟩ := List.mem_map.mp hw
  have h1 := List.all_eq_true.mp sx_in q hq
  rw [Bool.and_eq_true] at h1
  exact sx_sel rfl (ht _ sx_lat) (ht _ (of_decide_eq_true h1.1)) (ht _ (of_decide_eq_true h1.2))
theorem TWg_words (hts : ∀ w ∈ lw_tbl, w.before args s = true) : ∀ w ∈ TWg, w.before args s = true := by
  intro w hw
  have ht := tb_words hts
  have hw := (List.mem_filter.mp hw).1
  unfold TW TWs at hw
  simp only [List.flatten_cons, List.flatten_nil, List.mem_append, List.not_mem_nil, or_false] at hw
  rcases hw with h | h | h | h | h | h | h | h | h | h
  · exact sx_words hts w h
  · exact hts w (List.mem_append_left _ h)
  all_goals exact ht w (by unfold tables_1; simp only [List.mem_append, h, true_or, or_true])
-- classes
theorem ins_in : CT.all (fun q => TWg.any fun w => match w with | .instantiable C _ => decide (C = q.1) | _ => false) = true := by decide +kernel
theorem kn_all (hts : ∀ w ∈ TWg, w.before args s = true) : ∃ (dC : Nat → ClassId) (dI : Nat → Nat → Nat), ∀ (c : Nat) (q : vw_C), CT[c]? = some q → u_Kn s q.1 q.2.1 q.2.2 (dC c) (dI c) := by
  have h : ∀ c : Nat, ∃ z : ClassId × (Nat → Nat), ∀ q, CT[c]? = some q → u_Kn s q.1 q.2.1 q.2.2 z.1 z.2 := by
    intro c
    cases hc : CT[c]? with
    | none => exact ⟨(0, fun _ => 0), fun q hq => by cases hq⟩
    | some q =>
      obtain ⟨w, hw, hm⟩ := List.any_eq_true.mp (List.all_eq_true.mp ins_in q (List.mem_of_getElem? hc))
      have hi : ∃ n, (Jvm.Cond.instantiable q.1 n).before args s = true := by
        split at hm
        · rename_i C n
          have e := of_decide_eq_true hm
          subst e
          exact ⟨n, hts _ hw⟩
        · cases hm
      obtain ⟨n, hn⟩ := hi
      obtain ⟨cC, iS, hk⟩ := u_known hts (lay_in c q hc) hn
      exact ⟨(cC, iS), fun q' hq' => by cases hq'; exact hk⟩
  obtain ⟨f, hf⟩ := Classical.axiomOfChoice h
  exact ⟨fun c => (f c).1, fun c => (f c).2, fun c q hq => hf c q hq⟩
-- array classes
theorem acl_in : [FieldType.int, .byte, .long].all (fun t => decide (Jvm.Cond.arrayClass t ∈ tables_1)) = true := by decide +kernel
theorem aov_in : AOs.all (fun t => decide (Jvm.Cond.arrayOver t ∈ tables_1)) = true := by decide +kernel
theorem af_c (hts : ∀ w ∈ tables_1, w.before args s = true) {t : FieldType} (ht : t ∈ [FieldType.int, .byte, .long]) : ∃ (d : ClassId) (kA : Class) (comp : ClassId), s.vm.classes[d]? = some kA ∧ kA.kind = .array comp t ∧ s.vm.findClass ("[" ++ t.toString) = some d := by
  obtain ⟨c, k, comp, h1, h2, h3⟩ := Cond.arrayClass_spec (hts _ (of_decide_eq_true (List.all_eq_true.mp acl_in t ht)))
  exact ⟨c, k, comp, h2, h3, h1⟩
theorem af_o (hts : ∀ w ∈ tables_1, w.before args s = true) {C : String} (ht : FieldType.object C ∈ AOs) : ∃ (d : ClassId) (kA : Class) (comp : ClassId), s.vm.classes[d]? = some kA ∧ kA.kind = .array comp (.object C) ∧ s.vm.findClass ("[" ++ (FieldType.object C).toString) = some d ∧ s.vm.findClass C = some comp := by
  obtain ⟨comp, c, k, h1, -, h3, h4, h5⟩ := Cond.arrayOver_spec (hts _ (of_decide_eq_true (List.all_eq_true.mp aov_in _ ht)))
  exact ⟨c, k, comp, h3, h4, h5, h1⟩
theorem af_a (hts : ∀ w ∈ tables_1, w.before args s = true) {t : FieldType} (ht : FieldType.array t ∈ AOs) : ∃ (d : ClassId) (kA : Class) (comp : ClassId), s.vm.classes[d]? = some kA ∧ kA.kind = .array comp (.array t) ∧ s.vm.findClass ("[" ++ (FieldType.array t).toString) = some d ∧ s.vm.findClass (FieldType.array t).toString = some comp := by
  obtain ⟨comp, c, k, h1, -, h3, h4, h5⟩ := arrayOverA_spec (hts _ (of_decide_eq_true (List.all_eq_true.mp aov_in _ ht)))
  exact ⟨c, k, comp, h3, h4, h5, h1⟩
-- dG, dS: the classes of the cells of GRADES and of the script
theorem af_all (hts : ∀ w ∈ tables_1, w.before args s = true) {dG dS : ClassId} (hG : ∃ (kA : Class) (comp : ClassId), s.vm.classes[dG]? = some kA ∧ kA.kind = .array comp (.object "java/lang/String")) (hS : ∃ (kA : Class) (comp : ClassId), s.vm.classes[dS]? = some kA ∧ kA.kind = .array comp .int) : ∃ dA : Nat → ClassId, (∀ (k : Nat) (ty : FieldType), ATy[k]? = some ty → AF dA s k ty) ∧ dA 10 = dG ∧ dA 11 = dS := by
  have h : ∀ k : Nat, ∃ d : ClassId, (∀ ty, ATy[k]? = some ty → AF (fun _ => d) s k ty) ∧ (k = 10 → d = dG) ∧ (k = 11 → d = dS) := by
    have c3 : ∀ {k : Nat} {t : FieldType}, k ≠ 10 → k ≠ 11 → ATy[k]? = some t → t ∈ [FieldType.int, .byte, .long] → ∃ d : ClassId, (∀ ty, ATy[k]? = some ty → AF (fun _ => d) s k ty) ∧ (k = 10 → d = dG) ∧ (k = 11 → d = dS) := fun {k t} n1 n2 hk ht => by
      obtain ⟨d, kA, comp, h1, h2, h3⟩ := af_c hts ht
      refine ⟨d, fun ty hty => ?_, fun e => absurd e n1, fun e => absurd e n2⟩
      cases hk.symm.trans hty
      refine ⟨kA, comp, h1, h2, fun _ => h3, fun C _ e => ?_, fun u e => ?_⟩
      · rw [e] at ht; simp at ht
      · rw [e] at ht; simp at ht
    have co : ∀ {k : Nat} {C : String}, k ≠ 10 → k ≠ 11 → ATy[k]? = some (.object C) → FieldType.object C ∈ AOs → ∃ d : ClassId, (∀ ty, ATy[k]? = some ty → AF (fun _ => d) s k ty) ∧ (k = 10 → d = dG) ∧ (k = 11 → d = dS) := fun {k C} n1 n2 hk ht => by
      obtain ⟨d, kA, comp, h1, h2, h3, h4⟩ := af_o hts ht
      refine ⟨d, fun ty hty => ?_, fun e => absurd e n1, fun e => absurd e n2⟩
      cases hk.symm.trans hty
      exact ⟨kA, comp, h1, h2, fun _ => h3, fun C' _ e => (by cases e; exact h4), fun u e => (by cases e)⟩
    have ca : ∀ {k : Nat} {t : FieldType}, k ≠ 10 → k ≠ 11 → ATy[k]? = some (.array t) → FieldType.array t ∈ AOs → ∃ d : ClassId, (∀ ty, ATy[k]? = some ty → AF (fun _ => d) s k ty) ∧ (k = 10 → d = dG) ∧ (k = 11 → d = dS) := fun {k t} n1 n2 hk ht => by
      obtain ⟨d, kA, comp, h1, h2, h3, h4⟩ := af_a hts ht
      refine ⟨d, fun ty hty => ?_, fun e => absurd e n1, fun e => absurd e n2⟩
      cases hk.symm.trans hty
      exact ⟨kA, comp, h1, h2, fun _ => h3, fun C' _ e => (by cases e), fun u e => (by cases e; exact h4)⟩
    intro k
    by_cases hk : k < 12
    · rcases (show k = 0 ∨ k = 1 ∨ k = 2 ∨ k = 3 ∨ k = 4 ∨ k = 5 ∨ k = 6 ∨ k = 7 ∨ k = 8 ∨ k = 9 ∨ k = 10 ∨ k = 11 by omega) with rfl | rfl | rfl | rfl | rfl | rfl | rfl | rfl | rfl | rfl | rfl | rfl
      · exact c3 (t := .int) (by decide) (by decide) rfl (by decide)
      · exact c3 (t := .byte) (by decide) (by decide) rfl (by decide)
      · exact c3 (t := .long) (by decide) (by decide) rfl (by decide)
      · exact co (by decide) (by decide) rfl (by decide)
      · exact co (by decide) (by decide) rfl (by decide)
      · exact co (by decide) (by decide) rfl (by decide)
      · exact co (by decide) (by decide) rfl (by decide)
      · exact co (by decide) (by decide) rfl (by decide)
      · exact ca (by decide) (by decide) rfl (by decide)
      · exact ca (by decide) (by decide) rfl (by decide)
      · obtain ⟨kA, comp, h1, h2⟩ := hG
        refine ⟨dG, fun ty hty => ?_, fun _ => rfl, fun e => absurd e (by decide)⟩
        cases hty
        exact ⟨kA, comp, h1, h2, fun q => absurd q (by decide), fun C q => absurd q (by decide), fun u e => (by cases e)⟩
      · obtain ⟨kA, comp, h1, h2⟩ := hS
        refine ⟨dS, fun ty hty => ?_, fun e => absurd e (by decide), fun _ => rfl⟩
        cases hty
        exact ⟨kA, comp, h1, h2, fun q => absurd q (by decide), fun C q => absurd q (by decide), fun u e => (by cases e)⟩
    · refine ⟨0, fun ty hty => ?_, fun e => by omega, fun e => by omega⟩
      rw [List.getElem?_eq_none_iff.mpr (show ATy.length ≤ k by show 12 ≤ k; omega)] at hty
      cases hty
  obtain ⟨f, hf⟩ := Classical.axiomOfChoice h
  refine ⟨f, fun k ty hk => (hf k).1 ty hk, (hf 10).2.1 rfl, (hf 11).2.2 rfl⟩
end

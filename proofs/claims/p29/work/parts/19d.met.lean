/-! 19d SOUNDNESS: what the small machine does, the kit's machine does -/
theorem md_mL {i : Nat} {y : MethodName} {b : ByteArray} {mL' : Nat} {ret : Option FieldType} {hints : List Nat} (hm : mdOf i = some (y, b, mL', ret, hints)) (hok : okMD i = true) : mL i = mL' ∧ plainFor y = true := by
  obtain ⟨y2, b2, m2, r2, r1, r2', r3, st, hm2, -, -, -, h1, h2, -⟩ := okMD_spec hok
  cases hm.symm.trans hm2
  exact ⟨h2, h1⟩
theorem Ev_Met {B0 : Nat} {g : Nat → Value} {dC : Nat → ClassId} {dI : Nat → Nat → Nat} {dA : Nat → ClassId} {H0 : Heap} (G : gok B0 g) : ∀ (d j : Nat) (vs : List Value) (h h1 : AH) (v : Option Value), Ev tb mL d j vs h h1 v → CMet B0 g dC dI dA H0 d j vs h h1 v := by
  intro d
  induction d with
  | zero => intro j vs h h1 v k; exact k.elim
  | succ d ih =>
    intro j vs h h1 v k
    obtain ⟨k1, n, k2⟩ := k
    have hmono := rn_sf (fun j vs h h1 v q => ⟨(ih j vs h h1 v q).1, (ih j vs h h1 v q).2.1⟩) n _ _ _ _ _ _ k2
    refine ⟨hmono.1, hmono.2, fun y b mL' ret hints hm hok hj l => ?_⟩
    obtain ⟨hmL, hpl⟩ := md_mL hm hok
    refine Met.ofWF hpl rfl ?_
    intro p e s m args below meth c s₁ B hml hv
    obtain ⟨rfl, hKF, hHR⟩ := hv
    have hts0 := atoms_spec (ws := Jvm.Cond.code y b mL' ret :: TWg) B.pre
    rw [lg_entry_eq]
    rw [hmL] at k1 k2
    obtain ⟨hLR, hlen⟩ := ent_LR G k1
    have X : Cx B0 g dC dI dA H0 p s m (vs.map (enc g)).toArray meth c y b mL' := ⟨B.exec, B.bytes, hml, findClass_of_methodNamed B.named, fun w hw => hts0 w (List.mem_cons_of_mem _ hw), hKF, fun hn => (name_of_methodNamed B.named B.method).1.trans hn⟩
    exact run_W (mc := hN h1 - hN h) (ms := hU h1 - hU h) G hm ih X (Nat.le_refl _) (by show d * 80 + 80 ≤ (d + 1) * 80; omega) (Nat.le_refl _) (Nat.le_refl _)
      (fun ins len aux pc L st ls H locs cells slots a1 a2 a3 a4 a5 a6 a7 => ret_W G B.exec B.bytes a1 a2 a3 a4 a5 a6 a7 B.returns B.notSynchronized)
      n 0 (entL vs mL') [] h k2 hlen _ s.heap [] 0 0 hLR hHR (fun q hq => by cases hq) (by omega) (by omega)

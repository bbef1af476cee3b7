/-! 98zzf THE LAW'S WALK -/
theorem ret_ins {own : String} {ini : Bool} {ret' : Option FieldType} {ins : Instr} {len pc : Nat} {aux : List Nat} {L st : List Value} {h : AH} {x : Int32} (hok : okI own ini ret' pc ins len aux = true) (hs : step1 ins len aux pc L st h = some (.inr (.inr (some (.int x))))) : ins = .ireturn ∧ len = 1 ∧ st = [.int x] := by
  cases ins with
  | ireturn =>
    simp only [okI, Bool.and_eq_true] at hok
    obtain ⟨hok1, hok⟩ := hok
    obtain rfl := bq hok1
    simp only [step1] at hs
    split at hs
    · obtain ⟨hp, hs⟩ := gd_inj hs
      cases hs
      exact ⟨rfl, rfl, rfl⟩
    · cases hs
  | areturn =>
    exfalso
    simp only [step1] at hs
    split at hs <;> cases hs
  | lreturn =>
    exfalso
    simp only [step1] at hs
    split at hs <;> cases hs
  | dreturn =>
    exfalso
    simp only [step1] at hs
    split at hs <;> cases hs
  | return_ =>
    exfalso
    simp only [step1] at hs
    split at hs <;> cases hs
  | _ =>
    exfalso
    simp only [step1] at hs
    first
      | cases hs
      | exact go_r hs
      | exact ldI_r hs
      | exact ldR_r hs
      | exact ldJ_r hs
      | exact psh_r hs
      | exact call_r hs
      | (split at hs <;> first | cases hs | exact go_r hs | exact stV_r hs | exact stJ_r hs | exact ifC_r hs | exact icC_r hs | exact putF_r hs | exact go_r (gd_inj hs).2 | exact go_r (cond_inj hs).2)
theorem md_0 : mdOf 0 = some (x, code, 15, some .boolean, [2000, 2000, 2000, 1]) := rfl
theorem mL_0 : mL 0 = 15 := rfl
theorem whole_start {p : Program} {e : Env} {s : State} {m : MethodId} {below : List Frame} {meth : Method} {c : Code} (l : Launch) (hflags : l.flags = flags0) {b L : Nat} {xs : Nat → Int32} (hL : L ≤ 260) (C0 : lw_At p s m meth c b L xs) (hf : heapFits s = true) : W p l e room_1 s m #[Value.ref b] below meth c s.heap [] 0 0 (lw_Z below #[Value.ref b] s) (entryFrame m ([Value.ref b] : List Value).toArray 15) := by
  obtain ⟨g, dC, dI, dA, h0, G, hKF, hHR, n0, u0, st0, sc0, g1, hTW⟩ := start_all C0 hf hL
  obtain ⟨hx, hb, hr, hml, hown, -, -, -, hlocks, -⟩ := C0
  obtain ⟨h1, e1, f1⟩ := law_E n0 st0 sc0
  have hev : Ev tb mL (69 + 1) 0 [.ref 1] h0 h1 (some (.int (iI 1))) := f_Law_law_ev 70 (by decide) e1
  obtain ⟨k1, n, k2⟩ := hev
  rw [mL_0] at k1 k2
  obtain ⟨hLR, hlen⟩ := ent_LR G k1
  have eg : ([Value.ref 1].map (enc g)) = [Value.ref b] := by
    show [g 1] = _
    rw [g1]
  rw [eg] at hLR
  rw [lg_entry_eq]
  have X : Cx s.heap.size g dC dI dA s.heap p s m #[Value.ref b] meth c x code 15 := ⟨hx, hb, hml, hown, hTW, hKF, fun hn => absurd hn (by decide)⟩
  have hd0 := Drawn.sameBut.refl s.drawn lw_cs
  have hc1 : hN h1 - hN h0 ≤ 600086 := by have := f1.2.1; omega
  have hs1 : hU h1 - hU h0 ≤ 7301442 := by have := f1.2.2.1; omega
  refine run_W (mc := 600086) (ms := 7301442) (d := 69) G md_0 (Ev_Met G 69) X (by decide) (by decide) (Nat.le_refl _) (Nat.le_refl _)
    (fun ins len aux pc L' st ls H locs cells slots a1 a2 a3 a4 a5 a6 a7 => ?_)
    n 0 (entL [.ref 1] 15) [] h0 k2 hlen _ s.heap [] 0 0 hLR hHR (fun q hq => by cases hq) (by omega) (by omega)
  obtain ⟨rfl, rfl, rfl⟩ := ret_ins a2 a3
  refine va_forget a5 ?_
  refine W.widen a6 a7 ?_
  refine W.base ?_
  exact lw_ret hd0 hx hb hr hlocks a1

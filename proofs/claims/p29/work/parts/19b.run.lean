/-! 19b SOUNDNESS of calls, of a run, of a method -/
def CMet (B0 : Nat) (g : Nat → Value) (dC : Nat → ClassId) (dI : Nat → Nat → Nat) (dA : Nat → ClassId) (H0 : Heap) (d j : Nat) (vs : List Value) (h h1 : AH) (v : Option Value) : Prop :=
  hN h ≤ hN h1 ∧ hU h ≤ hU h1 ∧ ∀ y b mL' ret hints, mdOf j = some (y, b, mL', ret, hints) → okMD j = true → j ≠ 0 → ∀ l, Met l y (Jvm.Cond.code y b mL' ret :: TWg) (rmD d h h1) (PcD B0 g dC dI dA H0 vs h) (QcD B0 g dC dI dA H0 v h1) (hN h1 - hN h) (hU h1 - hU h) (fun q => B0 ≤ q)
theorem call_inr {aux : List Nat} {pc len j : Nat} {L st vs rest : List Value} {h : AH} (q : call aux pc len L st h = some (.inr (.inl (j, vs, rest)))) :
    ∃ n c tl, aux = 0 :: j :: n :: c :: tl ∧ leL n st = true ∧ fit8 (st.drop n) = true ∧ vs = (st.take n).reverse ∧ rest = st.drop n ∧ (c = 0 ∨ ∃ a As, vs = .ref a :: As ∧ hT h a = c) := by
  unfold call at q
  split at q
  · obtain ⟨q1, q2⟩ := cond_inj q
    rw [Bool.and_eq_true] at q1
    cases q2
    exact ⟨_, _, _, rfl, q1.1, q1.2, rfl, rfl, Or.inl rfl⟩
  · split at q
    · rename_i a As hvs
      obtain ⟨q1, q2⟩ := cond_inj q
      obtain ⟨q9, q3⟩ := gd_inj q2
      rw [Bool.and_eq_true] at q1
      cases q3
      exact ⟨_, _, _, rfl, q1.1, q1.2, hvs.symm, rfl, Or.inr ⟨a, As, rfl, q9⟩⟩
    · cases q
  · have := (gd_inj (cond_inj q).2).2
    unfold go at this
    cases this
  · have := (gd_inj (cond_inj q).2).2
    unfold go at this
    cases this
  · have := (gd_inj (cond_inj q).2).2
    unfold go at this
    cases this
  · cases q
theorem leL_le : ∀ {n : Nat} {l : List Value}, leL n l = true → n ≤ l.length
  | 0, _, _ => Nat.zero_le _
  | n + 1, _ :: l, h => by
    have := leL_le (n := n) (l := l) h
    simp only [List.length_cons]
    omega
  | _ + 1, [], h => by cases h
theorem TWg_good {w : Jvm.Cond} (h : w ∈ TWg) : (w.onTables && w.keeps) = true ∨ ∃ ty, w = .arrayClass ty := good_of_word (List.mem_filter.mp h).2
theorem ws_good {j : Nat} {y : MethodName} {b : ByteArray} {mL' : Nat} {ret : Option FieldType} {hints : List Nat} (hj : j ≠ 0) (hm : mdOf j = some (y, b, mL', ret, hints)) : GoodIn TWg (Jvm.Cond.code y b mL' ret :: TWg) := by
  intro w hw
  rcases List.mem_cons.mp hw with rfl | hw
  · exact ⟨cw_mem hj hm, TWg_good (cw_mem hj hm)⟩
  · exact ⟨hw, TWg_good hw⟩
theorem okMD_0 : okMD 0 = false := by decide +kernel
theorem okMD_spec {j : Nat} (h : okMD j = true) : ∃ y b mL' ret r1 r2 r3 st, mdOf j = some (y, b, mL', ret, [r1, r2, r3, st]) ∧ hasW r2 (.initialized y.cls) = true ∧ (if st = 1 then hasW r3 (.static y) else hasW r3 (.instanceMethod y)) = true ∧ (y.cls ≠ "java/lang/invoke/MethodHandle" ∧ y.cls ≠ "java/lang/invoke/VarHandle") ∧ plainFor y = true ∧ mL j = mL' ∧ mL' ≤ 60 := by
  unfold okMD at h
  split at h
  · rename_i y b mL' ret r1 r2 r3 st hm
    simp only [Bool.and_eq_true] at h
    obtain ⟨⟨⟨⟨⟨h1, h2⟩, h3⟩, h4⟩, h5⟩, h6⟩ := h
    unfold nameOK at h3
    rw [Bool.and_eq_true] at h3
    exact ⟨y, b, mL', ret, r1, r2, r3, st, hm, h1, h2, ⟨of_decide_eq_true h3.1, of_decide_eq_true h3.2⟩, h4, of_decide_eq_true h5, bnd h6⟩
  · cases h
theorem np_len {y : MethodName} {n : Nat} (h : npOf y = some n) : ∀ sig, parseMethodDescriptor y.desc = some sig → n = sig.parameters.length := by
  intro sig hs
  unfold npOf at h
  rw [hs] at h
  exact (Option.some.inj h).symm
theorem rev_stack {g : Nat → Value} {st vs : List Value} {n : Nat} (h : vs = (st.take n).reverse) : st.map (enc g) = (vs.map (enc g)).reverse ++ (st.drop n).map (enc g) := by
  rw [h, ← List.map_reverse, List.reverse_reverse, ← List.map_append, List.take_append_drop]
theorem rev_stack1 {g : Nat → Value} {st As : List Value} {a n x : Nat} (h : .ref a :: As = (st.take n).reverse) (hg : g a = .ref x) : st.map (enc g) = (As.map (enc g)).reverse ++ .ref x :: (st.drop n).map (enc g) := by
  rw [rev_stack h, List.map_cons, List.reverse_cons, List.append_assoc, show enc g (.ref a) = g a from rfl, hg]
  rfl
section
variable {B0 : Nat} {g : Nat → Value} {dC : Nat → ClassId} {dI : Nat → Nat → Nat} {dA : Nat → ClassId} {H0 : Heap} {p : Program} {l : Launch} {e : Env} {R : Room} {s : State} {m : MethodId} {args : Array Value} {below : List Frame} {meth : Method} {c : Code} {Q : State → Prop} {y : MethodName} {bytes : ByteArray} {ins : Instr} {idx len d j pc : Nat} {aux : List Nat} {L st vs rest : List Value} {h h1 : AH} {v : Option Value} {ls : Array Slot} {H : Heap} {locs : List Loc} {cells slots : Nat}
theorem call_W {virt stat : Bool} (G : gok B0 g) (X : Cx B0 g dC dI dA H0 p s m args meth c y bytes L.length) (hins : (virt = true ∧ stat = false ∧ ins = .invokevirtual idx) ∨ (virt = false ∧ stat = true ∧ ins = .invokestatic idx) ∨ (virt = false ∧ stat = false ∧ ins = .invokespecial idx)) (hd : decode bytes pc = .ok (ins, len)) (hok : okInv y.cls idx len virt stat aux = true) (hs : call aux pc len L st h = some (.inr (.inl (j, vs, rest))))
    (hC : CMet B0 g dC dI dA H0 d j vs h h1 v) (hLr : LR g ls L) (hH : HR B0 g dC dI dA H0 h H) (hlo : ∀ q ∈ locs, B0 ≤ q.base) (hfr : d + 1 ≤ R.frames) (hll : d * 80 + 80 ≤ R.locals) (hcl : cells + (hN h1 - hN h) ≤ R.cells) (hsl : slots + (hU h1 - hU h) ≤ R.slots)
    (k : ∀ (H1 : Heap) (locs1 : List Loc), HR B0 g dC dI dA H0 h1 H1 → (∀ q ∈ locs1, B0 ≤ q.base) → W p l e R s m args below meth c H1 locs1 (cells + (hN h1 - hN h)) (slots + (hU h1 - hU h)) Q (F0 m (pc + 3) ls ((v.toList ++ rest).map (enc g)))) : W p l e R s m args below meth c H locs cells slots Q (F0 m pc ls (st.map (enc g))) := by
  obtain ⟨hx, hb, hml, hown, hts, hK, hini⟩ := X
  obtain ⟨n, cc, tl, rfl, q1, q2, q3, q4, q5⟩ := call_inr hs
  subst q4
  have hn := leL_le q1
  unfold okInv at hok
  split at hok
  · rename_i j' n' c' r kd tl' haux
    cases haux
    simp only [Bool.and_eq_true] at hok
    obtain ⟨⟨⟨o1, o2⟩, o3⟩, o4⟩ := hok
    obtain rfl := bq o1
    have hj0 : j ≠ 0 := fun e => by subst e; rw [okMD_0] at o2; cases o2
    obtain ⟨y', b', mL', ret', r1, r2, r3, stt, hm, w2, w3, hny, hpl, hmL, hm60⟩ := okMD_spec o2
    have hM := hC.2.2 y' b' mL' ret' _ hm o2 hj0 l
    have hws : ∀ w ∈ (Jvm.Cond.code y' b' mL' ret' :: TWg), ∀ (a' : Array Value) (U : State), s.WarmedH U.vm → w.before a' U = true := pay_in hts (ws_good hj0 hm)
    have hcode : (Jvm.Cond.code y' b' mL' ret').before args s = true := hts _ (cw_mem hj0 hm)
    have hini2 : (Jvm.Cond.initialized y'.cls).before args s = true := hts _ (hasW_mem w2)
    have hpre : ∀ U : State, U.heap = H → s.WarmedH U.vm → PcD B0 g dC dI dA H0 vs h (vs.map (enc g)).toArray U := fun U hU hW => ⟨rfl, hK.warm hW, by rw [hU]; exact hH⟩
    have h9 := fit8_sum G q2
    have hfix : CallFix p m c bytes L.length s args TWg y.cls := ⟨hx, hb, hml, hown, hts⟩
    have hsz : (F0 m pc ls (st.map (enc g))).locals.size = L.length := hLr.1
    have hrest : 2 * (F0 m pc ls (st.map (enc g))).monitorRoom + (((st.drop n).map (enc g)).map fun v => v.category).sum ≤ 8 := by show 2 * 0 + _ ≤ 8; omega
    have hfin : ∀ (hr : va_Run p l e R s m args below meth c H locs cells slots (hN h1 - hN h) (hU h1 - hU h) (F0 m pc ls (st.map (enc g))) ((st.drop n).map (enc g)) (QcD B0 g dC dI dA H0 v h1 (vs.map (enc g)).toArray) (fun q => B0 ≤ q)), W p l e R s m args below meth c H locs cells slots Q (F0 m pc ls (st.map (enc g))) := by
      intro hr
      refine W_call hr hlo (fun H1 locs1 z1 z2 => ?_)
      have h8 := k H1 locs1 z1 z2
      rw [List.map_append] at h8
      have e9 : (v.map (enc g)).toList = v.toList.map (enc g) := by cases v <;> rfl
      rw [e9]
      exact h8
    have hlen : vs.length = n := by rw [q3, List.length_reverse, List.length_take]; omega
    have hroom : (rmD d h h1).frames + 1 ≤ R.frames ∧ 8 + (mL' + 11) + (rmD d h h1).locals ≤ R.locals := ⟨hfr, by show 8 + (mL' + 11) + d * 80 ≤ R.locals; omega⟩
    have hcodeIn : Jvm.Cond.code y' b' mL' ret' ∈ (Jvm.Cond.code y' b' mL' ret' :: TWg) := List.mem_cons_self
    -- a receiver
    have hrecv : ∀ a As, vs = .ref a :: As → hT h a = cc → 1 ≤ cc → cc ≤ 15 → ∃ (x : Nat) (q : vw_C), g a = .ref x ∧ CT[cc - 1]? = some q ∧ ClassAt s q.1 (dC (cc - 1)) ∧ (∃ cellB : Cell, H[x]? = some cellB ∧ cellB.vm.isStatics = false ∧ s.vm.findClass q.1 = some cellB.cls) ∧ st.map (enc g) = (As.map (enc g)).reverse ++ .ref x :: (st.drop n).map (enc g) ∧ (vs.map (enc g)).toArray = (Value.ref x :: As.map (enc g)).toArray ∧ As.length = n - 1 := by
      intro a As hvs ht t1 t2
      obtain ⟨-, -, x, cell, e1, e2, e3, e4, -, -, e7⟩ := hH.cell ht t1
      obtain ⟨q, hq⟩ := ct_get (c := cc - 1) (by omega)
      have hKn := hK.1 _ _ hq
      refine ⟨x, q, e1, hq, hKn.2, ⟨cell, e2, e3, ?_⟩, rev_stack1 (by rw [← hvs, q3]) e1, by rw [hvs, List.map_cons, show enc g (.ref a) = g a from rfl, e1], by rw [← hlen, hvs]; rfl⟩
      rcases e7 with ⟨-, -, f1, -⟩ | ⟨f1, -⟩
      · rw [f1, ht]; exact hKn.2.1
      · omega
    unfold okCall at o3
    rw [hm] at o3
    dsimp only at o3
    have hcB : ∀ (hl : (Jvm.Cond.methodLink y.cls idx y').before args s = true) (nn : Nat), npOf y' = some nn → CallB R s args y.cls idx y' b' mL' ret' (Jvm.Cond.code y' b' mL' ret' :: TWg) (rmD d h h1) (hN h1 - hN h) (hU h1 - hU h) nn := fun hl nn hnn => ⟨rfl, rfl, hroom.1, hroom.2, hws, hcodeIn, hcode, hini2, hny, np_len hnn, hl⟩
    have hcN : ∀ (host : String) (hl : (Jvm.Cond.methodLinkNest y.cls idx y' host).before args s = true) (nn : Nat), npOf y' = some nn → va_CN R s args y.cls idx y' host b' mL' ret' (Jvm.Cond.code y' b' mL' ret' :: TWg) (rmD d h h1) (hN h1 - hN h) (hU h1 - hU h) nn := fun host hl nn hnn => ⟨⟨rfl, rfl, hroom.1, hroom.2, hws, hcodeIn⟩, hcode, hini2, hny, np_len hnn, hl⟩
    have hnest : NWs.any (isMN y.cls idx y') = true → ∃ host, (Jvm.Cond.methodLinkNest y.cls idx y' host).before args s = true := by
      intro hany
      obtain ⟨z, z1, z2⟩ := List.any_eq_true.mp hany
      unfold isMN at z2
      split at z2
      · simp only [Bool.and_eq_true] at z2
        obtain ⟨⟨y1, y2⟩, y3⟩ := z2
        have y1 := of_decide_eq_true y1
        have y2 := bq y2
        have y3 := of_decide_eq_true y3
        subst y1 y2 y3
        exact ⟨_, va_Nw.use rfl (hK.2.2.2.2.1 _ z1)⟩
      · cases z2
    split at o3
    · -- kind 0: a virtual call
      simp only [Bool.and_eq_true] at o3
      obtain ⟨⟨⟨⟨⟨⟨p1, p2⟩, p3⟩, p4⟩, p5⟩, p6⟩, p7⟩ := o3
      have hst0 := bq p1
      rw [hst0] at w3
      simp only [Nat.zero_ne_one, if_false] at w3
      have hc0 : cc ≠ 0 := by have := bnd p6; omega
      obtain ⟨a, As, hvs, ht⟩ := q5.resolve_left hc0
      obtain ⟨x, q, r1', r2', r3', r4', r5', r6', r7'⟩ := hrecv a As hvs ht (bnd p6) (bnd p7)
      rw [r2'] at p5
      have hv : ins = .invokevirtual idx := by
        simp only [if_true] at o4
        rcases hins with ⟨z1, z2, z3⟩ | ⟨z1, z2, z3⟩ | ⟨z1, z2, z3⟩
        · exact z3
        · rw [z1] at o4; cases o4
        · rw [z1] at o4; cases o4
      subst hv
      refine hfin ?_
      rw [r6'] at hpre ⊢
      exact va_runV (ret := ret') hfix hM ⟨hcB (hts _ (hasW_mem p4)) _ (of_decide_eq_true p2), hts _ (hasW_mem w3), hts _ (hasW_mem p5)⟩ ⟨PcD.blind, r4', fun U hU hW => hpre U hU hW⟩ rfl (by rw [List.length_map]; exact r7') hsz r5' hrest hd ⟨hcl, hsl⟩
    · -- kind 1: a static call
      simp only [Bool.and_eq_true] at o3
      obtain ⟨⟨⟨p1, p2⟩, p3⟩, p4⟩ := o3
      have hst0 := bq p1
      rw [hst0] at w3
      simp only [if_true] at w3
      have hv : ins = .invokestatic idx := by
        rcases hins with ⟨z1, z2, z3⟩ | ⟨z1, z2, z3⟩ | ⟨z1, z2, z3⟩
        · rw [z2] at o4; simp at o4
        · exact z3
        · rw [z2] at o4; simp at o4
      subst hv
      exact hfin (va_runS (ret := ret') hfix hM ⟨hcB (hts _ (hasW_mem p3)) _ (of_decide_eq_true p2), hts _ (hasW_mem w3)⟩ ⟨PcD.blind, hpre⟩ rfl (by rw [List.length_map]; exact hlen) hsz (rev_stack q3) hrest hd ⟨hcl, hsl⟩)
    · -- kind 2: a static call in the nest
      simp only [Bool.and_eq_true] at o3
      obtain ⟨⟨⟨p1, p2⟩, p3⟩, p4⟩ := o3
      have hst0 := bq p1
      rw [hst0] at w3
      simp only [if_true] at w3
      have hv : ins = .invokestatic idx := by
        rcases hins with ⟨z1, z2, z3⟩ | ⟨z1, z2, z3⟩ | ⟨z1, z2, z3⟩
        · rw [z2] at o4; simp at o4
        · exact z3
        · rw [z2] at o4; simp at o4
      subst hv
      obtain ⟨host, hl⟩ := hnest p3
      exact hfin (va_runSN (ret := ret') hfix hM ⟨hcN host hl _ (of_decide_eq_true p2), hts _ (hasW_mem w3), trivial⟩ ⟨PcD.blind, hpre⟩ rfl (by rw [List.length_map]; exact hlen) hsz (rev_stack q3) hrest hd ⟨hcl, hsl⟩)
    · -- kind 3: a constructor
      simp only [Bool.and_eq_true] at o3
      obtain ⟨⟨⟨⟨⟨⟨⟨p1, p2⟩, p3⟩, p4⟩, p5⟩, p6⟩, p7⟩, p8⟩ := o3
      have hst0 := bq p1
      rw [hst0] at w3
      simp only [Nat.zero_ne_one, if_false] at w3
      have hc0 : cc ≠ 0 := by have := bnd p7; omega
      obtain ⟨a, As, hvs, ht⟩ := q5.resolve_left hc0
      obtain ⟨x, q, r1', r2', r3', r4', r5', r6', r7'⟩ := hrecv a As hvs ht (bnd p7) (bnd p8)
      have hv : ins = .invokespecial idx := by
        rcases hins with ⟨z1, z2, z3⟩ | ⟨z1, z2, z3⟩ | ⟨z1, z2, z3⟩
        · rw [z1, z2] at o4; simp at o4
        · rw [z1, z2] at o4; simp at o4
        · exact z3
      subst hv
      have hret := of_decide_eq_true p6
      subst hret
      refine hfin ?_
      rw [r6'] at hpre ⊢
      exact va_runI hfix hM ⟨hcB (hts _ (hasW_mem p4)) _ (of_decide_eq_true p2), of_decide_eq_true p5, hts _ (hasW_mem w3)⟩ ⟨PcD.blind, hpre⟩ rfl (by rw [List.length_map]; exact r7') hsz r5' hrest hd ⟨hcl, hsl⟩
    · -- kind 4: a constructor in the nest
      simp only [Bool.and_eq_true] at o3
      obtain ⟨⟨⟨⟨⟨⟨⟨p1, p2⟩, p3⟩, p4⟩, p5⟩, p6⟩, p7⟩, p8⟩ := o3
      have hst0 := bq p1
      rw [hst0] at w3
      simp only [Nat.zero_ne_one, if_false] at w3
      have hc0 : cc ≠ 0 := by have := bnd p7; omega
      obtain ⟨a, As, hvs, ht⟩ := q5.resolve_left hc0
      obtain ⟨x, q, r1', r2', r3', r4', r5', r6', r7'⟩ := hrecv a As hvs ht (bnd p7) (bnd p8)
      have hv : ins = .invokespecial idx := by
        rcases hins with ⟨z1, z2, z3⟩ | ⟨z1, z2, z3⟩ | ⟨z1, z2, z3⟩
        · rw [z1, z2] at o4; simp at o4
        · rw [z1, z2] at o4; simp at o4
        · exact z3
      subst hv
      have hret := of_decide_eq_true p6
      subst hret
      obtain ⟨host, hl⟩ := hnest p4
      refine hfin ?_
      rw [r6'] at hpre ⊢
      exact va_runIN hfix hM ⟨hcN host hl _ (of_decide_eq_true p2), of_decide_eq_true p5, hts _ (hasW_mem w3)⟩ ⟨PcD.blind, hpre⟩ rfl (by rw [List.length_map]; exact r7') hsz r5' hrest hd ⟨hcl, hsl⟩
    · -- kind 5: a call of the superclass's method
      simp only [Bool.and_eq_true] at o3
      obtain ⟨⟨⟨⟨⟨⟨⟨⟨p1, p2⟩, p3⟩, p4⟩, p5⟩, p6⟩, p7⟩, p8⟩, p9⟩ := o3
      have hst0 := bq p1
      rw [hst0] at w3
      simp only [Nat.zero_ne_one, if_false] at w3
      have hc0 : cc ≠ 0 := by have := bnd p8; omega
      obtain ⟨a, As, hvs, ht⟩ := q5.resolve_left hc0
      obtain ⟨x, q, r1', r2', r3', r4', r5', r6', r7'⟩ := hrecv a As hvs ht (bnd p8) (bnd p9)
      have hv : ins = .invokespecial idx := by
        rcases hins with ⟨z1, z2, z3⟩ | ⟨z1, z2, z3⟩ | ⟨z1, z2, z3⟩
        · rw [z1, z2] at o4; simp at o4
        · rw [z1, z2] at o4; simp at o4
        · exact z3
      subst hv
      refine hfin ?_
      rw [r6'] at hpre ⊢
      exact va_runSU (ret := ret') r3' hfix hM ⟨⟨rfl, rfl, hroom.1, hroom.2, hws, hcodeIn⟩, hts _ (hasW_mem p4), hts _ (hasW_mem p5), hts _ (hasW_mem p6), hts _ (hasW_mem w3), hini2, hcode, of_decide_eq_true p7, np_len (of_decide_eq_true p2)⟩ ⟨PcD.blind, r4', fun U hU hW => hpre U hU hW⟩ rfl (by rw [List.length_map]; exact r7') hsz r5' hrest hd ⟨hcl, hsl⟩
    · -- kind 6: a virtual call by another name
      rename_i r2x r3x jx
      split at o3
      · rename_i xm xb xL xr x1 x2 x3 stx hmx
        simp only [Bool.and_eq_true] at o3
        obtain ⟨⟨⟨⟨⟨⟨⟨⟨⟨p1, p2⟩, p3⟩, p4⟩, p5⟩, p6⟩, p7⟩, p8⟩, p9⟩, p10⟩ := o3
        have hst0 := bq p2
        rw [hst0] at w3
        simp only [Nat.zero_ne_one, if_false] at w3
        obtain ⟨y2, b2, mL2, ret2, s1, s2, s3, st2, hm2, v2, v3, vny, -⟩ := okMD_spec p10
        cases hmx.symm.trans hm2
        have hstx := bq p1
        rw [hstx] at v3
        simp only [Nat.zero_ne_one, if_false] at v3
        have hc0 : cc ≠ 0 := by have := bnd p8; omega
        obtain ⟨a, As, hvs, ht⟩ := q5.resolve_left hc0
        obtain ⟨x, q, r1', r2', r3', r4', r5', r6', r7'⟩ := hrecv a As hvs ht (bnd p8) (bnd p9)
        rw [r2'] at p7
        have hv : ins = .invokevirtual idx := by
          simp only [if_true] at o4
          rcases hins with ⟨z1, z2, z3⟩ | ⟨z1, z2, z3⟩ | ⟨z1, z2, z3⟩
          · exact z3
          · rw [z1] at o4; simp at o4
          · rw [z1] at o4; simp at o4
        subst hv
        have hjx : jx ≠ 0 := by
          intro e
          subst e
          cases hmx
          cases hstx
        refine hfin ?_
        rw [r6'] at hpre ⊢
        exact va_runU (ret := ret') (owner := xm.cls) (x := xm) hfix hM ⟨⟨rfl, rfl, hroom.1, hroom.2, hws, hcodeIn⟩, hcode, hini2, vny, np_len (of_decide_eq_true p3), hts _ (hasW_mem p5), hts _ (hasW_mem p6), va_Decl.of (hts _ (hasW_mem v3)) (hts _ (cw_mem hjx hmx)), hts _ (hasW_mem p7), hts _ (hasW_mem w3)⟩ ⟨PcD.blind, r4', fun U hU hW => hpre U hU hW⟩ rfl (by rw [List.length_map]; exact r7') hsz r5' hrest hd ⟨hcl, hsl⟩
      · cases o3
    · cases o3
  · rename_i e; cases e
  · rename_i e; cases e
  · rename_i e; cases e
  · cases hok
end

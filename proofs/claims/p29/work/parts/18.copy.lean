/-! 18 SOUNDNESS of arraycopy and of an array's clone -/
theorem copy_nat : Jvm.Cond.native arraycopyName ∈ TWg := tw_g (r := 6095) rfl rfl
theorem copy_stat : Jvm.Cond.static arraycopyName ∈ TWg := tw_g (r := 6094) rfl rfl
theorem copy_ini : Jvm.Cond.initialized "java/lang/System" ∈ TWg := tw_g (r := 2023) rfl rfl
theorem clone_nat : Jvm.Cond.native ⟨"java/lang/Object", "clone", "()Ljava/lang/Object;"⟩ ∈ TWg := tw_g (r := 6087) rfl rfl
theorem clone_inst : Jvm.Cond.instanceMethod ⟨"java/lang/Object", "clone", "()Ljava/lang/Object;"⟩ ∈ TWg := tw_g (r := 6088) rfl rfl
theorem clone_sel : Jvm.Cond.selects "[B" ⟨"[B", "clone", "()Ljava/lang/Object;"⟩ ⟨"java/lang/Object", "clone", "()Ljava/lang/Object;"⟩ ∈ TWg := tw_g (r := 6089) rfl rfl
theorem clone_same : Jvm.Cond.sameMethod "[B" "java/lang/Object" "clone" "()Ljava/lang/Object;" ∈ TWg := tw_g (r := 6086) rfl rfl
theorem nn_ix {z : Int32} (h : ¬ z < 0) : z.toInt = (ix z : Int) := by
  have h0 : (0 : Int) ≤ z.toInt := by
    have := Int32.not_lt.mp h
    simpa using Int32.le_iff_toInt_le.mp this
  show z.toInt = ((z.toInt.toNat : Nat) : Int)
  omega
theorem copy_W {B0 : Nat} {g : Nat → Value} {dC : Nat → ClassId} {dI : Nat → Nat → Nat} {dA : Nat → ClassId} {H0 : Heap} {p : Program} {l : Launch} {e : Env} {R : Room} {s : State} {m : MethodId} {args : Array Value} {below : List Frame} {meth : Method} {c : Code} {Q : State → Prop} {y : MethodName} {bytes : ByteArray} {idx r pc : Nat} {L st1 : List Value} {h : AH} {ls : Array Slot} {H : Heap} {locs : List Loc} {cells slots a b : Nat} {sp dp n : Int32}
    (G : gok B0 g) (X : Cx B0 g dC dI dA H0 p s m args meth c y bytes L.length) (hd : decode bytes pc = .ok (.invokestatic idx, 3)) (hw : hasW r (.methodLink y.cls idx arraycopyName) = true) (hLr : LR g ls L) (hH : HR B0 g dC dI dA H0 h H) (hlo : ∀ q ∈ locs, B0 ≤ q.base) (hfr : 1 ≤ R.frames) (hll : 60 ≤ R.locals) (h8 : fit8 st1 = true)
    (ta : hT h a = 102) (tb' : hT h b = 102) (hb' : KK ≤ b) (n1 : ¬ sp < 0) (n2 : ¬ dp < 0) (n3 : ¬ n < 0) (n4 : ix sp + ix n ≤ hL h a) (n5 : ix dp + ix n ≤ hL h b)
    (k : Kt B0 g dC dI dA H0 p l e R s m args below meth c Q (pc + 3) L st1 h (wCp h a (ix sp) b (ix dp) (ix n)) cells slots) : W p l e R s m args below meth c H locs cells slots Q (F0 m pc ls ((.int n :: .int dp :: .ref b :: .int sp :: .ref a :: st1).map (enc g))) := by
  obtain ⟨hx, hb, hml, hown, hts, hK, hini⟩ := X
  obtain ⟨-, xa, ca, a1, a2, a3, a4, a5, a6, -, a8', a9, a10⟩ := arr_cell hH hK ta (Nat.le_of_ble_eq_true rfl) (Nat.le_of_ble_eq_true rfl) (ty := .byte) rfl
  have a8 := a8'.eq (by decide)
  obtain ⟨-, xb, cb, b1, b2, b3, b4, b5, b6, b7, b8', b9, b10⟩ := arr_cell hH hK tb' (Nat.le_of_ble_eq_true rfl) (Nat.le_of_ble_eq_true rfl) (ty := .byte) rfl
  have b8 := b8'.eq (by decide)
  simp only [List.map_cons]
  rw [show enc g (.ref a) = g a from rfl, show enc g (.ref b) = g b from rfl, a1, b1]
  have h9 := fit8_sum G h8
  have hwords : nativeFrameWords "java/lang/System" "arraycopy" 5 + 11 + 8 ≤ 60 := by decide +kernel
  obtain ⟨-, ks, hks, sc, hsk⟩ := a3
  obtain ⟨-, kd, hkd, dc, hdk⟩ := b3
  have key : ∀ i, i < ix n → ca.slots.getD (ix sp + i) .null = .int (hI h a (ix sp + i)) := by
    intro i hi
    rw [Array.getD_eq_getD_getElem?, a9 _ (by omega)]
    rfl
  intro T hTT X
  obtain ⟨vm', X', step⟩ := X.arraycopy hx hown (hts _ (hasW_mem hw)) (hts _ copy_nat) (hts _ copy_stat) (hts _ copy_ini) (src := xa) (dst := xb) (cs := ca) (cd := cb) (srcPos := sp) (destPos := dp) (n := n) (by rw [hTT]; exact a2) (by rw [hTT]; exact b2)
    (fun z hz => by rw [hz] at a5; exact nomatch a5) (fun z hz => by rw [hz] at b5; exact nomatch b5) a4 b4 hks hkd hsk hdk (by simp [refKind]) n1 n2 n3 (by rw [nn_ix n1, nn_ix n3, a8]; omega) (by rw [nn_ix n2, nn_ix n3, b8]; omega)
    (fun vm₁ _ i hi => by
      rw [key i hi]
      exact ⟨byte_fits (a10 rfl _), trivial⟩)
    (g := F0 m pc ls (.int n :: .int dp :: .ref xb :: .int sp :: .ref xa :: st1.map (enc g))) rfl (by show ls.size = _; rw [hLr.1, hml]) (rest := st1.map (enc g)) rfl (by rw [hb]; exact hd) hfr (by show 2 * 0 + _ + _ ≤ _; omega)
  obtain ⟨s1, s2, s3, -⟩ := Cell.storeRun_facts cb (ix dp) (ca.stretch (ix sp) (ix n))
  have hlen : (ca.stretch (ix sp) (ix n)).length = ix n := by simp [Cell.stretch]
  have hget := fun j => Cell.storeRun_get cb (ix dp) (ca.stretch (ix sp) (ix n)) j (by rw [hlen, b8]; exact n5)
  generalize hc9 : copied ca cb sp dp n = c9 at X' step
  have hc9' : cb.storeRun (ix dp) (ca.stretch (ix sp) (ix n)) = c9 := hc9
  rw [hc9'] at s1 s2 s3 hget
  have hlb : xb < H.size := (Array.getElem?_eq_some_iff.mp b2).1
  have hHR : HR B0 g dC dI dA H0 (wCp h a (ix sp) b (ix dp) (ix n)) (H.setIfInBounds xb c9) := by
    refine HR.write (cell' := c9) G hH hb' b1 rfl rfl (fun q hq cell hr => cellR_row (h := h) (h1 := wCp h a (ix sp) b (ix dp) (ix n)) rfl rfl (fun j => congrFun (up1_ne hq) j) (fun j => rfl) (fun j => rfl) hr) (by simp [hlb]) (by simp) (fun q hq => by simp [Array.getElem?_setIfInBounds, Ne.symm hq]) (by rw [s2]; exact b7 hb') (Or.inr ⟨by show 101 ≤ hT h b; rw [tb']; exact Nat.le_of_ble_eq_true rfl, by show hT h b ≤ 112; rw [tb']; exact Nat.le_of_ble_eq_true rfl, by rw [s1]; show cb.cls = dA (hT h b - 101); rw [tb']; exact b6, szR.of (by rw [s3]; exact b8), fun ty hty j hj => ?_, fun _ j => ?_⟩)
    · have hty' : ATy[hT h b - 101]? = some ty := hty
      rw [tb'] at hty'
      cases hty'
      have hj' : j < hL h b := hj
      rw [hget j, hlen]
      have hv : enc g (avv (wCp h a (ix sp) b (ix dp) (ix n)) .byte b j) = .int (if ix dp ≤ j ∧ j < ix dp + ix n then hI h a (ix sp + (j - ix dp)) else hI h b j) := by
        show Value.int (up1 (hI h) b _ b j) = _
        rw [up1_eq]
      show _ = some (enc g (avv (wCp h a (ix sp) b (ix dp) (ix n)) .byte b j))
      rw [hv]
      by_cases hq : ix dp ≤ j ∧ j < ix dp + ix n
      · rw [if_pos hq, if_pos hq]
        have hlt : j - ix dp < ix n := by omega
        unfold Cell.stretch
        rw [List.getElem?_map, List.getElem?_range hlt, Option.map_some, key _ hlt]
      · rw [if_neg hq, if_neg hq]
        exact b9 j hj'
    · show (up1 (hI h) b _ b j).toInt8.toInt32 = up1 (hI h) b _ b j
      rw [up1_eq]
      try dsimp only
      by_cases hq : ix dp ≤ j ∧ j < ix dp + ix n
      · rw [if_pos hq]; exact a10 rfl _
      · rw [if_neg hq]; exact b10 rfl j
  have h7 := k ls (H.setIfInBounds xb c9) (locs ++ (ca.stretch (ix sp) (ix n)).zipIdx.map fun q => ⟨xb, ix dp + q.2⟩) hLr hHR (fun q hq => by
    rcases List.mem_append.mp hq with h | h
    · exact hlo q h
    · obtain ⟨z, -, hz⟩ := List.mem_map.mp h
      rw [← hz]
      have h6 := G.2.1 b hb'
      rw [b1] at h6
      have h7 : xb = B0 + (b - KK) := Value.ref.inj h6
      show B0 ≤ xb
      omega)
  rw [show hN (wCp h a (ix sp) b (ix dp) (ix n)) - hN h = 0 from Nat.sub_self _, show hU (wCp h a (ix sp) b (ix dp) (ix n)) - hU h = 0 from Nat.sub_self _, Nat.add_zero, Nat.add_zero] at h7
  obtain ⟨t, q1, q2⟩ := h7 ((T.setVm vm').setCell xb c9) (by rw [← hTT]; rfl) X'
  exact ⟨t, step t q1, q2⟩
theorem cellR_hCl {g : Nat → Value} {dC : Nat → ClassId} {dI : Nat → Nat → Nat} {dA : Nat → ClassId} {h : AH} {a b : Nat} (hb : b ≠ hN h) (cell : Cell) (hr : cellR g dC dI dA h b cell) : cellR g dC dI dA (hCl h a) b cell :=
  cellR_row (h := h) (h1 := hCl h a) (up1_ne hb) (up1_ne hb) (fun j => congrFun (up1_ne hb) j) (fun j => congrFun (up1_ne hb) j) (fun j => congrFun (up1_ne hb) j) hr
theorem clone_W {B0 : Nat} {g : Nat → Value} {dC : Nat → ClassId} {dI : Nat → Nat → Nat} {dA : Nat → ClassId} {H0 : Heap} {p : Program} {l : Launch} {e : Env} {R : Room} {s : State} {m : MethodId} {args : Array Value} {below : List Frame} {meth : Method} {c : Code} {Q : State → Prop} {y : MethodName} {bytes : ByteArray} {idx r pc : Nat} {L st1 : List Value} {h : AH} {ls : Array Slot} {H : Heap} {locs : List Loc} {cells slots a : Nat}
    (G : gok B0 g) (X : Cx B0 g dC dI dA H0 p s m args meth c y bytes L.length) (hd : decode bytes pc = .ok (.invokevirtual idx, 3)) (hw : hasW r (.methodLink y.cls idx ⟨"[B", "clone", "()Ljava/lang/Object;"⟩) = true) (hLr : LR g ls L) (hH : HR B0 g dC dI dA H0 h H) (hlo : ∀ q ∈ locs, B0 ≤ q.base) (hfr : 1 ≤ R.frames) (hll : 60 ≤ R.locals) (h8 : fit8 st1 = true)
    (ta : hT h a = 102) (hc : cells + (hN (hCl h a) - hN h) ≤ R.cells) (hsl : slots + (hU (hCl h a) - hU h) ≤ R.slots)
    (k : Kt B0 g dC dI dA H0 p l e R s m args below meth c Q (pc + 3) L (.ref (hN h) :: st1) h (hCl h a) cells slots) : W p l e R s m args below meth c H locs cells slots Q (F0 m pc ls ((.ref a :: st1).map (enc g))) := by
  obtain ⟨hx, hb, hml, hown, hts, hK, hini⟩ := X
  obtain ⟨-, xa, ca, a1, a2, a3, a4, a5, a6, -, a8', a9, a10⟩ := arr_cell hH hK ta (Nat.le_of_ble_eq_true rfl) (Nat.le_of_ble_eq_true rfl) (ty := .byte) rfl
  have a8 := a8'.eq (by decide)
  simp only [List.map_cons]
  rw [show enc g (.ref a) = g a from rfl, a1]
  have h9 := fit8_sum G h8
  obtain ⟨kA, comp, q1, q2, q3', -⟩ := hK.2.1 1 .byte rfl
  have q3 := q3' (by decide)
  have hcast := hK.2.2.2.2.1 (.castable "[B" "java/lang/Cloneable") (List.mem_of_getElem? (i := 4) rfl)
  obtain ⟨c0, t0, f1, f2, f3⟩ := Cond.castable_spec (va_Nw.use (A := args) rfl hcast)
  have hc0 : c0 = dA 1 := Option.some.inj (f1.symm.trans q3)
  have e1 : hN (hCl h a) - hN h = 1 := by show hN h + 1 - hN h = 1; omega
  have e2 : hU (hCl h a) - hU h = hL h a := by show hU h + hL h a - hU h = hL h a; omega
  rw [e1] at hc
  rw [e2] at hsl
  have hfitA : ∀ (i : Nat) (v : Value), ca.slots[i]? = some v → fits .byte v = true := by
    intro i v hv
    have hi : i < hL h a := by rw [← a8]; exact (Array.getElem?_eq_some_iff.mp hv).1
    rw [a9 i hi] at hv
    cases hv
    exact byte_fits (a10 rfl i)
  intro T hTT X
  obtain ⟨kA', hkA', heA⟩ := X.warmed.alike.2.2 _ _ q1
  obtain ⟨vm', X', step⟩ := X.cloneArray hx hown (hts _ (hasW_mem hw)) (hts _ clone_same) (hts _ clone_nat) (hts _ clone_inst) (hts _ clone_sel) (a := xa) (cell := ca) (cC := t0) (by rw [hTT]; exact a2) (fun z hz => by rw [hz] at a5; exact nomatch a5) a4 (by rw [a6]; exact q3) f2 (by rw [a6]; rw [hc0] at f3; exact f3)
    (fun i v hv => by
      rw [a6]
      have hk' : T.vm.classes[dA 1]? = some kA' := hkA'
      have hkind : kA'.kind = .array comp .byte := by rw [heA]; exact q2
      simpa [State.fitsSlot, State.slotType?, hk', hkind] using hfitA i v hv)
    (g := F0 m pc ls (.ref xa :: st1.map (enc g))) rfl (by show ls.size = _; rw [hLr.1, hml]) rfl (by rw [hb]; exact hd) hfr (by show 2 * 0 + _ + 14 ≤ _; omega) hc (by rw [a8]; exact hsl) (hloader := by rw [a6]; exact Vm.clonesLoader_of_array q1 q2)
  have hT1 : hT (hCl h a) (hN h) = 102 := by show up1 (hT h) (hN h) (hT h a) (hN h) = 102; rw [up1_eq]; exact ta
  have hL1 : hL (hCl h a) (hN h) = hL h a := up1_eq
  have hI1 : ∀ j, hI (hCl h a) (hN h) j = hI h a j := fun j => congrFun (up1_eq (f := hI h) (a := hN h) (v := hI h a)) j
  obtain ⟨hHR, hg⟩ := HR.alloc (h' := hCl h a) (H' := H.push { cls := ca.cls, slots := ca.slots }) G hH rfl (fun b hb => up1_ne hb) (by rw [hT1]; exact Nat.le_of_ble_eq_true rfl) (fun b hb cell hr => cellR_hCl hb cell hr) Array.getElem?_push_size (Array.size_push _) (fun q hq => by rw [Array.getElem?_push, if_neg (Nat.ne_of_lt hq)]) rfl (Or.inr ⟨by rw [hT1]; exact Nat.le_of_ble_eq_true rfl, by rw [hT1]; exact Nat.le_of_ble_eq_true rfl, by rw [hT1]; exact a6, szR.of (by rw [hL1]; exact a8), fun ty hty j hj => by
    rw [hT1] at hty
    cases hty
    rw [hL1] at hj
    show ca.slots[j]? = some (.int (hI (hCl h a) (hN h) j))
    rw [hI1]
    exact a9 j hj, fun _ j => by rw [hI1]; exact a10 rfl j⟩)
  have h7 := k ls (H.push { cls := ca.cls, slots := ca.slots }) locs hLr hHR hlo
  rw [e1, e2, List.map_cons, show enc g (.ref (hN h)) = g (hN h) from rfl, hg] at h7
  rw [a8] at X'
  obtain ⟨t, w1, w2⟩ := h7 _ (by rw [← hTT]; rfl) X'
  refine ⟨t, step t ?_, w2⟩
  rw [hTT]
  exact w1

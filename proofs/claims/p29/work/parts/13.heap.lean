/-! 13 SOUNDNESS of the instructions that read the heap -/
theorem ct_get {c : Nat} (h : c < 15) : ∃ q, CT[c]? = some q := ⟨_, List.getElem?_eq_getElem (show c < CT.length from h)⟩
theorem aty_get {k : Nat} (h : k < 12) : ∃ t, ATy[k]? = some t := ⟨_, List.getElem?_eq_getElem (show k < ATy.length from h)⟩
theorem TW_in {s : State} {args : Array Value} {y : MethodName} {bytes : ByteArray} {c : Nat} {q : vw_C} (hts : ∀ w, w ∈ TWg → w.before args s = true) : True := trivial
theorem bnd {a b : Nat} (h : Nat.ble a b = true) : a ≤ b := Nat.le_of_ble_eq_true h
-- fields: the words that lay them out
def layW (q : vw_C) : List Jvm.Cond := u_ws q.1 q.2.1 q.2.2
theorem lay_in : ∀ (c : Nat) (q : vw_C), CT[c]? = some q → ∀ w ∈ layW q, w ∈ TWg := fun c q h => by
  have h1 : CT.all (fun q => (layW q).all fun w => goodWord w && decide (w ∈ tables_1)) = true := by decide +kernel
  have h2 := List.all_eq_true.mp h1 q (List.mem_of_getElem? h)
  intro w hw
  have h3 := List.all_eq_true.mp h2 w hw
  rw [Bool.and_eq_true] at h3
  have h4 := of_decide_eq_true h3.2
  refine List.mem_filter.mpr ⟨?_, h3.1⟩
  unfold TW
  refine List.mem_flatten.mpr ?_
  unfold tables_1 at h4
  simp only [List.mem_append] at h4
  rcases h4 with h | h | h | h | h | h | h | h
  · exact ⟨_, List.mem_of_getElem? (i := 2) rfl, h⟩
  · exact ⟨_, List.mem_of_getElem? (i := 3) rfl, h⟩
  · exact ⟨_, List.mem_of_getElem? (i := 4) rfl, h⟩
  · exact ⟨_, List.mem_of_getElem? (i := 5) rfl, h⟩
  · exact ⟨_, List.mem_of_getElem? (i := 6) rfl, h⟩
  · exact ⟨_, List.mem_of_getElem? (i := 7) rfl, h⟩
  · exact ⟨_, List.mem_of_getElem? (i := 8) rfl, h⟩
  · exact ⟨_, List.mem_of_getElem? (i := 9) rfl, h⟩
theorem sw_getfield (idx : Nat) : SW (.getfield idx) := by
  intro B0 g dC dI dA H0 p l e R s m args below meth c Q y bytes ret len aux pc L st h pc' L' st' h' ls H locs cells slots G X hd hok hs hL hH hlo hc hsl hfr hll k
  obtain ⟨hx, hb, hml, hown, hts, hK, hini⟩ := X
  simp only [okI, Bool.and_eq_true] at hok
  obtain ⟨hok1, hok⟩ := hok
  obtain rfl := bq hok1
  unfold okFld at hok
  split at hok
  · rename_i t f kd r
    split at hok
    · rename_i q hq
      simp only [Bool.and_eq_true, if_false, Bool.false_eq_true] at hok
      obtain ⟨⟨⟨⟨o1, o2⟩, o3⟩, o4⟩, o5⟩ := hok
      have o5 := bq o5
      simp only [step1] at hs
      split at hs
      · rename_i c' k' kd' rr a st1 hax
        cases hax
        obtain ⟨hp, hs⟩ := gd_inj hs
        obtain ⟨rfl, rfl, rfl, rfl⟩ := go_inj hs
        obtain ⟨-, -, x, cell, e1, e2, e3, e4, -, -, e7⟩ := hH.cell hp (bnd o1)
        rcases e7 with ⟨-, -, f1, f2⟩ | ⟨f1, -⟩
        · rw [hp] at f1 f2
          have f3 := f2 q hq f (by rw [← Nat.blt_eq]; exact o3)
          obtain ⟨hS, hfc, kC, hkC, hkind⟩ := hK.1 _ _ hq
          obtain ⟨cf, kf, fi, fd, hi, hsl2⟩ := hS f (by rw [← Nat.blt_eq]; exact o3)
          rw [List.map_cons, show enc g (.ref a) = g a from rfl, e1]
          refine W.getf hx hb hown (hts _ (hasW_mem o4)) hi (u_facts hfc hkC (u_lays hts (lay_in _ _ hq) (by rw [← Nat.blt_eq]; exact o3)) hi).1 e2 e4 (by rw [hsl2]; exact f3) rfl rfl hd ?_
          rw [← o5]
          exact k.pure hL hH hlo
        · rw [hp] at f1
          have := bnd o2
          omega
      · cases hs
    · cases hok
  · cases hok
-- arrays
section
variable {B0 : Nat} {g : Nat → Value} {dC : Nat → ClassId} {dI : Nat → Nat → Nat} {dA : Nat → ClassId} {H0 : Heap}
theorem arr_cell {h : AH} {H : Heap} (hr : HR B0 g dC dI dA H0 h H) {s : State} (hK : KF B0 g dC dI dA H0 s) {a t : Nat} {ty : FieldType} (ht : hT h a = t) (h1 : 101 ≤ t) (h2 : t ≤ 112) (hty : ATy[t - 101]? = some ty) :
    (KK ≤ a ∨ onlyConst t = true) ∧ ∃ (x : Nat) (cell : Cell), g a = .ref x ∧ H[x]? = some cell ∧ s.isArrayOf cell ty ∧ cell.vm ≠ .unknown ∧ cell.vm.isStatics = false ∧ cell.cls = dA (t - 101) ∧ (KK ≤ a → cell.vm = .none) ∧ szR t (hL h a) cell.slots.size ∧ (∀ j, j < hL h a → cell.slots[j]? = some (enc g (avv h ty a j))) ∧ (t = 102 → ∀ j, (hI h a j).toInt8.toInt32 = hI h a j) := by
  obtain ⟨-, q2, x, cell, e1, e2, e3, e4, e5, -, e7⟩ := hr.cell ht (by omega)
  refine ⟨q2, x, cell, e1, e2, ?_⟩
  rcases e7 with ⟨-, f1, -⟩ | ⟨-, -, f1, f2, f3, f4⟩
  · rw [ht] at f1; omega
  · rw [ht] at f1 f2 f3 f4
    obtain ⟨kA, comp, a1, a2, -⟩ := hK.2.1 _ _ hty
    refine ⟨⟨(fun k hk => by rw [hk] at e3; exact nomatch e3), kA, by rw [f1]; exact a1, comp, a2⟩, e4, e3, f1, e5, f2, f3 ty hty, f4⟩
theorem inb_not {j : Int32} {t n m : Nat} (h : inb j n) (hm : szR t n m) : ¬ (j < 0 ∨ m ≤ j.toNatClampNeg) := by
  rintro (q | q)
  · exact h.1 q
  · have := h.2; have := hm.1; omega
end
theorem sw_iaload : SW .iaload := by
  intro B0 g dC dI dA H0 p l e R s m args below meth c Q y bytes ret len aux pc L st h pc' L' st' h' ls H locs cells slots G X hd hok hs hL hH hlo hc hsl hfr hll k
  obtain ⟨hx, hb, hml, hown, hts, hK, hini⟩ := X
  simp only [okI, Bool.and_eq_true] at hok
  obtain ⟨hok1, hok⟩ := hok
  obtain rfl := bq hok1
  simp only [step1] at hs
  split at hs
  · rename_i t r j a st1
    obtain ⟨hp, hs⟩ := gd_inj hs
    obtain ⟨rfl, rfl, rfl, rfl⟩ := go_inj hs
    rcases (Bool.or_eq_true _ _).mp hok with hax | hax
    · have hax := eq_of_beq hax
      cases hax
      obtain ⟨-, x, cell, e1, e2, e3, e4, -, -, -, e6, e7, -⟩ := arr_cell hH hK hp.1 (t := 101) (Nat.le_of_ble_eq_true rfl) (Nat.le_of_ble_eq_true rfl) (ty := .int) rfl
      rw [List.map_cons, List.map_cons, show enc g (.ref a) = g a from rfl, e1]
      exact W.iald hx hb e2 e3 e4 (inb_not hp.2 e6) (e7 _ hp.2.2) rfl rfl hd (k.pure hL hH hlo)
    · have hax := eq_of_beq hax
      cases hax
      obtain ⟨-, x, cell, e1, e2, e3, e4, -, -, -, e6, e7, -⟩ := arr_cell hH hK hp.1 (t := 112) (Nat.le_of_ble_eq_true rfl) (Nat.le_of_ble_eq_true rfl) (ty := .int) rfl
      rw [List.map_cons, List.map_cons, show enc g (.ref a) = g a from rfl, e1]
      exact W.iald hx hb e2 e3 e4 (inb_not hp.2 e6) (e7 _ hp.2.2) rfl rfl hd (k.pure hL hH hlo)
  · cases hs
theorem sw_baload : SW .baload := by
  intro B0 g dC dI dA H0 p l e R s m args below meth c Q y bytes ret len aux pc L st h pc' L' st' h' ls H locs cells slots G X hd hok hs hL hH hlo hc hsl hfr hll k
  obtain ⟨hx, hb, hml, hown, hts, hK, hini⟩ := X
  simp only [okI, Bool.and_eq_true] at hok
  obtain ⟨hok1, hok⟩ := hok
  obtain rfl := bq hok1
  simp only [step1] at hs
  split at hs
  · rename_i t r j a st1
    obtain ⟨hp, hs⟩ := gd_inj hs
    obtain ⟨rfl, rfl, rfl, rfl⟩ := go_inj hs
    have hax := eq_of_beq hok
    cases hax
    · obtain ⟨-, x, cell, e1, e2, e3, e4, -, -, -, e6, e7, -⟩ := arr_cell hH hK hp.1 (t := 102) (Nat.le_of_ble_eq_true rfl) (Nat.le_of_ble_eq_true rfl) (ty := .byte) rfl
      rw [List.map_cons, List.map_cons, show enc g (.ref a) = g a from rfl, e1]
      exact W.bald hx hb e2 e3 e4 (inb_not hp.2 e6) (e7 _ hp.2.2) rfl rfl hd (k.pure hL hH hlo)
  · cases hs
theorem sw_laload : SW .laload := by
  intro B0 g dC dI dA H0 p l e R s m args below meth c Q y bytes ret len aux pc L st h pc' L' st' h' ls H locs cells slots G X hd hok hs hL hH hlo hc hsl hfr hll k
  obtain ⟨hx, hb, hml, hown, hts, hK, hini⟩ := X
  simp only [okI, Bool.and_eq_true] at hok
  obtain ⟨hok1, hok⟩ := hok
  obtain rfl := bq hok1
  simp only [step1] at hs
  split at hs
  · rename_i t r j a st1
    obtain ⟨hp, hs⟩ := gd_inj hs
    obtain ⟨rfl, rfl, rfl, rfl⟩ := go_inj hs
    have hax := eq_of_beq hok
    cases hax
    · obtain ⟨-, x, cell, e1, e2, e3, e4, -, -, -, e6, e7, -⟩ := arr_cell hH hK hp.1 (t := 103) (Nat.le_of_ble_eq_true rfl) (Nat.le_of_ble_eq_true rfl) (ty := .long) rfl
      rw [List.map_cons, List.map_cons, show enc g (.ref a) = g a from rfl, e1]
      exact W.lald hx hb e2 e3 e4 (inb_not hp.2 e6) (e7 _ hp.2.2) rfl rfl hd (k.pure hL hH hlo)
  · cases hs
theorem sw_aaload : SW .aaload := by
  intro B0 g dC dI dA H0 p l e R s m args below meth c Q y bytes ret len aux pc L st h pc' L' st' h' ls H locs cells slots G X hd hok hs hL hH hlo hc hsl hfr hll k
  obtain ⟨hx, hb, hml, hown, hts, hK, hini⟩ := X
  simp only [okI, Bool.and_eq_true] at hok
  obtain ⟨hok1, hok⟩ := hok
  obtain rfl := bq hok1
  split at hok
  · rename_i t
    rw [Bool.and_eq_true] at hok
    have o1 := bnd hok.1
    have o2 := bnd hok.2
    simp only [step1] at hs
    split at hs
    · rename_i t' r j a st1 hax
      cases hax
      obtain ⟨hp, hs⟩ := gd_inj hs
      obtain ⟨rfl, rfl, rfl, rfl⟩ := go_inj hs
      have key : ∀ ty, ATy[t - 101]? = some ty → ty.isReference = true → (∀ h a j, avv h ty a j = .ref (hR h a j)) → W p l e R s m args below meth c H locs cells slots Q (F0 m pc ls (List.map (enc g) (Value.int j :: Value.ref a :: st1))) := by
        intro ty hty href hav
        obtain ⟨-, x, cell, e1, e2, e3, e4, -, -, -, e6, e7, -⟩ := arr_cell hH hK hp.1 (by omega) (by omega) hty
        rw [List.map_cons, List.map_cons, show enc g (.ref a) = g a from rfl, e1]
        have e8 := e7 _ hp.2.2
        rw [hav] at e8
        exact W.aald hx hb e2 e3 href e4 (inb_not hp.2 e6) e8 rfl rfl hd (k.pure hL hH hlo)
      have ht : t = 104 ∨ t = 105 ∨ t = 106 ∨ t = 107 ∨ t = 108 ∨ t = 109 ∨ t = 110 ∨ t = 111 := by omega
      rcases ht with rfl | rfl | rfl | rfl | rfl | rfl | rfl | rfl <;> exact key _ rfl rfl (fun _ _ _ => rfl)
    · cases hs
  · cases hok
theorem sw_arraylength : SW .arraylength := by
  intro B0 g dC dI dA H0 p l e R s m args below meth c Q y bytes ret len aux pc L st h pc' L' st' h' ls H locs cells slots G X hd hok hs hL hH hlo hc hsl hfr hll k
  obtain ⟨hx, hb, hml, hown, hts, hK, hini⟩ := X
  simp only [okI, Bool.and_eq_true] at hok
  obtain ⟨hok1, hok⟩ := hok
  obtain rfl := bq hok1
  split at hok
  · rename_i t
    unfold arrTag at hok
    rw [Bool.and_eq_true] at hok
    have o1 := bnd hok.1
    have o2 := bnd hok.2
    simp only [step1] at hs
    split at hs
    · rename_i t' r a st1 hax
      cases hax
      obtain ⟨hp, hs⟩ := gd_inj hs
      obtain ⟨rfl, rfl, rfl, rfl⟩ := go_inj hs
      obtain ⟨ty, hty⟩ := aty_get (k := t - 101) (by omega)
      obtain ⟨-, x, cell, e1, e2, e3, e4, -, -, -, e6, e7, -⟩ := arr_cell hH hK hp o1 o2 hty
      rw [List.map_cons, show enc g (.ref a) = g a from rfl, e1]
      exact W.alen hx hb e2 e3 e6.2.1 rfl rfl hd (k.pure hL hH hlo)
    · cases hs
  · cases hok
theorem sw_checkcast (idx : Nat) : SW (.checkcast idx) := by
  intro B0 g dC dI dA H0 p l e R s m args below meth c Q y bytes ret len aux pc L st h pc' L' st' h' ls H locs cells slots G X hd hok hs hL hH hlo hc hsl hfr hll k
  obtain ⟨hx, hb, hml, hown, hts, hK, hini⟩ := X
  simp only [okI, Bool.and_eq_true] at hok
  obtain ⟨hok1, hok⟩ := hok
  obtain rfl := bq hok1
  split at hok
  · rename_i r
    simp only [step1] at hs
    split at hs
    · rename_i t' r' a st1 hax
      cases hax
      obtain ⟨hp, hs⟩ := gd_inj hs
      obtain ⟨rfl, rfl, rfl, rfl⟩ := go_inj hs
      obtain ⟨-, x, cell, e1, e2, e3, e4, e5, e6, -⟩ := arr_cell hH hK hp (Nat.le_of_ble_eq_true rfl) (Nat.le_of_ble_eq_true rfl) (ty := .byte) rfl
      obtain ⟨kA, comp, a1, a2, a3, -⟩ := hK.2.1 1 .byte rfl
      have h1 := k.pure hL hH hlo
      rw [List.map_cons, show enc g (.ref a) = g a from rfl, e1] at h1 ⊢
      exact va_castE hx hb hown (hts _ (hasW_mem hok)) ⟨cell, e2, e5, by rw [e6]; exact a3 (by decide)⟩ hd h1
    · cases hs
  · cases hok
theorem kst_sta {k v r j n : Nat} : kst [k, v, r, j, n] = kst [k, v] := by
  match k with
  | 0 => rfl
  | 1 => rfl
  | k + 2 => rfl
theorem sk_mem {j : Nat} {q : Nat × String × Nat × String} (h : SKs[j]? = some q) : q ∈ SKs := List.mem_of_getElem? h
theorem sw_ldc (idx : Nat) : SW (.ldc idx) := by
  intro B0 g dC dI dA H0 p l e R s m args below meth c Q y bytes ret len aux pc L st h pc' L' st' h' ls H locs cells slots G X hd hok hs hL hH hlo hc hsl hfr hll k
  obtain ⟨hx, hb, hml, hown, hts, hK, hini⟩ := X
  simp only [okI, Bool.and_eq_true] at hok
  obtain ⟨hok1, hok⟩ := hok
  obtain rfl := bq hok1
  simp only [step1] at hs
  unfold okKst at hok
  split at hok
  · simp only [psh, kst] at hs
    obtain ⟨rfl, rfl, rfl, rfl⟩ := go_inj hs
    exact lv_ldc hx hb hown (hts _ (hasW_mem hok)) hd (k.pure hL hH hlo)
  · rename_i a r j
    split at hok
    · rename_i q hq
      simp only [Bool.and_eq_true] at hok
      obtain ⟨⟨o1, o2⟩, o3⟩ := hok
      simp only [psh, kst] at hs
      obtain ⟨rfl, rfl, rfl, rfl⟩ := go_inj hs
      obtain ⟨x, e1, e2⟩ := hK.2.2.1 q (sk_mem hq)
      have h1 := k.pure hL hH hlo
      rw [bq o1] at e1
      rw [of_decide_eq_true o2, bq o3] at e2
      rw [List.map_cons, show enc g (.ref a) = g a from rfl, e1] at h1
      exact va_ldcS hx hb hown e2 hd h1
    · cases hok
  · cases hok
theorem va_ldcSw {p : Program} {l : Launch} {e : Env} {R : Room} {s : State} {m : MethodId} {args : Array Value} {below : List Frame} {meth : Method} {c : Code} {H : Heap} {locs : List Loc} {cells slots : Nat} {Q : State → Prop} {cc : ByteArray} {pc : Nat} {ls : Array Slot} {rest : List Value} (hexec : p.tables.exec = Jvm.exec) (hb : c.code = cc) {own tx : String} {index q : Nat} (hown : s.vm.findClass own = some m.cls) (hZ : vk_R own index tx q s) (hdg : decode cc pc = .ok (.ldc_w index, 3))
    (k : W p l e R s m args below meth c H locs cells slots Q (F0 m (pc + 3) ls (.ref q :: rest))) : W p l e R s m args below meth c H locs cells slots Q (F0 m pc ls rest) := by
  intro T hT X
  obtain ⟨t, a1, b1⟩ := k T hT X
  refine ⟨t, ?_, b1⟩
  obtain ⟨kk, cf, i, a', hk, hcf, hcp, -, hr, hev'⟩ := Cond.stringRef_spec hown (show (Jvm.Cond.stringRef own index tx).before args s = true from hZ.1)
  cases hZ.2.symm.trans hev'
  obtain ⟨k', hk', he⟩ := X.warmed.alike.2.2 _ _ hk
  have hr' : k'.resolved[index]? = some (some (.string q)) := by
    rcases X.warmed.entry hk hk' index with h | ⟨h, -⟩
    · rw [h]; exact hr
    · rw [hr] at h; cases h
  have hcf' : k'.cf = some cf := by rw [he]; exact hcf
  subst hb
  jvm_step X.here [hexec, hdg, ldc_w.wp_string (e := e) (s := T) (f := F0 m pc ls rest) X.here.top hk' hcf' hcp hr']
  exact a1
theorem sw_ldc_w (idx : Nat) : SW (.ldc_w idx) := by
  intro B0 g dC dI dA H0 p l e R s m args below meth c Q y bytes ret len aux pc L st h pc' L' st' h' ls H locs cells slots G X hd hok hs hL hH hlo hc hsl hfr hll k
  obtain ⟨hx, hb, hml, hown, hts, hK, hini⟩ := X
  simp only [okI, Bool.and_eq_true] at hok
  obtain ⟨hok1, hok⟩ := hok
  obtain rfl := bq hok1
  simp only [step1] at hs
  unfold okKst at hok
  split at hok
  · simp only [psh, kst] at hs
    obtain ⟨rfl, rfl, rfl, rfl⟩ := go_inj hs
    exact lv_ldcw hx hb hown (hts _ (hasW_mem hok)) hd (k.pure hL hH hlo)
  · rename_i a r j
    split at hok
    · rename_i q hq
      simp only [Bool.and_eq_true] at hok
      obtain ⟨⟨o1, o2⟩, o3⟩ := hok
      simp only [psh, kst] at hs
      obtain ⟨rfl, rfl, rfl, rfl⟩ := go_inj hs
      obtain ⟨x, e1, e2⟩ := hK.2.2.1 q (sk_mem hq)
      have h1 := k.pure hL hH hlo
      rw [bq o1] at e1
      rw [of_decide_eq_true o2, bq o3] at e2
      rw [List.map_cons, show enc g (.ref a) = g a from rfl, e1] at h1
      exact va_ldcSw hx hb hown e2 hd h1
    · cases hok
  · cases hok
theorem sw_getstatic (idx : Nat) : SW (.getstatic idx) := by
  intro B0 g dC dI dA H0 p l e R s m args below meth c Q y bytes ret len aux pc L st h pc' L' st' h' ls H locs cells slots G X hd hok hs hL hH hlo hc hsl hfr hll k
  obtain ⟨hx, hb, hml, hown, hts, hK, hini⟩ := X
  simp only [okI, Bool.and_eq_true] at hok
  obtain ⟨hok1, hok⟩ := hok
  obtain rfl := bq hok1
  simp only [step1] at hs
  unfold okSta at hok
  split at hok
  · rename_i kd v r j nst
    split at hok
    · rename_i q hq
      simp only [Bool.and_eq_true] at hok
      obtain ⟨⟨⟨o1, o2⟩, o3⟩, o4⟩ := hok
      obtain ⟨w, e1, cf, kf, fi, f, ad, cell, h1, h2, h3, h4, h5, h6, h7, h8⟩ := hK.2.2.2.1 q (List.mem_of_getElem? hq)
      rw [bq o1, bq o2] at e1
      rw [kst_sta, e1] at hs
      simp only [psh] at hs
      obtain ⟨rfl, rfl, rfl, rfl⟩ := go_inj hs
      have hcell : H[ad]? = some cell := by rw [hH.2.2.1 ad (by omega)]; exact h5
      have hkn : cell.vm ≠ .unknown := fun e => by rw [e] at h6; cases h6
      by_cases hn : nst = 0
      · rw [if_pos hn] at o4
        exact W.gets hx hb hown (hts _ (hasW_mem o4)) h1 h2 h3 h4 hcell hkn h7 rfl hd (k.pure hL hH hlo)
      · rw [if_neg hn] at o4
        obtain ⟨z, z1, z2⟩ := List.any_eq_true.mp o4
        unfold isFN at z2
        split at z2
        · rename_i ow ii cc nn dd host
          simp only [Bool.and_eq_true] at z2
          obtain ⟨⟨⟨⟨y1, y2⟩, y3⟩, y4⟩, y5⟩ := z2
          have y1 := of_decide_eq_true y1
          have y2 := bq y2
          have y3 := of_decide_eq_true y3
          have y4 := of_decide_eq_true y4
          have y5 := of_decide_eq_true y5
          subst y1 y2 y3 y4 y5
          have hNw := hK.2.2.2.2.1 _ z1
          have hA : ∀ z, H0.size ≤ z → True := fun _ _ => trivial
          exact va_WgetsN hx hb hown (va_Nw.use rfl hNw) h1 h2 h3 h4 hcell hkn h7 rfl hd (k.pure hL hH hlo)
        · cases z2
    · cases hok
  · cases hok

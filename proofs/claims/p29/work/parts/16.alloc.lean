/-! 16 SOUNDNESS of array stores of references, and of new cells -/
theorem elem_obj {B0 : Nat} {g : Nat → Value} {dC : Nat → ClassId} {dI : Nat → Nat → Nat} {dA : Nat → ClassId} {H0 : Heap} {s : State} (hK : KF B0 g dC dI dA H0 s) {h : AH} {a x u kq : Nat} {cell : Cell} {q : vw_C} {kA : Class} {comp : ClassId} {C : String} (hkq : ATy[kq]? = some (.object C)) (hk10 : kq < 10) (hu : hT h x = u) (h1 : 1 ≤ u) (h2 : u ≤ 15) (hq : CT[u - 1]? = some q) (hC : q.1 = C) (hr : cellR g dC dI dA h x cell) :
    ∃ (kA : Class) (comp : ClassId) (kc kv : Class), s.vm.classes[dA kq]? = some kA ∧ kA.kind = .array comp (.object C) ∧ s.vm.classes[comp]? = some kc ∧ s.vm.classes[cell.cls]? = some kv ∧ s.vm.assignable cell.cls comp = true := by
  obtain ⟨kA, comp, a1, a2, -, a4, -⟩ := hK.2.1 _ _ hkq
  obtain ⟨hS, hfc, kC, hkC, -⟩ := hK.1 _ _ hq
  rw [hC, a4 C hk10 rfl] at hfc
  have hcc : comp = dC (u - 1) := Option.some.inj hfc
  rcases hr with ⟨-, -, f1, -⟩ | ⟨f1, -⟩
  · rw [hu] at f1
    exact ⟨kA, comp, kC, kC, a1, a2, by rw [hcc]; exact hkC, by rw [f1]; exact hkC, by rw [f1, hcc]; exact va_asg _ _⟩
  · omega
theorem elem_arr {B0 : Nat} {g : Nat → Value} {dC : Nat → ClassId} {dI : Nat → Nat → Nat} {dA : Nat → ClassId} {H0 : Heap} {s : State} (hK : KF B0 g dC dI dA H0 s) {h : AH} {x u kq : Nat} {cell : Cell} {t : FieldType} (hkq : ATy[kq]? = some (.array t)) (hu : hT h x = u) (h1 : 101 ≤ u) (hq : ATy[u - 101]? = some t) (hu10 : u - 101 < 10) (hr : cellR g dC dI dA h x cell) :
    ∃ (kA : Class) (comp : ClassId) (kc kv : Class), s.vm.classes[dA kq]? = some kA ∧ kA.kind = .array comp (.array t) ∧ s.vm.classes[comp]? = some kc ∧ s.vm.classes[cell.cls]? = some kv ∧ s.vm.assignable cell.cls comp = true := by
  obtain ⟨kA, comp, a1, a2, -, -, a5⟩ := hK.2.1 _ _ hkq
  obtain ⟨kB, comp2, b1, b2, b3, -⟩ := hK.2.1 _ _ hq
  have hfc : some comp = some (dA (u - 101)) := (a5 t rfl).symm.trans (b3 hu10)
  have hcc : comp = dA (u - 101) := Option.some.inj hfc
  rcases hr with ⟨-, f1, -⟩ | ⟨-, -, f1, -⟩
  · omega
  · rw [hu] at f1
    exact ⟨kA, comp, kB, kB, a1, a2, by rw [hcc]; exact b1, by rw [f1]; exact b1, by rw [f1, hcc]; exact va_asg _ _⟩
theorem sw_aastore : SW .aastore := by
  intro B0 g dC dI dA H0 p l e R s m args below meth c Q y bytes ret len aux pc L st h pc' L' st' h' ls H locs cells slots G X hd hok hs hL hH hlo hc hsl hfr hll k
  obtain ⟨hx, hb, hml, hown, hts, hK, hini⟩ := X
  simp only [okI, Bool.and_eq_true] at hok
  obtain ⟨hok1, hok⟩ := hok
  obtain rfl := bq hok1
  simp only [step1] at hs
  split at hs
  · rename_i t u r x j a st1
    obtain ⟨hp, hs⟩ := gd_inj hs
    obtain ⟨rfl, rfl, rfl, rfl⟩ := go_inj hs
    have key : ∀ ty, 101 ≤ t → t ≤ 112 → onlyConst t = false → 1 ≤ u → ATy[t - 101]? = some ty → ty.isReference = true → (∀ h a j, avv h ty a j = .ref (hR h a j)) → (¬ t = 102) → (∀ cell, cellR g dC dI dA h x cell → ∃ (kA : Class) (comp : ClassId) (kc kv : Class), s.vm.classes[dA (t - 101)]? = some kA ∧ kA.kind = .array comp ty ∧ s.vm.classes[comp]? = some kc ∧ s.vm.classes[cell.cls]? = some kv ∧ s.vm.assignable cell.cls comp = true) → W p l e R s m args below meth c H locs cells slots Q (F0 m pc ls (List.map (enc g) (Value.ref x :: Value.int j :: Value.ref a :: st1))) := by
      intro ty b1 b2 b3 b4 hty href hav hn2 hel
      obtain ⟨-, xx, cell, e1, e2, e3, e4, e5, e6, e7, e8, e9, e10⟩ := arr_cell hH hK hp.1 b1 b2 hty
      obtain ⟨-, -, xv, cv, v1, v2, v3, v4, v5, v6, v7⟩ := hH.cell hp.2.2 b4
      obtain ⟨kA, comp, kc, kv, q1, q2, q3, q4, q5⟩ := hel cv v7
      rw [List.map_cons, List.map_cons, List.map_cons, show enc g (.ref a) = g a from rfl, show enc g (.ref x) = g x from rfl, e1, v1]
      refine W.aast hx hb e2 (fun z hz => by rw [hz] at e5; exact nomatch e5) e4 (by rw [e6]; exact q1) q2 href q3 ⟨hp.2.1.1, Nat.lt_of_lt_of_le hp.2.1.2 e8.1⟩ v2 (fun z hz => by rw [hz] at v3; exact nomatch v3) q4 q5 rfl rfl hd (fun H' z1 z2 z3 => ?_)
      exact store_core (h1 := wR h a (ix j) x) G hK hL hH hlo hp.1 (not_const hH hp.1 (by omega) b3) b1 b2 hty hp.2.1.2 rfl rfl rfl rfl (fun b hb2 cell hr => cellR_wR hb2 cell hr) (by rw [hav]; show enc g (.ref (up2 (hR h) a (ix j) x a (ix j))) = _; rw [up2_eq]; exact v1) (fun i hi => by rw [hav, hav]; show Value.ref (up2 (hR h) a (ix j) x a i) = _; rw [up2_nk hi]) (fun q => absurd q hn2) e1 e2 z1 z2 z3 k
    simp only [Bool.or_eq_true] at hok
    rcases hok with (((((h9 | h9) | h9) | h9) | h9) | h9) | h9 <;> have h9 := eq_of_beq h9 <;> cases h9
    · exact key _ (Nat.le_of_ble_eq_true rfl) (Nat.le_of_ble_eq_true rfl) rfl (Nat.le_of_ble_eq_true rfl) rfl rfl (fun _ _ _ => rfl) (by decide) (fun cell hr => elem_obj hK (kq := 3) (a := 0) (kA := default) (comp := 0) rfl (by decide) hp.2.2 (Nat.le_of_ble_eq_true rfl) (Nat.le_of_ble_eq_true rfl) rfl rfl hr)
    · exact key _ (Nat.le_of_ble_eq_true rfl) (Nat.le_of_ble_eq_true rfl) rfl (Nat.le_of_ble_eq_true rfl) rfl rfl (fun _ _ _ => rfl) (by decide) (fun cell hr => elem_obj hK (kq := 4) (a := 0) (kA := default) (comp := 0) rfl (by decide) hp.2.2 (Nat.le_of_ble_eq_true rfl) (Nat.le_of_ble_eq_true rfl) rfl rfl hr)
    · exact key _ (Nat.le_of_ble_eq_true rfl) (Nat.le_of_ble_eq_true rfl) rfl (Nat.le_of_ble_eq_true rfl) rfl rfl (fun _ _ _ => rfl) (by decide) (fun cell hr => elem_obj hK (kq := 5) (a := 0) (kA := default) (comp := 0) rfl (by decide) hp.2.2 (Nat.le_of_ble_eq_true rfl) (Nat.le_of_ble_eq_true rfl) rfl rfl hr)
    · exact key _ (Nat.le_of_ble_eq_true rfl) (Nat.le_of_ble_eq_true rfl) rfl (Nat.le_of_ble_eq_true rfl) rfl rfl (fun _ _ _ => rfl) (by decide) (fun cell hr => elem_obj hK (kq := 6) (a := 0) (kA := default) (comp := 0) rfl (by decide) hp.2.2 (Nat.le_of_ble_eq_true rfl) (Nat.le_of_ble_eq_true rfl) rfl rfl hr)
    · exact key _ (Nat.le_of_ble_eq_true rfl) (Nat.le_of_ble_eq_true rfl) rfl (Nat.le_of_ble_eq_true rfl) rfl rfl (fun _ _ _ => rfl) (by decide) (fun cell hr => elem_obj hK (kq := 7) (a := 0) (kA := default) (comp := 0) rfl (by decide) hp.2.2 (Nat.le_of_ble_eq_true rfl) (Nat.le_of_ble_eq_true rfl) rfl rfl hr)
    · exact key _ (Nat.le_of_ble_eq_true rfl) (Nat.le_of_ble_eq_true rfl) rfl (Nat.le_of_ble_eq_true rfl) rfl rfl (fun _ _ _ => rfl) (by decide) (fun cell hr => elem_arr hK (kq := 8) rfl hp.2.2 (Nat.le_of_ble_eq_true rfl) rfl (by decide) hr)
    · exact key _ (Nat.le_of_ble_eq_true rfl) (Nat.le_of_ble_eq_true rfl) rfl (Nat.le_of_ble_eq_true rfl) rfl rfl (fun _ _ _ => rfl) (by decide) (fun cell hr => elem_arr hK (kq := 9) rfl hp.2.2 (Nat.le_of_ble_eq_true rfl) rfl (by decide) hr)
  · cases hs
theorem up1_ne {α : Type} {f : Nat → α} {a b : Nat} {v : α} (h : b ≠ a) : up1 f a v b = f b := if_neg h
theorem up1_eq {α : Type} {f : Nat → α} {a : Nat} {v : α} : up1 f a v a = v := if_pos rfl
theorem cellR_hA {g : Nat → Value} {dC : Nat → ClassId} {dI : Nat → Nat → Nat} {dA : Nat → ClassId} {h : AH} {t n b : Nat} (hb : b ≠ hN h) (cell : Cell) (hr : cellR g dC dI dA h b cell) : cellR g dC dI dA (hA h t n) b cell :=
  cellR_row (h := h) (h1 := hA h t n) (up1_ne hb) (up1_ne hb) (fun j => congrFun (up1_ne hb) j) (fun j => congrFun (up1_ne hb) j) (fun j => congrFun (up1_ne hb) j) hr
def dV (kd : Nat) : Value := match kd with
  | 1 => .ref 0
  | 2 => .long 0
  | _ => .int 0
theorem fv_hA {h : AH} {t n kd j : Nat} : fv (hA h t n) kd (hN h) j = dV kd := by
  unfold fv dV
  split
  · show Value.ref (up1 (hR h) (hN h) (fun _ => 0) (hN h) j) = .ref 0; rw [up1_eq]
  · show Value.long (up1 (hJ h) (hN h) (fun _ => 0) (hN h) j) = .long 0; rw [up1_eq]
  · rename_i h1 h2
    show Value.int (up1 (hI h) (hN h) (fun _ => 0) (hN h) j) = _
    rw [up1_eq]
    split
    · exact absurd rfl h1
    · exact absurd rfl h2
    · rfl
theorem dflt_enc {B0 : Nat} {g : Nat → Value} (G : gok B0 g) {kd : Nat} {ty : FieldType} (h : tyOK kd ty = true) : enc g (dV kd) = defaultValue ty := by
  unfold dV
  unfold tyOK at h
  split at h <;> first | rfl | exact G.1 | cases h
theorem sw_new (idx : Nat) : SW (.new idx) := by
  intro B0 g dC dI dA H0 p l e R s m args below meth c Q y bytes ret len aux pc L st h pc' L' st' h' ls H locs cells slots G X hd hok hs hL hH hlo hc hsl hfr hll k
  obtain ⟨hx, hb, hml, hown, hts, hK, hini⟩ := X
  simp only [okI, Bool.and_eq_true] at hok
  obtain ⟨hok1, hok⟩ := hok
  obtain rfl := bq hok1
  split at hok
  · rename_i t n r1 r2 r3
    simp only [Bool.and_eq_true] at hok
    obtain ⟨⟨o1, o2⟩, o3⟩ := hok
    have t1 := bnd o1
    have t2 := bnd o2
    split at o3
    · rename_i q hq
      simp only [Bool.and_eq_true] at o3
      obtain ⟨⟨w1, w2⟩, w3⟩ := o3
      simp only [step1] at hs
      obtain ⟨rfl, rfl, rfl, rfl⟩ := go_inj hs
      have hKn := hK.1 _ _ hq
      have hc1 : cells + 1 ≤ R.cells := by
        have : hN (hA h t n) - hN h = 1 := by show hN h + 1 - hN h = 1; omega
        omega
      have hs1 : slots + n ≤ R.slots := by
        have : hU (hA h t n) - hU h = n := by show hU h + n - hU h = n; omega
        omega
      refine W.newcK hx hb hown (hts _ (hasW_mem w1)) (hts _ (hasW_mem w2)) (hts _ (hasW_mem w3)) rfl hd hc1 hs1 hKn.2.1 rfl fun H1 kC hkC z1 z2 z3 => ?_
      have hlay : ∀ w ∈ u_ws q.1 q.2.1 q.2.2, w ∈ TWg := lay_in _ _ hq
      obtain ⟨cell', y1, y2, y3, y4⟩ := u_born (fTy q) hts hlay hKn hkC z1 (fun k hk => (ct_ty _ _ hq k hk).1)
      cases z1.symm.trans y1
      have hT1 : hT (hA h t n) (hN h) = t := up1_eq
      obtain ⟨hHR, hg⟩ := HR.alloc (h' := hA h t n) G hH rfl (fun b hb => up1_ne hb) (by rw [hT1]; exact t1) (fun b hb cell hr => cellR_hA hb cell hr) z1 z2 z3 y3 (Or.inl ⟨by rw [hT1]; exact t1, by rw [hT1]; exact t2, by rw [hT1]; exact y2, fun q' hq' j hj => by
        rw [hT1] at hq' ⊢
        cases hq.symm.trans hq'
        rw [y4 j hj, fv_hA, dflt_enc G (ct_ty _ _ hq j hj).2]⟩)
      have h8 := k ls H1 locs hL hHR hlo
      rw [show hN (hA h t n) - hN h = 1 from by show hN h + 1 - hN h = 1; omega, show hU (hA h t n) - hU h = n from by show hU h + n - hU h = n; omega, List.map_cons, show enc g (.ref (hN h)) = g (hN h) from rfl, hg] at h8
      exact h8
    · cases o3
  · cases hok
theorem arr_born {B0 : Nat} {g : Nat → Value} {dC : Nat → ClassId} {dI : Nat → Nat → Nat} {dA : Nat → ClassId} {H0 : Heap} {p : Program} {l : Launch} {e : Env} {R : Room} {s : State} {m : MethodId} {args : Array Value} {below : List Frame} {meth : Method} {c : Code} {Q : State → Prop} {t pc n : Nat} {L st1 : List Value} {h : AH} {ls : Array Slot} {H H1 : Heap} {locs : List Loc} {cells slots : Nat} {cell : Cell} {ty : FieldType}
    (G : gok B0 g) (hLr : LR g ls L) (hH : HR B0 g dC dI dA H0 h H) (hlo : ∀ q ∈ locs, B0 ≤ q.base) (b1 : 101 ≤ t) (b2 : t ≤ 112) (hty : ATy[t - 101]? = some ty) (hcl : cell.cls = dA (t - 101)) (hsz : cell.slots.size = n) (hsl : ∀ j, j < n → cell.slots[j]? = some (defaultValue ty)) (hdv : ∀ j, enc g (avv (hA h t n) ty (hN h) j) = defaultValue ty) (hvm : cell.vm = .none)
    (z1 : H1[H.size]? = some cell) (z2 : H1.size = H.size + 1) (z3 : ∀ q, q < H.size → H1[q]? = H[q]?)
    (k : Kt B0 g dC dI dA H0 p l e R s m args below meth c Q pc L (.ref (hN h) :: st1) h (hA h t n) cells slots) : W p l e R s m args below meth c H1 locs (cells + 1) (slots + n) Q (F0 m pc ls (.ref H.size :: st1.map (enc g))) := by
  have hT1 : hT (hA h t n) (hN h) = t := up1_eq
  have hL1 : hL (hA h t n) (hN h) = n := up1_eq
  obtain ⟨hHR, hg⟩ := HR.alloc (h' := hA h t n) G hH rfl (fun b hb => up1_ne hb) (by rw [hT1]; omega) (fun b hb cell hr => cellR_hA hb cell hr) z1 z2 z3 hvm (Or.inr ⟨by rw [hT1]; exact b1, by rw [hT1]; exact b2, by rw [hT1]; exact hcl, szR.of (by rw [hL1]; exact hsz), fun ty' hty' j hj => by
      rw [hT1] at hty'
      rw [hL1] at hj
      cases hty.symm.trans hty'
      rw [hsl j hj, hdv], fun _ j => by
      have : hI (hA h t n) (hN h) j = 0 := congrFun (up1_eq (f := hI h) (a := hN h)) j
      rw [this]; rfl⟩)
  have h8 := k ls H1 locs hLr hHR hlo
  rw [show hN (hA h t n) - hN h = 1 from by show hN h + 1 - hN h = 1; omega, show hU (hA h t n) - hU h = n from by show hU h + n - hU h = n; omega, List.map_cons, show enc g (.ref (hN h)) = g (hN h) from rfl, hg] at h8
  exact h8
theorem room_hA {h : AH} {t n cells slots : Nat} {R : Room} (hc : cells + (hN (hA h t n) - hN h) ≤ R.cells) (hs : slots + (hU (hA h t n) - hU h) ≤ R.slots) : cells + 1 ≤ R.cells ∧ slots + n ≤ R.slots := by
  have h1 : hN (hA h t n) - hN h = 1 := by show hN h + 1 - hN h = 1; omega
  have h2 : hU (hA h t n) - hU h = n := by show hU h + n - hU h = n; omega
  rw [h1] at hc
  rw [h2] at hs
  exact ⟨hc, hs⟩
theorem avv_hAI {g : Nat → Value} {h : AH} {t n j : Nat} {ty : FieldType} (hav : ∀ h a j, avv h ty a j = .int (hI h a j)) : avv (hA h t n) ty (hN h) j = .int 0 := by
  rw [hav]; show Value.int (up1 (hI h) (hN h) (fun _ => 0) (hN h) j) = _; rw [up1_eq]
theorem avv_hAJ {h : AH} {t n j : Nat} : avv (hA h t n) .long (hN h) j = .long 0 := by
  show Value.long (up1 (hJ h) (hN h) (fun _ => 0) (hN h) j) = _; rw [up1_eq]
theorem avv_hAR {h : AH} {t n j : Nat} {ty : FieldType} (hav : ∀ h a j, avv h ty a j = .ref (hR h a j)) : avv (hA h t n) ty (hN h) j = .ref 0 := by
  rw [hav]; show Value.ref (up1 (hR h) (hN h) (fun _ => 0) (hN h) j) = _; rw [up1_eq]
theorem repl_get {n j : Nat} {v : Value} (h : j < n) : (Array.replicate n v)[j]? = some v := by simp [h]
theorem sw_newarray (at' : ArrayType) : SW (.newarray at') := by
  intro B0 g dC dI dA H0 p l e R s m args below meth c Q y bytes ret len aux pc L st h pc' L' st' h' ls H locs cells slots G X hd hok hs hL hH hlo hc hsl hfr hll k
  obtain ⟨hx, hb, hml, hown, hts, hK, hini⟩ := X
  simp only [okI, Bool.and_eq_true] at hok
  obtain ⟨hok1, hok⟩ := hok
  obtain rfl := bq hok1
  split at hok
  · rename_i t r
    simp only [Bool.and_eq_true] at hok
    obtain ⟨⟨o1, o2⟩, o3⟩ := hok
    have hty := of_decide_eq_true o2
    simp only [step1] at hs
    split at hs
    · rename_i t' r' n st1 hax
      cases hax
      obtain ⟨hp, hs⟩ := gd_inj hs
      obtain ⟨rfl, rfl, rfl, rfl⟩ := go_inj hs
      obtain ⟨hc1, hs1⟩ := room_hA hc hsl
      simp only [Bool.or_eq_true] at o1
      have ht : t = 101 ∨ t = 102 ∨ t = 103 := by
        rcases o1 with (z | z) | z
        · exact Or.inl (bq z)
        · exact Or.inr (Or.inl (bq z))
        · exact Or.inr (Or.inr (bq z))
      have hby : (ix n) * componentBytes (newarray.typeOf at') ≤ 536870912 := by
        have : componentBytes (newarray.typeOf at') ≤ 8 := by cases at' <;> exact Nat.le_of_ble_eq_true rfl
        have h9 := hp.2
        calc (ix n) * componentBytes (newarray.typeOf at') ≤ 65536 * 8 := Nat.mul_le_mul h9 this
          _ ≤ 536870912 := Nat.le_of_ble_eq_true rfl
      refine W.newa hx hb (hts _ (hasW_mem o3)) rfl hd rfl hp.1 hby hc1 hs1 (fun cA kA comp q1 q2 q3 => ?_)
      obtain ⟨kB, comp2, b1, b2, b3, -⟩ := hK.2.1 _ _ hty
      have hcA : cA = dA (t - 101) := Option.some.inj (q1.symm.trans (b3 (by omega)))
      refine arr_born (cell := { cls := cA, slots := Array.replicate (ix n) (defaultValue (newarray.typeOf at')), vm := .none }) G hL hH hlo (by omega) (by omega) hty hcA Array.size_replicate (fun j hj => repl_get hj) (fun j => ?_) rfl Array.getElem?_push_size (Array.size_push _) (fun q hq => by rw [Array.getElem?_push, if_neg (Nat.ne_of_lt hq)]) k
      rcases ht with rfl | rfl | rfl
      · have : newarray.typeOf at' = .int := (Option.some.inj hty).symm
        rw [this, avv_hAI (g := g) (fun _ _ _ => rfl)]; rfl
      · have : newarray.typeOf at' = .byte := (Option.some.inj hty).symm
        rw [this, avv_hAI (g := g) (fun _ _ _ => rfl)]; rfl
      · have : newarray.typeOf at' = .long := (Option.some.inj hty).symm
        rw [this, avv_hAJ]; rfl
    · cases hs
  · cases hok
theorem sw_anewarray (idx : Nat) : SW (.anewarray idx) := by
  intro B0 g dC dI dA H0 p l e R s m args below meth c Q y bytes ret len aux pc L st h pc' L' st' h' ls H locs cells slots G X hd hok hs hL hH hlo hc hsl hfr hll k
  obtain ⟨hx, hb, hml, hown, hts, hK, hini⟩ := X
  simp only [okI, Bool.and_eq_true] at hok
  obtain ⟨hok1, hok⟩ := hok
  obtain rfl := bq hok1
  unfold okNewA at hok
  split at hok
  · rename_i t r1 r2
    rw [Bool.and_eq_true] at hok
    obtain ⟨o1, o2⟩ := hok
    unfold arrTag at o1
    rw [Bool.and_eq_true] at o1
    have b1 := bnd o1.1
    have b2 := bnd o1.2
    simp only [step1] at hs
    split at hs
    · rename_i t' r' n st1 hax
      cases hax
      obtain ⟨hp, hs⟩ := gd_inj hs
      obtain ⟨rfl, rfl, rfl, rfl⟩ := go_inj hs
      obtain ⟨hc1, hs1⟩ := room_hA hc hsl
      have hby : (ix n) * 4 ≤ 536870912 := by have := hp.2; omega
      split at o2
      · rename_i C hty
        rw [Bool.and_eq_true] at o2
        have t10 : t - 101 < 10 := by
          rcases (show t - 101 < 10 ∨ t = 111 ∨ t = 112 by omega) with h9 | h9 | h9
          · exact h9
          · rw [h9] at hty
            have h10 : FieldType.object "java/lang/String" = .object C := Option.some.inj (show some (FieldType.object "java/lang/String") = some (.object C) from hty)
            rw [← h10] at o2
            exact absurd o2.2 (by decide)
          · rw [h9] at hty
            exact absurd (show some FieldType.int = some (.object C) from hty) (fun z => by cases z)
        have hao := hK.2.2.2.2.2 _ (List.contains_iff_mem.mp o2.2)
        refine W.anew hx hb hown (hts _ (hasW_mem o2.1)) hao rfl hd rfl hp.1 hby hc1 hs1 (fun cA kA comp q1 q2 q3 q4 => ?_)
        obtain ⟨kB, comp2, y1, y2, y3, -⟩ := hK.2.1 _ _ hty
        have hcA : cA = dA (t - 101) := Option.some.inj (q1.symm.trans (y3 t10))
        exact arr_born (cell := { cls := cA, slots := Array.replicate (ix n) .null, vm := .none }) G hL hH hlo b1 b2 hty hcA Array.size_replicate (fun j hj => repl_get hj) (fun j => by rw [avv_hAR (fun _ _ _ => rfl)]; exact G.1) rfl Array.getElem?_push_size (Array.size_push _) (fun q hq => by rw [Array.getElem?_push, if_neg (Nat.ne_of_lt hq)]) k
      · rename_i ty hty
        rw [Bool.and_eq_true] at o2
        have t10 : t - 101 < 10 := by
          rcases (show t - 101 < 10 ∨ t = 111 ∨ t = 112 by omega) with h9 | h9 | h9
          · exact h9
          · rw [h9] at hty
            exact absurd (show some (FieldType.object "java/lang/String") = some (.array ty) from hty) (fun z => by cases z)
          · rw [h9] at hty
            exact absurd (show some FieldType.int = some (.array ty) from hty) (fun z => by cases z)
        have hao := hK.2.2.2.2.2 _ (List.contains_iff_mem.mp o2.2)
        refine W.anewA hx hb hown (hts _ (hasW_mem o2.1)) hao rfl hd rfl hp.1 hby hc1 hs1 (fun cA kA comp q1 q2 q3 q4 => ?_)
        obtain ⟨kB, comp2, y1, y2, y3, -⟩ := hK.2.1 _ _ hty
        have hcA : cA = dA (t - 101) := Option.some.inj (q1.symm.trans (y3 t10))
        exact arr_born (cell := { cls := cA, slots := Array.replicate (ix n) .null, vm := .none }) G hL hH hlo b1 b2 hty hcA Array.size_replicate (fun j hj => repl_get hj) (fun j => by rw [avv_hAR (fun _ _ _ => rfl)]; exact G.1) rfl Array.getElem?_push_size (Array.size_push _) (fun q hq => by rw [Array.getElem?_push, if_neg (Nat.ne_of_lt hq)]) k
      · cases o2
    · cases hs
  · cases hok

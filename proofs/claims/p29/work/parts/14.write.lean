/-! 14 SOUNDNESS of the instructions that write a cell -/
theorem cellR_row {g : Nat → Value} {dC : Nat → ClassId} {dI : Nat → Nat → Nat} {dA : Nat → ClassId} {h h1 : AH} {b : Nat} {cell : Cell} (e1 : hT h1 b = hT h b) (e2 : hL h1 b = hL h b) (e3 : ∀ j, hI h1 b j = hI h b j) (e4 : ∀ j, hR h1 b j = hR h b j) (e5 : ∀ j, hJ h1 b j = hJ h b j) (hr : cellR g dC dI dA h b cell) : cellR g dC dI dA h1 b cell := by
  have f1 : ∀ kd j, fv h1 kd b j = fv h kd b j := by
    intro kd j
    unfold fv
    split
    · rw [e4]
    · rw [e5]
    · rw [e3]
  have f2 : ∀ ty j, avv h1 ty b j = avv h ty b j := by
    intro ty j
    unfold avv
    split
    · rw [e5]
    · rw [e4]
    · rw [e4]
    · rw [e3]
  unfold cellR at hr ⊢
  rw [e1, e2]
  rcases hr with ⟨a0, a1, a2, a3⟩ | ⟨a1, a2, a3, a4, a5, a6⟩
  · exact Or.inl ⟨a0, a1, a2, fun q hq k hk => by rw [f1]; exact a3 q hq k hk⟩
  · exact Or.inr ⟨a1, a2, a3, a4, fun ty hty j hj => by rw [f2]; exact a5 ty hty j hj, fun ht j => by rw [e3]; exact a6 ht j⟩
theorem up2_ne {α : Type} {f : Nat → Nat → α} {a k b j : Nat} {v : α} (h : b ≠ a) : up2 f a k v b j = f b j := if_neg (fun q => h q.1)
theorem up2_nk {α : Type} {f : Nat → Nat → α} {a k b j : Nat} {v : α} (h : j ≠ k) : up2 f a k v b j = f b j := if_neg (fun q => h q.2)
theorem up2_eq {α : Type} {f : Nat → Nat → α} {a k : Nat} {v : α} : up2 f a k v a k = v := if_pos ⟨rfl, rfl⟩
theorem cellR_wI {g : Nat → Value} {dC : Nat → ClassId} {dI : Nat → Nat → Nat} {dA : Nat → ClassId} {h : AH} {a k : Nat} {x : Int32} {b : Nat} (hb : b ≠ a) (cell : Cell) (hr : cellR g dC dI dA h b cell) : cellR g dC dI dA (wI h a k x) b cell := cellR_row (h := h) (h1 := wI h a k x) rfl rfl (fun j => up2_ne hb) (fun j => rfl) (fun j => rfl) hr
theorem cellR_wR {g : Nat → Value} {dC : Nat → ClassId} {dI : Nat → Nat → Nat} {dA : Nat → ClassId} {h : AH} {a k : Nat} {x : Nat} {b : Nat} (hb : b ≠ a) (cell : Cell) (hr : cellR g dC dI dA h b cell) : cellR g dC dI dA (wR h a k x) b cell := cellR_row (h := h) (h1 := wR h a k x) rfl rfl (fun j => rfl) (fun j => up2_ne hb) (fun j => rfl) hr
theorem cellR_wJ {g : Nat → Value} {dC : Nat → ClassId} {dI : Nat → Nat → Nat} {dA : Nat → ClassId} {h : AH} {a k : Nat} {x : Int64} {b : Nat} (hb : b ≠ a) (cell : Cell) (hr : cellR g dC dI dA h b cell) : cellR g dC dI dA (wJ h a k x) b cell := cellR_row (h := h) (h1 := wJ h a k x) rfl rfl (fun j => rfl) (fun j => rfl) (fun j => up2_ne hb) hr
-- fields' types
def fTy (q : vw_C) (k : Nat) : FieldType := (parseFieldDescriptor (q.2.1 k).2.2.1).getD .int
def tyOK (kd : Nat) (ty : FieldType) : Bool := match kd, ty with
  | 0, .int => true
  | 3, .boolean => true
  | 4, .byte => true
  | 2, .long => true
  | 1, .object _ => true
  | 1, .array _ => true
  | _, _ => false
theorem ct_ty : ∀ (c : Nat) (q : vw_C), CT[c]? = some q → ∀ k, k < q.2.2 → parseFieldDescriptor (q.2.1 k).2.2.1 = some (fTy q k) ∧ tyOK (kdD (q.2.1 k).2.2.1) (fTy q k) = true := fun c q h k hk => by
  have h1 : CT.all (fun q => (List.range q.2.2).all fun k => decide (parseFieldDescriptor (q.2.1 k).2.2.1 = some (fTy q k)) && tyOK (kdD (q.2.1 k).2.2.1) (fTy q k)) = true := by decide +kernel
  have h2 := List.all_eq_true.mp (List.all_eq_true.mp h1 q (List.mem_of_getElem? h)) k (List.mem_range.mpr hk)
  rw [Bool.and_eq_true] at h2
  exact ⟨of_decide_eq_true h2.1, h2.2⟩
theorem ct_nm : ∀ (c : Nat) (q : vw_C), CT[c]? = some q → ∀ a, a < q.2.2 → ∀ b, b < q.2.2 → a ≠ b → (q.2.1 a).2.1 ≠ (q.2.1 b).2.1 := fun c q h a ha b hb hab => by
  have h1 : CT.all (fun q => (List.range q.2.2).all fun a => (List.range q.2.2).all fun b => a == b || decide ((q.2.1 a).2.1 ≠ (q.2.1 b).2.1)) = true := by decide +kernel
  have h2 := List.all_eq_true.mp (List.all_eq_true.mp (List.all_eq_true.mp h1 q (List.mem_of_getElem? h)) a (List.mem_range.mpr ha)) b (List.mem_range.mpr hb)
  rcases (Bool.or_eq_true _ _).mp h2 with h3 | h3
  · exact absurd (eq_of_beq h3) hab
  · exact of_decide_eq_true h3
theorem byte_fits {x : Int32} (h : x.toInt8.toInt32 = x) : fits .byte (.int x) = true := by
  have h1 : x.toInt = x.toInt8.toInt := by
    have := congrArg Int32.toInt h
    rw [Int8.toInt_toInt32] at this
    exact this.symm
  have h2 := Int8.le_toInt x.toInt8
  have h3 := Int8.toInt_lt x.toInt8
  show (decide (-128 ≤ x) && decide (x ≤ 127)) = true
  rw [Bool.and_eq_true]
  constructor
  · refine decide_eq_true (Int32.le_iff_toInt_le.mpr ?_)
    show (-128 : Int) ≤ x.toInt
    omega
  · refine decide_eq_true (Int32.le_iff_toInt_le.mpr ?_)
    show x.toInt ≤ (127 : Int)
    omega
theorem toByte_idem (x : Int32) : (x.toInt8.toInt32).toInt8.toInt32 = x.toInt8.toInt32 := by rw [Int8.toInt8_toInt32]
-- one cell of a class is written
theorem put_core {B0 : Nat} {g : Nat → Value} {dC : Nat → ClassId} {dI : Nat → Nat → Nat} {dA : Nat → ClassId} {H0 : Heap} {p : Program} {l : Launch} {e : Env} {R : Room} {s : State} {m : MethodId} {args : Array Value} {below : List Frame} {meth : Method} {c : Code} {Q : State → Prop} {y : MethodName} {bytes : ByteArray} {nL idx t f r pc : Nat} {L st1 : List Value} {h h1 : AH} {ls : Array Slot} {H : Heap} {locs : List Loc} {cells slots : Nat} {q : vw_C} {v : Value} {a : Nat}
    (G : gok B0 g) (X : Cx B0 g dC dI dA H0 p s m args meth c y bytes nL) (hd : decode bytes pc = .ok (.putfield idx, 3)) (t1 : 1 ≤ t) (t2 : t ≤ 15) (hq : CT[t - 1]? = some q) (hf : f < q.2.2) (hw : hasW r (.fieldLink y.cls idx (q.2.1 f).1 (q.2.1 f).2.1 (q.2.1 f).2.2.1) = true) (hfin : (q.2.1 f).2.2.2 = true → y.name = "<init>" ∧ (q.2.1 f).1 = y.cls)
    (hL : LR g ls L) (hH : HR B0 g dC dI dA H0 h H) (hlo : ∀ q ∈ locs, B0 ≤ q.base) (ht : hT h a = t) (ha : KK ≤ a) (hn : narrow (fTy q f) (enc g v) = enc g v) (hfit : fits (fTy q f) (enc g v) = true)
    (a1 : hN h1 = hN h) (a2 : hU h1 = hU h) (a3 : hT h1 = hT h) (a4 : ∀ b, b ≠ a → ∀ cell, cellR g dC dI dA h b cell → cellR g dC dI dA h1 b cell) (a5 : fv h1 (kdD (q.2.1 f).2.2.1) a f = v) (a6 : ∀ kd j, j ≠ f → fv h1 kd a j = fv h kd a j)
    (k : Kt B0 g dC dI dA H0 p l e R s m args below meth c Q (pc + 3) L st1 h h1 cells slots) : W p l e R s m args below meth c H locs cells slots Q (F0 m pc ls ((v :: .ref a :: st1).map (enc g))) := by
  obtain ⟨hx, hb, hml, hown, hts, hK, hini⟩ := X
  obtain ⟨-, -, x, cell, e1, e2, e3, e4, e5, e6, e7⟩ := hH.cell ht t1
  have hlay : ∀ w ∈ u_ws q.1 q.2.1 q.2.2, w ∈ TWg := lay_in _ _ hq
  have hap : ∀ x y, x < q.2.2 → y < q.2.2 → x ≠ y → dI (t - 1) x ≠ dI (t - 1) y := va_apart (own := y.cls) (D := (dC, dI)) (cl := CT) (tys := []) (ci := t - 1) hts hlay (fTy q) (fun k hk => (ct_ty _ _ hq k hk).1) (ct_nm _ _ hq) ⟨hK.1, fun _ _ h => by cases h⟩ hq
  rcases e7 with ⟨f0, f1, f2, f3⟩ | ⟨f1, -⟩
  · rw [ht] at f2 f3
    have f3 := f3 q hq
    obtain ⟨hS, hfc, kC, hkC, hkind⟩ := hK.1 _ _ hq
    obtain ⟨cf, kf, fi, fd, hi, hsl2⟩ := hS f hf
    have hst := (u_facts hfc hkC (u_lays hts hlay hf) hi).1
    have hlt : fd.slot < cell.slots.size := by rw [hsl2]; exact k2_hasslot (f3 f hf)
    have kk : ∀ H' : Heap, H'[x]? = some (cell.setSlot fd.slot (enc g v)) → H'.size = H.size → (∀ q, q ≠ x → H'[q]? = H[q]?) → W p l e R s m args below meth c H' (locs ++ [⟨x, fd.slot⟩]) cells slots Q (F0 m (pc + 3) ls (st1.map (enc g))) := by
      intro H' z1 z2 z3
      have hHR : HR B0 g dC dI dA H0 h1 H' := by
        refine HR.write G hH ha e1 a1 a3 a4 z1 z2 z3 (e5 ha) (Or.inl ⟨by rw [a3]; exact f0, by rw [a3]; exact f1, by rw [a3, ht]; exact f2, fun q' hq' j hj => ?_⟩)
        rw [a3, ht] at hq' ⊢
        cases hq.symm.trans hq'
        rw [hsl2]
        have h9 := t_set f3 hap hf (enc g v) j hj
        rw [h9]
        unfold updV
        by_cases hjf : j = f
        · subst hjf
          rw [if_pos rfl, a5]
        · rw [if_neg hjf, a6 _ j hjf]
      have h8 := k ls H' (locs ++ [⟨x, fd.slot⟩]) hL hHR (fun q hq => by
        rcases List.mem_append.mp hq with h | h
        · exact hlo q h
        · rw [List.mem_singleton.mp h]
          have := G.2.1 a ha
          rw [e1] at this
          have h7 : x = B0 + (a - KK) := Value.ref.inj this
          show B0 ≤ x
          omega)
      rw [a1, a2, Nat.sub_self, Nat.sub_self, Nat.add_zero, Nat.add_zero] at h8
      exact h8
    rw [List.map_cons, List.map_cons, show enc g (.ref a) = g a from rfl, e1]
    have hty := (ct_ty _ _ hq f hf).1
    have hl := hlay _ (u_in_lay hf)
    have hl2 := hts _ hl
    unfold u_lay at hl2
    by_cases hfn : (q.2.1 f).2.2.2 = true
    · rw [if_pos hfn] at hl2
      obtain ⟨hnm, hdecl⟩ := hfin hfn
      have hcf : m.cls = cf := by
        obtain ⟨_, _, c', _, _, _, -, -, hf', -, -, -, hown2, -⟩ := Cond.laysFinal_spec hl2
        have z1 : c' = cf := by have := hi.symm.trans hf'; simp at this; exact this.1.symm
        rw [hdecl] at hown2
        rw [← z1]; exact Option.some.inj (hown.symm.trans hown2)
      have h6 := u_fits hfc hkC hkind (Or.inr hl2) hi hty hn hfit
      exact W.putFinK hx hb hown (hts _ (hasW_mem hw)) hi hst hcf (hini hnm) (by rw [f2]; exact h6) e2 (e5 ha) hlt rfl rfl hd kk
    · rw [if_neg hfn] at hl2
      have h6 := u_store hfc hkC hkind hl2 hi hty hn hfit
      exact W.putK hx hb (f := fd) ⟨hown, hts _ (hasW_mem hw), ⟨_, _, _, hi⟩, hst⟩ (by rw [f2]; exact h6) e2 (e5 ha) hlt rfl rfl hd kk
  · rw [ht] at f1
    omega
theorem fv_wI {h : AH} {a f kd j : Nat} {x : Int32} (hj : j ≠ f) : fv (wI h a f x) kd a j = fv h kd a j := by
  unfold fv
  split
  · rfl
  · rfl
  · show Value.int (up2 (hI h) a f x a j) = _
    rw [up2_nk hj]
theorem fv_wR {h : AH} {a f kd j : Nat} {x : Nat} (hj : j ≠ f) : fv (wR h a f x) kd a j = fv h kd a j := by
  unfold fv
  split
  · show Value.ref (up2 (hR h) a f x a j) = _
    rw [up2_nk hj]
  · rfl
  · rfl
theorem fv_wJ {h : AH} {a f kd j : Nat} {x : Int64} (hj : j ≠ f) : fv (wJ h a f x) kd a j = fv h kd a j := by
  unfold fv
  split
  · rfl
  · show Value.long (up2 (hJ h) a f x a j) = _
    rw [up2_nk hj]
  · rfl
theorem ref_narrow {g : Nat → Value} {B0 : Nat} (G : gok B0 g) {ty : FieldType} (h : tyOK 1 ty = true) (x : Nat) : narrow ty (enc g (.ref x)) = enc g (.ref x) ∧ fits ty (enc g (.ref x)) = true := by
  show narrow ty (g x) = g x ∧ fits ty (g x) = true
  rcases G.2.2 x with e | ⟨z, e⟩ <;> rw [e] <;> cases ty <;> first | exact ⟨rfl, rfl⟩ | cases h
theorem sw_putfield (idx : Nat) : SW (.putfield idx) := by
  intro B0 g dC dI dA H0 p l e R s m args below meth c Q y bytes ret len aux pc L st h pc' L' st' h' ls H locs cells slots G X hd hok hs hL hH hlo hc hsl hfr hll k
  simp only [okI, Bool.and_eq_true] at hok
  obtain ⟨hok1, hok⟩ := hok
  obtain rfl := bq hok1
  unfold okFld at hok
  split at hok
  · rename_i t f kd r
    split at hok
    · rename_i q hq
      simp only [Bool.and_eq_true, if_true] at hok
      obtain ⟨⟨⟨⟨o1, o2⟩, o3⟩, o4⟩, ⟨o5, o6⟩, o7⟩ := hok
      have hf : f < q.2.2 := by rw [← Nat.blt_eq]; exact o3
      have hfin : (q.2.1 f).2.2.2 = true → y.name = "<init>" ∧ (q.2.1 f).1 = y.cls := by
        intro hfn
        rw [if_pos hfn, Bool.and_eq_true] at o7
        exact ⟨of_decide_eq_true o7.1, of_decide_eq_true o7.2⟩
      have t1 := bnd o1
      have t2 := bnd o2
      have hty := (ct_ty _ _ hq f hf).2
      simp only [step1] at hs
      split at hs
      · rename_i c' k' kd' rr v a st1 hax
        cases hax
        have hKK : hT h a = t → (t = 15 → KK ≤ a) → KK ≤ a := by
          intro ht h15
          obtain ⟨-, q2, -⟩ := hH.cell ht t1
          by_cases h15' : t = 15
          · exact h15 h15'
          · rcases q2 with q2 | q2
            · exact q2
            · unfold onlyConst at q2
              simp only [Bool.or_eq_true] at q2
              rcases q2 with ((q2 | q2) | q2) | q2 <;> have := bq q2 <;> omega
        unfold putF at hs
        split at hs
        · -- an int
          obtain ⟨hp, hs⟩ := gd_inj hs
          obtain ⟨rfl, rfl, rfl, rfl⟩ := go_inj hs
          have hk0 : kdD (q.2.1 f).2.2.1 = 0 := by
            rcases (Bool.or_eq_true _ _).mp o5 with z | z
            · rw [Bool.and_eq_true] at z; exact (bq z.1).symm
            · rw [Bool.and_eq_true] at z; cases z.1
          rw [hk0] at hty
          have ety : fTy q f = .int := by cases hh : fTy q f <;> rw [hh] at hty <;> first | rfl | cases hty
          refine put_core (h1 := wI h a f _) G X hd t1 t2 hq hf o4 hfin hL hH hlo hp (hKK hp (fun e => by rw [e] at o6; cases o6)) (by rw [ety]; rfl) (by rw [ety]; rfl) rfl rfl rfl (fun b hb cell hr => cellR_wI hb cell hr) (by rw [hk0]; show Value.int (up2 (hI h) a f _ a f) = _; rw [up2_eq]) (fun kd j hj => fv_wI hj) k
        · -- a boolean
          obtain ⟨hp, hs⟩ := gd_inj hs
          obtain ⟨rfl, rfl, rfl, rfl⟩ := go_inj hs
          have hk0 : kdD (q.2.1 f).2.2.1 = 3 := by
            rcases (Bool.or_eq_true _ _).mp o5 with z | z
            · rw [Bool.and_eq_true] at z; exact (bq z.1).symm
            · rw [Bool.and_eq_true] at z; cases z.1
          rw [hk0] at hty
          have ety : fTy q f = .boolean := by cases hh : fTy q f <;> rw [hh] at hty <;> first | rfl | cases hty
          refine put_core (h1 := wI h a f _) G X hd t1 t2 hq hf o4 hfin hL hH hlo hp.1 (hKK hp.1 (fun e => by rw [e] at o6; cases o6)) (by rw [ety]; rcases hp.2 with e | e <;> rw [e] <;> rfl) (by rw [ety]; rcases hp.2 with e | e <;> rw [e] <;> rfl) rfl rfl rfl (fun b hb cell hr => cellR_wI hb cell hr) (by rw [hk0]; show Value.int (up2 (hI h) a f _ a f) = _; rw [up2_eq]) (fun kd j hj => fv_wI hj) k
        · -- a byte
          obtain ⟨hp, hs⟩ := gd_inj hs
          obtain ⟨rfl, rfl, rfl, rfl⟩ := go_inj hs
          have hk0 : kdD (q.2.1 f).2.2.1 = 4 := by
            rcases (Bool.or_eq_true _ _).mp o5 with z | z
            · rw [Bool.and_eq_true] at z; exact (bq z.1).symm
            · rw [Bool.and_eq_true] at z; cases z.1
          rw [hk0] at hty
          have ety : fTy q f = .byte := by cases hh : fTy q f <;> rw [hh] at hty <;> first | rfl | cases hty
          refine put_core (h1 := wI h a f _) G X hd t1 t2 hq hf o4 hfin hL hH hlo hp.1 hp.2.1 (by rw [ety]; show Value.int _ = Value.int _; rw [hp.2.2]) (by rw [ety]; exact byte_fits hp.2.2) rfl rfl rfl (fun b hb cell hr => cellR_wI hb cell hr) (by rw [hk0]; show Value.int (up2 (hI h) a f _ a f) = _; rw [up2_eq]) (fun kd j hj => fv_wI hj) k
        · -- a reference
          obtain ⟨hp, hs⟩ := gd_inj hs
          obtain ⟨rfl, rfl, rfl, rfl⟩ := go_inj hs
          have hk0 : kdD (q.2.1 f).2.2.1 = 1 := by
            rcases (Bool.or_eq_true _ _).mp o5 with z | z
            · rw [Bool.and_eq_true] at z; exact (bq z.1).symm
            · rw [Bool.and_eq_true] at z; cases z.1
          rw [hk0] at hty
          have hnr := ref_narrow G hty
          refine put_core (h1 := wR h a f _) G X hd t1 t2 hq hf o4 hfin hL hH hlo hp (hKK hp (fun e => by rw [e] at o6; cases o6)) (hnr _).1 (hnr _).2 rfl rfl rfl (fun b hb cell hr => cellR_wR hb cell hr) (by rw [hk0]; show Value.ref (up2 (hR h) a f _ a f) = _; rw [up2_eq]) (fun kd j hj => fv_wR hj) k
        · -- a reference of a String
          obtain ⟨hp, hs⟩ := gd_inj hs
          obtain ⟨rfl, rfl, rfl, rfl⟩ := go_inj hs
          have hk0 : kdD (q.2.1 f).2.2.1 = 1 := by
            rcases (Bool.or_eq_true _ _).mp o5 with z | z
            · rw [Bool.and_eq_true] at z
              have z2 := z.2
              simp at z2
            · rw [Bool.and_eq_true] at z; exact bq z.2
          rw [hk0] at hty
          have hnr := ref_narrow G hty
          refine put_core (h1 := wR h a f _) G X hd t1 t2 hq hf o4 hfin hL hH hlo hp.1 hp.2 (hnr _).1 (hnr _).2 rfl rfl rfl (fun b hb cell hr => cellR_wR hb cell hr) (by rw [hk0]; show Value.ref (up2 (hR h) a f _ a f) = _; rw [up2_eq]) (fun kd j hj => fv_wR hj) k
        · -- a long
          obtain ⟨hp, hs⟩ := gd_inj hs
          obtain ⟨rfl, rfl, rfl, rfl⟩ := go_inj hs
          have hk0 : kdD (q.2.1 f).2.2.1 = 2 := by
            rcases (Bool.or_eq_true _ _).mp o5 with z | z
            · rw [Bool.and_eq_true] at z; exact (bq z.1).symm
            · rw [Bool.and_eq_true] at z; cases z.1
          rw [hk0] at hty
          have ety : fTy q f = .long := by cases hh : fTy q f <;> rw [hh] at hty <;> first | rfl | cases hty
          refine put_core (h1 := wJ h a f _) G X hd t1 t2 hq hf o4 hfin hL hH hlo hp (hKK hp (fun e => by rw [e] at o6; cases o6)) (by rw [ety]; rfl) (by rw [ety]; rfl) rfl rfl rfl (fun b hb cell hr => cellR_wJ hb cell hr) (by rw [hk0]; show Value.long (up2 (hJ h) a f _ a f) = _; rw [up2_eq]) (fun kd j hj => fv_wJ hj) k
        · cases hs
      · cases hs
    · cases hok
  · cases hok

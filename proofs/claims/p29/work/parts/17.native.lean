/-! 17 SOUNDNESS of what the machine itself does at a call: Object's constructor, arraycopy, clone -/
theorem tw_g {r : Nat} {w : Jvm.Cond} (h : twAt r = some w) (hg : goodWord w = true) : w ∈ TWg := List.mem_filter.mpr ⟨twAt_mem h, hg⟩
theorem objinit_code : Jvm.Cond.code objectInit ⟨#[0xb1]⟩ 1 none ∈ TWg := tw_g (r := 2039) rfl rfl
theorem objinit_inst : Jvm.Cond.instanceMethod objectInit ∈ TWg := tw_g (r := 2038) rfl rfl
theorem obj_W {B0 : Nat} {g : Nat → Value} {dC : Nat → ClassId} {dI : Nat → Nat → Nat} {dA : Nat → ClassId} {H0 : Heap} {p : Program} {l : Launch} {e : Env} {R : Room} {s : State} {m : MethodId} {args : Array Value} {below : List Frame} {meth : Method} {c : Code} {Q : State → Prop} {y : MethodName} {bytes : ByteArray} {idx r t pc : Nat} {L st1 : List Value} {h : AH} {ls : Array Slot} {H : Heap} {locs : List Loc} {cells slots a : Nat}
    (G : gok B0 g) (X : Cx B0 g dC dI dA H0 p s m args meth c y bytes L.length) (hd : decode bytes pc = .ok (.invokespecial idx, 3)) (hw : hasW r (.methodLink y.cls idx objectInit) = true) (hLr : LR g ls L) (hH : HR B0 g dC dI dA H0 h H) (hlo : ∀ q ∈ locs, B0 ≤ q.base) (hfr : 1 ≤ R.frames) (hll : 60 ≤ R.locals) (ht : hT h a = t) (h1 : 1 ≤ t) (h8 : fit8 st1 = true)
    (k : Kt B0 g dC dI dA H0 p l e R s m args below meth c Q (pc + 3) L st1 h h cells slots) : W p l e R s m args below meth c H locs cells slots Q (F0 m pc ls ((.ref a :: st1).map (enc g))) := by
  obtain ⟨hx, hb, hml, hown, hts, hK, hini⟩ := X
  obtain ⟨-, -, x, cell, e1, -⟩ := hH.cell ht h1
  rw [List.map_cons, show enc g (.ref a) = g a from rfl, e1]
  have h9 := fit8_sum G h8
  exact W.objInit hx hb hown (hts _ (hasW_mem hw)) (hts _ objinit_inst) (hts _ objinit_code) rfl (by show ls.size = _; rw [hLr.1, hml]) rfl hd hfr (by show 2 * 0 + _ + 12 ≤ _; omega) (k.pure hLr hH hlo)
theorem call_inl {aux : List Nat} {pc pc' len : Nat} {L L' st st' : List Value} {h h' : AH} (q : call aux pc len L st h = some (.inl (pc', L', st', h'))) :
    (∃ r c rest a st1, aux = 1 :: r :: c :: rest ∧ st = .ref a :: st1 ∧ fit8 st1 = true ∧ hT h a = c ∧ pc + len = pc' ∧ L = L' ∧ st1 = st' ∧ h = h') ∨
    (∃ rest n dp b sp a st1, aux = 2 :: rest ∧ st = .int n :: .int dp :: .ref b :: .int sp :: .ref a :: st1 ∧ fit8 st1 = true ∧ (hT h a = 102 ∧ hT h b = 102 ∧ KK ≤ b ∧ ¬ sp < 0 ∧ ¬ dp < 0 ∧ ¬ n < 0 ∧ ix sp + ix n ≤ hL h a ∧ ix dp + ix n ≤ hL h b) ∧ pc + len = pc' ∧ L = L' ∧ st1 = st' ∧ wCp h a (ix sp) b (ix dp) (ix n) = h') ∨
    (∃ rest a st1, aux = 3 :: rest ∧ st = .ref a :: st1 ∧ fit8 st1 = true ∧ hT h a = 102 ∧ pc + len = pc' ∧ L = L' ∧ .ref (hN h) :: st1 = st' ∧ hCl h a = h') := by
  unfold call at q
  split at q
  · obtain ⟨-, q⟩ := cond_inj q
    cases q
  · split at q
    · obtain ⟨-, q⟩ := cond_inj q
      obtain ⟨-, q⟩ := gd_inj q
      cases q
    · cases q
  · obtain ⟨q1, q⟩ := cond_inj q
    obtain ⟨q2, q⟩ := gd_inj q
    obtain ⟨e1, e2, e3, e4⟩ := go_inj q
    exact Or.inl ⟨_, _, _, _, _, rfl, rfl, q1, q2, e1, e2, e3, e4⟩
  · obtain ⟨q1, q⟩ := cond_inj q
    obtain ⟨q2, q⟩ := gd_inj q
    obtain ⟨e1, e2, e3, e4⟩ := go_inj q
    exact Or.inr (Or.inl ⟨_, _, _, _, _, _, _, rfl, rfl, q1, q2, e1, e2, e3, e4⟩)
  · obtain ⟨q1, q⟩ := cond_inj q
    obtain ⟨q2, q⟩ := gd_inj q
    obtain ⟨e1, e2, e3, e4⟩ := go_inj q
    exact Or.inr (Or.inr ⟨_, _, _, rfl, rfl, q1, q2, e1, e2, e3, e4⟩)
  · cases q
theorem okInv_1 {own : String} {idx len r c : Nat} {rest : List Nat} {virt stat : Bool} (h : okInv own idx len virt stat (1 :: r :: c :: rest) = true) : len = 3 ∧ virt = false ∧ stat = false ∧ hasW r (.methodLink own idx objectInit) = true ∧ 1 ≤ c := by
  unfold okInv at h
  split at h
  · rename_i e; cases e
  · rename_i e
    cases e
    simp only [Bool.and_eq_true] at h
    obtain ⟨⟨⟨⟨⟨h1, h2⟩, h3⟩, h4⟩, h5⟩, h6⟩ := h
    exact ⟨bq h1, by simpa using h2, by simpa using h3, h4, bnd h5⟩
  · rename_i e; cases e
  · rename_i e; cases e
  · cases h
theorem okInv_2 {own : String} {idx len : Nat} {rest : List Nat} {virt stat : Bool} (h : okInv own idx len virt stat (2 :: rest) = true) : len = 3 ∧ stat = true ∧ ∃ r, hasW r (.methodLink own idx arraycopyName) = true := by
  unfold okInv at h
  split at h
  · rename_i e; cases e
  · rename_i e; cases e
  · rename_i e
    cases e
    simp only [Bool.and_eq_true] at h
    exact ⟨bq h.1.1, h.1.2, _, h.2⟩
  · rename_i e; cases e
  · cases h
theorem okInv_3 {own : String} {idx len : Nat} {rest : List Nat} {virt stat : Bool} (h : okInv own idx len virt stat (3 :: rest) = true) : len = 3 ∧ virt = true ∧ ∃ r, hasW r (.methodLink own idx ⟨"[B", "clone", "()Ljava/lang/Object;"⟩) = true := by
  unfold okInv at h
  split at h
  · rename_i e; cases e
  · rename_i e; cases e
  · rename_i e; cases e
  · rename_i e
    cases e
    simp only [Bool.and_eq_true] at h
    exact ⟨bq h.1.1, h.1.2, _, h.2⟩
  · cases h

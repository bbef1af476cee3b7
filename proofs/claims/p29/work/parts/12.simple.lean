/-! 12 SOUNDNESS, instruction by instruction (written by wip/p29/gen_sw.py) -/
def Cx (B0 : Nat) (g : Nat → Value) (dC : Nat → ClassId) (dI : Nat → Nat → Nat) (dA : Nat → ClassId) (H0 : Heap) (p : Program) (s : State) (m : MethodId) (args : Array Value) (meth : Method) (c : Code) (y : MethodName) (bytes : ByteArray) (nL : Nat) : Prop :=
  p.tables.exec = Jvm.exec ∧ c.code = bytes ∧ c.maxLocals = nL ∧ s.vm.findClass y.cls = some m.cls ∧ (∀ w, w ∈ TWg → w.before args s = true) ∧ KF B0 g dC dI dA H0 s ∧ (y.name = "<init>" → meth.name = "<init>")
def Kt (B0 : Nat) (g : Nat → Value) (dC : Nat → ClassId) (dI : Nat → Nat → Nat) (dA : Nat → ClassId) (H0 : Heap) (p : Program) (l : Launch) (e : Env) (R : Room) (s : State) (m : MethodId) (args : Array Value) (below : List Frame) (meth : Method) (c : Code) (Q : State → Prop) (pc' : Nat) (L' st' : List Value) (h h' : AH) (cells slots : Nat) : Prop :=
  ∀ (ls' : Array Slot) (H' : Heap) (locs' : List Loc), LR g ls' L' → HR B0 g dC dI dA H0 h' H' → (∀ q ∈ locs', B0 ≤ q.base) → W p l e R s m args below meth c H' locs' (cells + (hN h' - hN h)) (slots + (hU h' - hU h)) Q (F0 m pc' ls' (st'.map (enc g)))
theorem Kt.pure {B0 : Nat} {g : Nat → Value} {dC : Nat → ClassId} {dI : Nat → Nat → Nat} {dA : Nat → ClassId} {H0 : Heap} {p : Program} {l : Launch} {e : Env} {R : Room} {s : State} {m : MethodId} {args : Array Value} {below : List Frame} {meth : Method} {c : Code} {Q : State → Prop} {pc' : Nat} {L' st' : List Value} {h : AH} {cells slots : Nat}
    (k : Kt B0 g dC dI dA H0 p l e R s m args below meth c Q pc' L' st' h h cells slots) {ls : Array Slot} {H : Heap} {locs : List Loc} (hL : LR g ls L') (hH : HR B0 g dC dI dA H0 h H) (hlo : ∀ q ∈ locs, B0 ≤ q.base) : W p l e R s m args below meth c H locs cells slots Q (F0 m pc' ls (st'.map (enc g))) := by
  have h1 := k ls H locs hL hH hlo
  rw [Nat.sub_self, Nat.add_zero, Nat.sub_self, Nat.add_zero] at h1
  exact h1
def SW (ins : Instr) : Prop := ∀ (B0 : Nat) (g : Nat → Value) (dC : Nat → ClassId) (dI : Nat → Nat → Nat) (dA : Nat → ClassId) (H0 : Heap) (p : Program) (l : Launch) (e : Env) (R : Room) (s : State) (m : MethodId) (args : Array Value) (below : List Frame) (meth : Method) (c : Code) (Q : State → Prop) (y : MethodName) (bytes : ByteArray) (ret : Option FieldType) (len : Nat) (aux : List Nat) (pc : Nat) (L st : List Value) (h : AH) (pc' : Nat) (L' st' : List Value) (h' : AH) (ls : Array Slot) (H : Heap) (locs : List Loc) (cells slots : Nat),
  gok B0 g → Cx B0 g dC dI dA H0 p s m args meth c y bytes L.length → decode bytes pc = .ok (ins, len) → okI y.cls (decide (y.name = "<init>")) ret pc ins len aux = true → step1 ins len aux pc L st h = some (.inl (pc', L', st', h')) → LR g ls L → HR B0 g dC dI dA H0 h H → (∀ q ∈ locs, B0 ≤ q.base) → cells + (hN h' - hN h) ≤ R.cells → slots + (hU h' - hU h) ≤ R.slots → 1 ≤ R.frames → 60 ≤ R.locals →
  Kt B0 g dC dI dA H0 p l e R s m args below meth c Q pc' L' st' h h' cells slots → W p l e R s m args below meth c H locs cells slots Q (F0 m pc ls (st.map (enc g)))
theorem bq {a b : Nat} (h : (a == b) = true) : a = b := eq_of_beq h
theorem go_inj {pc pc' : Nat} {L L' st st' : List Value} {h h' : AH} (q : go pc L st h = some (.inl (pc', L', st', h'))) : pc = pc' ∧ L = L' ∧ st = st' ∧ h = h' := by
  unfold go at q
  simp only [Option.some.injEq, Sum.inl.injEq, Prod.mk.injEq] at q
  obtain ⟨q1, q2, q3, q4⟩ := q
  exact ⟨q1, q2, q3, by rw [show h = (h.1, h.2.1, h.2.2.1, h.2.2.2.1, h.2.2.2.2.1, h.2.2.2.2.2.1, h.2.2.2.2.2.2) from rfl]; simp only [q4]⟩
theorem gd_inj {α : Type} {p : Prop} [Decidable p] {x : Option α} {r : α} (h : gd p x = some r) : p ∧ x = some r := by
  unfold gd at h
  by_cases hp : p
  · rw [if_pos hp] at h; exact ⟨hp, h⟩
  · rw [if_neg hp] at h; cases h
theorem cond_inj {α : Type} {b : Bool} {x : Option α} {r : α} (h : cond b x none = some r) : b = true ∧ x = some r := by
  cases b with
  | true => exact ⟨rfl, h⟩
  | false => cases h
theorem stV_inj {i pc pc' : Nat} {v : Value} {L L' st st' : List Value} {h h' : AH} (q : stV L i pc v st h = some (.inl (pc', L', st', h'))) : i < L.length ∧ pc = pc' ∧ L.set i v = L' ∧ st = st' ∧ h = h' := by
  unfold stV at q
  obtain ⟨q1, q2⟩ := cond_inj q
  exact ⟨ltL_lt q1, go_inj q2⟩
theorem stJ_inj {i pc pc' : Nat} {v : Value} {L L' st st' : List Value} {h h' : AH} (q : stJ L i pc v st h = some (.inl (pc', L', st', h'))) : i + 1 < L.length ∧ pc = pc' ∧ (L.set i v).set (i + 1) (.retAddr 0) = L' ∧ st = st' ∧ h = h' := by
  unfold stJ at q
  obtain ⟨q1, q2⟩ := cond_inj q
  exact ⟨ltL_lt q1, go_inj q2⟩
theorem ldI_inj {i pc pc' : Nat} {L L' st st' : List Value} {h h' : AH} (q : ldI L i pc st h = some (.inl (pc', L', st', h'))) : ∃ x, L[i]? = some (.int x) ∧ pc = pc' ∧ L = L' ∧ .int x :: st = st' ∧ h = h' := by
  unfold ldI at q
  split at q
  · exact ⟨_, by assumption, go_inj q⟩
  · cases q
theorem ldR_inj {i pc pc' : Nat} {L L' st st' : List Value} {h h' : AH} (q : ldR L i pc st h = some (.inl (pc', L', st', h'))) : ∃ x, L[i]? = some (.ref x) ∧ pc = pc' ∧ L = L' ∧ .ref x :: st = st' ∧ h = h' := by
  unfold ldR at q
  split at q
  · exact ⟨_, by assumption, go_inj q⟩
  · cases q
theorem ldJ_inj {i pc pc' : Nat} {L L' st st' : List Value} {h h' : AH} (q : ldJ L i pc st h = some (.inl (pc', L', st', h'))) : ∃ x p, L[i]? = some (.long x) ∧ L[i + 1]? = some (.retAddr p) ∧ pc = pc' ∧ L = L' ∧ .long x :: st = st' ∧ h = h' := by
  unfold ldJ at q
  split at q
  · exact ⟨_, _, by assumption, by assumption, go_inj q⟩
  · cases q
theorem LR.atI {g : Nat → Value} {ls : Array Slot} {L : List Value} (h : LR g ls L) {i : Nat} {x : Int32} (hi : L[i]? = some (.int x)) : ls[i]? = some (.val (.int x)) := h.2.2 i _ hi ⟨fun p => nofun, fun e => by cases e⟩
theorem LR.atR {g : Nat → Value} {ls : Array Slot} {L : List Value} (h : LR g ls L) {i : Nat} {x : Nat} (hi : L[i]? = some (.ref x)) : ls[i]? = some (.val (g x)) := h.2.2 i _ hi ⟨fun p => nofun, fun e => by cases e⟩
theorem LR.atJ {g : Nat → Value} {ls : Array Slot} {L : List Value} (h : LR g ls L) {i p : Nat} {x : Int64} (hi : L[i]? = some (.long x)) (h2 : L[i + 1]? = some (.retAddr p)) : ls[i]? = some (.val (.long x)) := h.2.2 i _ hi ⟨fun p => nofun, fun _ => ⟨p, h2⟩⟩
theorem okCst_eq {v : Int32} {aux : List Nat} (h : okCst v aux = true) : cst aux = some (.int v) := by
  unfold okCst at h
  split at h
  · rename_i w hw
    rw [hw, of_decide_eq_true h]
  · cases h
theorem q_cmp_eq (x y : Int64) : lg_cmp x y = if x < y then -1 else if x = y then 0 else 1 := by
  unfold lg_cmp
  by_cases h1 : x < y
  · have h2 : ¬ y < x := fun h => by have := Int64.lt_iff_toInt_lt.mp h1; have := Int64.lt_iff_toInt_lt.mp h; omega
    have h3 : ¬ x = y := fun h => by rw [h] at h1; have := Int64.lt_iff_toInt_lt.mp h1; omega
    simp [h1, h2, h3]
  · by_cases h2 : x = y
    · subst h2; simp [h1]
    · have h3 : y < x := by
        rw [Int64.lt_iff_toInt_lt] at h1 ⊢
        have : x.toInt ≠ y.toInt := fun h => h2 (Int64.toInt_inj.mp h)
        omega
      simp [h1, h2, h3]
theorem cat1_enc {B0 : Nat} {g : Nat → Value} (G : gok B0 g) {v : Value} (h : cat1 v = true) : (enc g v).category = 1 := by
  cases v with
  | ref a => rcases G.2.2 a with h | ⟨x, h⟩ <;> (show (g a).category = 1; rw [h]; rfl)
  | int x => rfl
  | _ => cases h
theorem sw_iadd : SW .iadd := by
  intro B0 g dC dI dA H0 p l e R s m args below meth c Q y bytes ret len aux pc L st h pc' L' st' h' ls H locs cells slots G X hd hok hs hL hH hlo hc hsl hfr hll k
  obtain ⟨hx, hb, hml, hown, hts, hK, hini⟩ := X
  simp only [okI] at hok
  obtain rfl := bq hok
  simp only [step1] at hs
  split at hs
  · obtain ⟨rfl, rfl, rfl, rfl⟩ := go_inj hs
    exact lv_iadd hx hb hd (k.pure hL hH hlo)
  · cases hs
theorem sw_isub : SW .isub := by
  intro B0 g dC dI dA H0 p l e R s m args below meth c Q y bytes ret len aux pc L st h pc' L' st' h' ls H locs cells slots G X hd hok hs hL hH hlo hc hsl hfr hll k
  obtain ⟨hx, hb, hml, hown, hts, hK, hini⟩ := X
  simp only [okI] at hok
  obtain rfl := bq hok
  simp only [step1] at hs
  split at hs
  · obtain ⟨rfl, rfl, rfl, rfl⟩ := go_inj hs
    exact lv_isub hx hb hd (k.pure hL hH hlo)
  · cases hs
theorem sw_imul : SW .imul := by
  intro B0 g dC dI dA H0 p l e R s m args below meth c Q y bytes ret len aux pc L st h pc' L' st' h' ls H locs cells slots G X hd hok hs hL hH hlo hc hsl hfr hll k
  obtain ⟨hx, hb, hml, hown, hts, hK, hini⟩ := X
  simp only [okI] at hok
  obtain rfl := bq hok
  simp only [step1] at hs
  split at hs
  · obtain ⟨rfl, rfl, rfl, rfl⟩ := go_inj hs
    exact lv_imul hx hb hd (k.pure hL hH hlo)
  · cases hs
theorem sw_iand : SW .iand := by
  intro B0 g dC dI dA H0 p l e R s m args below meth c Q y bytes ret len aux pc L st h pc' L' st' h' ls H locs cells slots G X hd hok hs hL hH hlo hc hsl hfr hll k
  obtain ⟨hx, hb, hml, hown, hts, hK, hini⟩ := X
  simp only [okI] at hok
  obtain rfl := bq hok
  simp only [step1] at hs
  split at hs
  · obtain ⟨rfl, rfl, rfl, rfl⟩ := go_inj hs
    exact lv_iand hx hb hd (k.pure hL hH hlo)
  · cases hs
theorem sw_ior : SW .ior := by
  intro B0 g dC dI dA H0 p l e R s m args below meth c Q y bytes ret len aux pc L st h pc' L' st' h' ls H locs cells slots G X hd hok hs hL hH hlo hc hsl hfr hll k
  obtain ⟨hx, hb, hml, hown, hts, hK, hini⟩ := X
  simp only [okI] at hok
  obtain rfl := bq hok
  simp only [step1] at hs
  split at hs
  · obtain ⟨rfl, rfl, rfl, rfl⟩ := go_inj hs
    exact lv_ior hx hb hd (k.pure hL hH hlo)
  · cases hs
theorem sw_ixor : SW .ixor := by
  intro B0 g dC dI dA H0 p l e R s m args below meth c Q y bytes ret len aux pc L st h pc' L' st' h' ls H locs cells slots G X hd hok hs hL hH hlo hc hsl hfr hll k
  obtain ⟨hx, hb, hml, hown, hts, hK, hini⟩ := X
  simp only [okI] at hok
  obtain rfl := bq hok
  simp only [step1] at hs
  split at hs
  · obtain ⟨rfl, rfl, rfl, rfl⟩ := go_inj hs
    exact lv_ixor hx hb hd (k.pure hL hH hlo)
  · cases hs
theorem sw_ineg : SW .ineg := by
  intro B0 g dC dI dA H0 p l e R s m args below meth c Q y bytes ret len aux pc L st h pc' L' st' h' ls H locs cells slots G X hd hok hs hL hH hlo hc hsl hfr hll k
  obtain ⟨hx, hb, hml, hown, hts, hK, hini⟩ := X
  simp only [okI] at hok
  obtain rfl := bq hok
  simp only [step1] at hs
  split at hs
  · obtain ⟨rfl, rfl, rfl, rfl⟩ := go_inj hs
    exact lv_ineg hx hb hd (k.pure hL hH hlo)
  · cases hs
theorem sw_ishl : SW .ishl := by
  intro B0 g dC dI dA H0 p l e R s m args below meth c Q y bytes ret len aux pc L st h pc' L' st' h' ls H locs cells slots G X hd hok hs hL hH hlo hc hsl hfr hll k
  obtain ⟨hx, hb, hml, hown, hts, hK, hini⟩ := X
  simp only [okI] at hok
  obtain rfl := bq hok
  simp only [step1] at hs
  split at hs
  · obtain ⟨rfl, rfl, rfl, rfl⟩ := go_inj hs
    exact lv_ishl hx hb hd (k.pure hL hH hlo)
  · cases hs
theorem sw_ishr : SW .ishr := by
  intro B0 g dC dI dA H0 p l e R s m args below meth c Q y bytes ret len aux pc L st h pc' L' st' h' ls H locs cells slots G X hd hok hs hL hH hlo hc hsl hfr hll k
  obtain ⟨hx, hb, hml, hown, hts, hK, hini⟩ := X
  simp only [okI] at hok
  obtain rfl := bq hok
  simp only [step1] at hs
  split at hs
  · obtain ⟨rfl, rfl, rfl, rfl⟩ := go_inj hs
    exact lv_ishr hx hb hd (k.pure hL hH hlo)
  · cases hs
theorem sw_ladd : SW .ladd := by
  intro B0 g dC dI dA H0 p l e R s m args below meth c Q y bytes ret len aux pc L st h pc' L' st' h' ls H locs cells slots G X hd hok hs hL hH hlo hc hsl hfr hll k
  obtain ⟨hx, hb, hml, hown, hts, hK, hini⟩ := X
  simp only [okI] at hok
  obtain rfl := bq hok
  simp only [step1] at hs
  split at hs
  · obtain ⟨rfl, rfl, rfl, rfl⟩ := go_inj hs
    exact lv_ladd hx hb hd (k.pure hL hH hlo)
  · cases hs
theorem sw_i2d : SW .i2d := by
  intro B0 g dC dI dA H0 p l e R s m args below meth c Q y bytes ret len aux pc L st h pc' L' st' h' ls H locs cells slots G X hd hok hs hL hH hlo hc hsl hfr hll k
  obtain ⟨hx, hb, hml, hown, hts, hK, hini⟩ := X
  simp only [okI] at hok
  obtain rfl := bq hok
  simp only [step1] at hs
  split at hs
  · obtain ⟨rfl, rfl, rfl, rfl⟩ := go_inj hs
    exact lv_i2d hx hb hd (k.pure hL hH hlo)
  · cases hs
theorem sw_i2b : SW .i2b := by
  intro B0 g dC dI dA H0 p l e R s m args below meth c Q y bytes ret len aux pc L st h pc' L' st' h' ls H locs cells slots G X hd hok hs hL hH hlo hc hsl hfr hll k
  obtain ⟨hx, hb, hml, hown, hts, hK, hini⟩ := X
  simp only [okI] at hok
  obtain rfl := bq hok
  simp only [step1] at hs
  split at hs
  · obtain ⟨rfl, rfl, rfl, rfl⟩ := go_inj hs
    exact lv_i2b hx hb hd rfl (k.pure hL hH hlo)
  · cases hs
theorem sw_i2c : SW .i2c := by
  intro B0 g dC dI dA H0 p l e R s m args below meth c Q y bytes ret len aux pc L st h pc' L' st' h' ls H locs cells slots G X hd hok hs hL hH hlo hc hsl hfr hll k
  obtain ⟨hx, hb, hml, hown, hts, hK, hini⟩ := X
  simp only [okI] at hok
  obtain rfl := bq hok
  simp only [step1] at hs
  split at hs
  · obtain ⟨rfl, rfl, rfl, rfl⟩ := go_inj hs
    exact lv_i2c hx hb hd rfl (k.pure hL hH hlo)
  · cases hs
theorem sw_i2l : SW .i2l := by
  intro B0 g dC dI dA H0 p l e R s m args below meth c Q y bytes ret len aux pc L st h pc' L' st' h' ls H locs cells slots G X hd hok hs hL hH hlo hc hsl hfr hll k
  obtain ⟨hx, hb, hml, hown, hts, hK, hini⟩ := X
  simp only [okI] at hok
  obtain rfl := bq hok
  simp only [step1] at hs
  split at hs
  · obtain ⟨rfl, rfl, rfl, rfl⟩ := go_inj hs
    exact lv_i2l hx hb hd rfl (k.pure hL hH hlo)
  · cases hs
theorem sw_lshl : SW .lshl := by
  intro B0 g dC dI dA H0 p l e R s m args below meth c Q y bytes ret len aux pc L st h pc' L' st' h' ls H locs cells slots G X hd hok hs hL hH hlo hc hsl hfr hll k
  obtain ⟨hx, hb, hml, hown, hts, hK, hini⟩ := X
  simp only [okI] at hok
  obtain rfl := bq hok
  simp only [step1] at hs
  split at hs
  · obtain ⟨rfl, rfl, rfl, rfl⟩ := go_inj hs
    exact lv_lshl hx hb hd rfl (k.pure hL hH hlo)
  · cases hs
theorem sw_lcmp : SW .lcmp := by
  intro B0 g dC dI dA H0 p l e R s m args below meth c Q y bytes ret len aux pc L st h pc' L' st' h' ls H locs cells slots G X hd hok hs hL hH hlo hc hsl hfr hll k
  obtain ⟨hx, hb, hml, hown, hts, hK, hini⟩ := X
  simp only [okI] at hok
  obtain rfl := bq hok
  simp only [step1] at hs
  split at hs
  · obtain ⟨rfl, rfl, rfl, rfl⟩ := go_inj hs
    refine W.lcmp hx hb hd ?_
    rw [q_cmp_eq]
    exact k.pure hL hH hlo
  · cases hs
theorem sw_dcmp (op : CmpOp) : SW (.dcmp op) := by
  intro B0 g dC dI dA H0 p l e R s m args below meth c Q y bytes ret len aux pc L st h pc' L' st' h' ls H locs cells slots G X hd hok hs hL hH hlo hc hsl hfr hll k
  obtain ⟨hx, hb, hml, hown, hts, hK, hini⟩ := X
  simp only [okI] at hok
  obtain rfl := bq hok
  simp only [step1] at hs
  split at hs
  · obtain ⟨rfl, rfl, rfl, rfl⟩ := go_inj hs
    exact lv_dcmp hx hb hd (k.pure hL hH hlo)
  · cases hs
theorem sw_idiv : SW .idiv := by
  intro B0 g dC dI dA H0 p l e R s m args below meth c Q y bytes ret len aux pc L st h pc' L' st' h' ls H locs cells slots G X hd hok hs hL hH hlo hc hsl hfr hll k
  obtain ⟨hx, hb, hml, hown, hts, hK, hini⟩ := X
  simp only [okI] at hok
  obtain rfl := bq hok
  simp only [step1] at hs
  split at hs
  · obtain ⟨hp, hs⟩ := gd_inj hs
    obtain ⟨rfl, rfl, rfl, rfl⟩ := go_inj hs
    exact lv_idiv hx hb hd hp (k.pure hL hH hlo)
  · cases hs
theorem sw_irem : SW .irem := by
  intro B0 g dC dI dA H0 p l e R s m args below meth c Q y bytes ret len aux pc L st h pc' L' st' h' ls H locs cells slots G X hd hok hs hL hH hlo hc hsl hfr hll k
  obtain ⟨hx, hb, hml, hown, hts, hK, hini⟩ := X
  simp only [okI] at hok
  obtain rfl := bq hok
  simp only [step1] at hs
  split at hs
  · obtain ⟨hp, hs⟩ := gd_inj hs
    obtain ⟨rfl, rfl, rfl, rfl⟩ := go_inj hs
    exact lv_irem hx hb hd hp (k.pure hL hH hlo)
  · cases hs
theorem sw_ddiv : SW .ddiv := by
  intro B0 g dC dI dA H0 p l e R s m args below meth c Q y bytes ret len aux pc L st h pc' L' st' h' ls H locs cells slots G X hd hok hs hL hH hlo hc hsl hfr hll k
  obtain ⟨hx, hb, hml, hown, hts, hK, hini⟩ := X
  simp only [okI] at hok
  obtain rfl := bq hok
  simp only [step1] at hs
  split at hs
  · obtain ⟨hp, hs⟩ := gd_inj hs
    obtain ⟨rfl, rfl, rfl, rfl⟩ := go_inj hs
    exact lv_ddiv hx hb hd hp (k.pure hL hH hlo)
  · cases hs
theorem sw_iconst (n : Int) : SW (.iconst n) := by
  intro B0 g dC dI dA H0 p l e R s m args below meth c Q y bytes ret len aux pc L st h pc' L' st' h' ls H locs cells slots G X hd hok hs hL hH hlo hc hsl hfr hll k
  obtain ⟨hx, hb, hml, hown, hts, hK, hini⟩ := X
  simp only [okI, Bool.and_eq_true] at hok
  obtain rfl := bq hok.1
  have h1 := okCst_eq hok.2
  simp only [step1, psh, h1] at hs
  obtain ⟨rfl, rfl, rfl, rfl⟩ := go_inj hs
  exact lv_iconst hx hb hd rfl (k.pure hL hH hlo)
theorem sw_bipush (n : Int) : SW (.bipush n) := by
  intro B0 g dC dI dA H0 p l e R s m args below meth c Q y bytes ret len aux pc L st h pc' L' st' h' ls H locs cells slots G X hd hok hs hL hH hlo hc hsl hfr hll k
  obtain ⟨hx, hb, hml, hown, hts, hK, hini⟩ := X
  simp only [okI, Bool.and_eq_true] at hok
  obtain rfl := bq hok.1
  have h1 := okCst_eq hok.2
  simp only [step1, psh, h1] at hs
  obtain ⟨rfl, rfl, rfl, rfl⟩ := go_inj hs
  exact lv_bipush hx hb hd rfl (k.pure hL hH hlo)
theorem sw_sipush (n : Int) : SW (.sipush n) := by
  intro B0 g dC dI dA H0 p l e R s m args below meth c Q y bytes ret len aux pc L st h pc' L' st' h' ls H locs cells slots G X hd hok hs hL hH hlo hc hsl hfr hll k
  obtain ⟨hx, hb, hml, hown, hts, hK, hini⟩ := X
  simp only [okI, Bool.and_eq_true] at hok
  obtain rfl := bq hok.1
  have h1 := okCst_eq hok.2
  simp only [step1, psh, h1] at hs
  obtain ⟨rfl, rfl, rfl, rfl⟩ := go_inj hs
  exact lv_sipush hx hb hd rfl (k.pure hL hH hlo)
theorem sw_lconst (n : Fin 2) : SW (.lconst n) := by
  intro B0 g dC dI dA H0 p l e R s m args below meth c Q y bytes ret len aux pc L st h pc' L' st' h' ls H locs cells slots G X hd hok hs hL hH hlo hc hsl hfr hll k
  obtain ⟨hx, hb, hml, hown, hts, hK, hini⟩ := X
  simp only [okI] at hok
  obtain rfl := bq hok
  simp only [step1] at hs
  obtain ⟨rfl, rfl, rfl, rfl⟩ := go_inj hs
  exact lv_lconst hx hb hd rfl (k.pure hL hH hlo)
theorem sw_dconst (n : Fin 2) : SW (.dconst n) := by
  intro B0 g dC dI dA H0 p l e R s m args below meth c Q y bytes ret len aux pc L st h pc' L' st' h' ls H locs cells slots G X hd hok hs hL hH hlo hc hsl hfr hll k
  obtain ⟨hx, hb, hml, hown, hts, hK, hini⟩ := X
  simp only [okI] at hok
  obtain rfl := bq hok
  simp only [step1] at hs
  split at hs
  · obtain ⟨rfl, rfl, rfl, rfl⟩ := go_inj hs
    exact lv_dconst0 hx hb hd (k.pure hL hH hlo)
  · cases hs
theorem sw_aconst_null : SW .aconst_null := by
  intro B0 g dC dI dA H0 p l e R s m args below meth c Q y bytes ret len aux pc L st h pc' L' st' h' ls H locs cells slots G X hd hok hs hL hH hlo hc hsl hfr hll k
  obtain ⟨hx, hb, hml, hown, hts, hK, hini⟩ := X
  simp only [okI] at hok
  obtain rfl := bq hok
  simp only [step1] at hs
  obtain ⟨rfl, rfl, rfl, rfl⟩ := go_inj hs
  refine lv_null hx hb hd ?_
  have h1 := k.pure hL hH hlo
  have h2 : enc g (.ref 0) = .null := G.1
  rw [List.map_cons, h2] at h1
  exact h1
theorem sw_iload_n (n : Fin 4) : SW (.iload_n n) := by
  intro B0 g dC dI dA H0 p l e R s m args below meth c Q y bytes ret len aux pc L st h pc' L' st' h' ls H locs cells slots G X hd hok hs hL hH hlo hc hsl hfr hll k
  obtain ⟨hx, hb, hml, hown, hts, hK, hini⟩ := X
  simp only [okI] at hok
  obtain rfl := bq hok
  simp only [step1] at hs
  obtain ⟨x, hx1, rfl, rfl, rfl, rfl⟩ := ldI_inj hs
  exact lv_iload_n hx hb hd rfl (hL.atI hx1) (k.pure hL hH hlo)
theorem sw_iload (n : Nat) : SW (.iload n) := by
  intro B0 g dC dI dA H0 p l e R s m args below meth c Q y bytes ret len aux pc L st h pc' L' st' h' ls H locs cells slots G X hd hok hs hL hH hlo hc hsl hfr hll k
  obtain ⟨hx, hb, hml, hown, hts, hK, hini⟩ := X
  simp only [okI] at hok
  obtain rfl := bq hok
  simp only [step1] at hs
  obtain ⟨x, hx1, rfl, rfl, rfl, rfl⟩ := ldI_inj hs
  exact lv_iload hx hb hd (hL.atI hx1) (k.pure hL hH hlo)
theorem sw_lload_n (n : Fin 4) : SW (.lload_n n) := by
  intro B0 g dC dI dA H0 p l e R s m args below meth c Q y bytes ret len aux pc L st h pc' L' st' h' ls H locs cells slots G X hd hok hs hL hH hlo hc hsl hfr hll k
  obtain ⟨hx, hb, hml, hown, hts, hK, hini⟩ := X
  simp only [okI] at hok
  obtain rfl := bq hok
  simp only [step1] at hs
  obtain ⟨x, q, hx1, hx2, rfl, rfl, rfl, rfl⟩ := ldJ_inj hs
  exact lv_lload_n hx hb hd rfl (hL.atJ hx1 hx2) (k.pure hL hH hlo)
theorem sw_lload (n : Nat) : SW (.lload n) := by
  intro B0 g dC dI dA H0 p l e R s m args below meth c Q y bytes ret len aux pc L st h pc' L' st' h' ls H locs cells slots G X hd hok hs hL hH hlo hc hsl hfr hll k
  obtain ⟨hx, hb, hml, hown, hts, hK, hini⟩ := X
  simp only [okI] at hok
  obtain rfl := bq hok
  simp only [step1] at hs
  obtain ⟨x, q, hx1, hx2, rfl, rfl, rfl, rfl⟩ := ldJ_inj hs
  exact lv_lload hx hb hd (hL.atJ hx1 hx2) (k.pure hL hH hlo)
theorem sw_aload_n (n : Fin 4) : SW (.aload_n n) := by
  intro B0 g dC dI dA H0 p l e R s m args below meth c Q y bytes ret len aux pc L st h pc' L' st' h' ls H locs cells slots G X hd hok hs hL hH hlo hc hsl hfr hll k
  obtain ⟨hx, hb, hml, hown, hts, hK, hini⟩ := X
  simp only [okI] at hok
  obtain rfl := bq hok
  simp only [step1] at hs
  obtain ⟨x, hx1, rfl, rfl, rfl, rfl⟩ := ldR_inj hs
  have h1 := hL.atR hx1
  have h2 := k.pure hL hH hlo
  rw [List.map_cons, show enc g (.ref x) = g x from rfl] at h2
  rcases G.2.2 x with e1 | ⟨z, e1⟩
  · rw [e1] at h1 h2
    exact lv_aload_nN hx hb hd rfl h1 h2
  · rw [e1] at h1 h2
    exact lv_aload_n hx hb hd rfl h1 h2
theorem sw_aload (n : Nat) : SW (.aload n) := by
  intro B0 g dC dI dA H0 p l e R s m args below meth c Q y bytes ret len aux pc L st h pc' L' st' h' ls H locs cells slots G X hd hok hs hL hH hlo hc hsl hfr hll k
  obtain ⟨hx, hb, hml, hown, hts, hK, hini⟩ := X
  simp only [okI] at hok
  obtain rfl := bq hok
  simp only [step1] at hs
  obtain ⟨x, hx1, rfl, rfl, rfl, rfl⟩ := ldR_inj hs
  have h1 := hL.atR hx1
  have h2 := k.pure hL hH hlo
  rw [List.map_cons, show enc g (.ref x) = g x from rfl] at h2
  rcases G.2.2 x with e1 | ⟨z, e1⟩
  · rw [e1] at h1 h2
    exact lv_aloadN hx hb hd h1 h2
  · rw [e1] at h1 h2
    exact lv_aload hx hb hd h1 h2
theorem sw_istore_n (n : Fin 4) : SW (.istore_n n) := by
  intro B0 g dC dI dA H0 p l e R s m args below meth c Q y bytes ret len aux pc L st h pc' L' st' h' ls H locs cells slots G X hd hok hs hL hH hlo hc hsl hfr hll k
  obtain ⟨hx, hb, hml, hown, hts, hK, hini⟩ := X
  simp only [okI] at hok
  obtain rfl := bq hok
  simp only [step1] at hs
  split at hs
  · obtain ⟨hi, rfl, rfl, rfl, rfl⟩ := stV_inj hs
    exact lv_istore_n hx hb hd rfl hL.has hi rfl (fun ls' h9 => k.pure (LR.set G hi rfl (fun _ => nofun) h9) hH hlo)
  · cases hs
theorem sw_istore (n : Nat) : SW (.istore n) := by
  intro B0 g dC dI dA H0 p l e R s m args below meth c Q y bytes ret len aux pc L st h pc' L' st' h' ls H locs cells slots G X hd hok hs hL hH hlo hc hsl hfr hll k
  obtain ⟨hx, hb, hml, hown, hts, hK, hini⟩ := X
  simp only [okI] at hok
  obtain rfl := bq hok
  simp only [step1] at hs
  split at hs
  · obtain ⟨hi, rfl, rfl, rfl, rfl⟩ := stV_inj hs
    exact lv_istore hx hb hd hL.has hi rfl (fun ls' h9 => k.pure (LR.set G hi rfl (fun _ => nofun) h9) hH hlo)
  · cases hs
theorem sw_lstore_n (n : Fin 4) : SW (.lstore_n n) := by
  intro B0 g dC dI dA H0 p l e R s m args below meth c Q y bytes ret len aux pc L st h pc' L' st' h' ls H locs cells slots G X hd hok hs hL hH hlo hc hsl hfr hll k
  obtain ⟨hx, hb, hml, hown, hts, hK, hini⟩ := X
  simp only [okI] at hok
  obtain rfl := bq hok
  simp only [step1] at hs
  split at hs
  · obtain ⟨hi, rfl, rfl, rfl, rfl⟩ := stJ_inj hs
    exact lv_lstore_n hx hb hd rfl hL.has hi rfl (fun ls' h9 => k.pure (LR.setJ G hi h9) hH hlo)
  · cases hs
theorem sw_lstore (n : Nat) : SW (.lstore n) := by
  intro B0 g dC dI dA H0 p l e R s m args below meth c Q y bytes ret len aux pc L st h pc' L' st' h' ls H locs cells slots G X hd hok hs hL hH hlo hc hsl hfr hll k
  obtain ⟨hx, hb, hml, hown, hts, hK, hini⟩ := X
  simp only [okI] at hok
  obtain rfl := bq hok
  simp only [step1] at hs
  split at hs
  · obtain ⟨hi, rfl, rfl, rfl, rfl⟩ := stJ_inj hs
    exact lv_lstore hx hb hd hL.has hi rfl (fun ls' h9 => k.pure (LR.setJ G hi h9) hH hlo)
  · cases hs
theorem sw_astore_n (n : Fin 4) : SW (.astore_n n) := by
  intro B0 g dC dI dA H0 p l e R s m args below meth c Q y bytes ret len aux pc L st h pc' L' st' h' ls H locs cells slots G X hd hok hs hL hH hlo hc hsl hfr hll k
  obtain ⟨hx, hb, hml, hown, hts, hK, hini⟩ := X
  simp only [okI] at hok
  obtain rfl := bq hok
  simp only [step1] at hs
  split at hs
  · rename_i x st1
    obtain ⟨hi, rfl, rfl, rfl, rfl⟩ := stV_inj hs
    have key : ∀ ls' : Array Slot, lv_has ls' L.length ((_, enc g (.ref x)) :: (lvL g L).filter (fun q => !(q.1 == _) && !(q.1 + 1 == _ && q.2.category == 2))) → _ := fun ls' h9 => k.pure (LR.set G hi rfl (fun _ => nofun) h9) hH hlo
    rw [List.map_cons]
    rw [show enc g (.ref x) = g x from rfl] at key ⊢
    rcases G.2.2 x with e1 | ⟨z, e1⟩
    · rw [e1] at key ⊢
      exact lv_astore_nN hx hb hd rfl hL.has hi rfl key
    · rw [e1] at key ⊢
      exact lv_astore_n hx hb hd rfl hL.has hi rfl key
  · cases hs
theorem sw_astore (n : Nat) : SW (.astore n) := by
  intro B0 g dC dI dA H0 p l e R s m args below meth c Q y bytes ret len aux pc L st h pc' L' st' h' ls H locs cells slots G X hd hok hs hL hH hlo hc hsl hfr hll k
  obtain ⟨hx, hb, hml, hown, hts, hK, hini⟩ := X
  simp only [okI] at hok
  obtain rfl := bq hok
  simp only [step1] at hs
  split at hs
  · rename_i x st1
    obtain ⟨hi, rfl, rfl, rfl, rfl⟩ := stV_inj hs
    have key : ∀ ls' : Array Slot, lv_has ls' L.length ((_, enc g (.ref x)) :: (lvL g L).filter (fun q => !(q.1 == _) && !(q.1 + 1 == _ && q.2.category == 2))) → _ := fun ls' h9 => k.pure (LR.set G hi rfl (fun _ => nofun) h9) hH hlo
    rw [List.map_cons]
    rw [show enc g (.ref x) = g x from rfl] at key ⊢
    rcases G.2.2 x with e1 | ⟨z, e1⟩
    · rw [e1] at key ⊢
      exact lv_astoreN hx hb hd hL.has hi rfl key
    · rw [e1] at key ⊢
      exact lv_astore hx hb hd hL.has hi rfl key
  · cases hs
theorem sw_iinc (i : Nat) (n : Int) : SW (.iinc i n) := by
  intro B0 g dC dI dA H0 p l e R s m args below meth c Q y bytes ret len aux pc L st h pc' L' st' h' ls H locs cells slots G X hd hok hs hL hH hlo hc hsl hfr hll k
  obtain ⟨hx, hb, hml, hown, hts, hK, hini⟩ := X
  simp only [okI, Bool.and_eq_true] at hok
  obtain rfl := bq hok.1
  have h1 := okCst_eq hok.2
  simp only [step1, h1] at hs
  split at hs
  · rename_i x n' h2 h3
    cases h3
    obtain ⟨hi, rfl, rfl, rfl, rfl⟩ := stV_inj hs
    have hm : (i, Value.int x) ∈ lvL g L := lvL_mem.mpr ⟨_, h2, ⟨fun _ => nofun, fun e => by cases e⟩, rfl⟩
    obtain ⟨kk, hkk, hkk2⟩ := List.mem_iff_getElem.mp hm
    have hk2 : (lvL g L)[kk]? = some (i, .int x) := by rw [List.getElem?_eq_getElem hkk, hkk2]
    exact lv_iinc hx hb hd hL.has hk2 rfl hi rfl (fun ls' h9 => k.pure (LR.set G hi rfl (fun _ => nofun) h9) hH hlo)
  · cases hs
theorem sw_dup : SW .dup := by
  intro B0 g dC dI dA H0 p l e R s m args below meth c Q y bytes ret len aux pc L st h pc' L' st' h' ls H locs cells slots G X hd hok hs hL hH hlo hc hsl hfr hll k
  obtain ⟨hx, hb, hml, hown, hts, hK, hini⟩ := X
  simp only [okI] at hok
  obtain rfl := bq hok
  simp only [step1] at hs
  split at hs
  · obtain ⟨hp, hs⟩ := cond_inj hs
    obtain ⟨rfl, rfl, rfl, rfl⟩ := go_inj hs
    exact lv_dup hx hb hd (cat1_enc G hp) (k.pure hL hH hlo)
  · cases hs
theorem sw_pop : SW .pop := by
  intro B0 g dC dI dA H0 p l e R s m args below meth c Q y bytes ret len aux pc L st h pc' L' st' h' ls H locs cells slots G X hd hok hs hL hH hlo hc hsl hfr hll k
  obtain ⟨hx, hb, hml, hown, hts, hK, hini⟩ := X
  simp only [okI] at hok
  obtain rfl := bq hok
  simp only [step1] at hs
  split at hs
  · obtain ⟨hp, hs⟩ := cond_inj hs
    obtain ⟨rfl, rfl, rfl, rfl⟩ := go_inj hs
    exact lv_pop hx hb hd (cat1_enc G hp) (k.pure hL hH hlo)
  · cases hs
theorem sw_dup2 : SW .dup2 := by
  intro B0 g dC dI dA H0 p l e R s m args below meth c Q y bytes ret len aux pc L st h pc' L' st' h' ls H locs cells slots G X hd hok hs hL hH hlo hc hsl hfr hll k
  obtain ⟨hx, hb, hml, hown, hts, hK, hini⟩ := X
  simp only [okI] at hok
  obtain rfl := bq hok
  simp only [step1] at hs
  split at hs
  · obtain ⟨hp, hs⟩ := cond_inj hs
    rw [Bool.and_eq_true] at hp
    obtain ⟨rfl, rfl, rfl, rfl⟩ := go_inj hs
    exact lv_dup2_11 hx hb hd (cat1_enc G hp.1) (cat1_enc G hp.2) (k.pure hL hH hlo)
  · cases hs
theorem sw_dup_x1 : SW .dup_x1 := by
  intro B0 g dC dI dA H0 p l e R s m args below meth c Q y bytes ret len aux pc L st h pc' L' st' h' ls H locs cells slots G X hd hok hs hL hH hlo hc hsl hfr hll k
  obtain ⟨hx, hb, hml, hown, hts, hK, hini⟩ := X
  simp only [okI] at hok
  obtain rfl := bq hok
  simp only [step1] at hs
  split at hs
  · obtain ⟨hp, hs⟩ := cond_inj hs
    rw [Bool.and_eq_true] at hp
    obtain ⟨rfl, rfl, rfl, rfl⟩ := go_inj hs
    exact lv_dup_x1 hx hb hd (cat1_enc G hp.1) (cat1_enc G hp.2) (k.pure hL hH hlo)
  · cases hs
theorem brI_inj {q : Prop} [Decidable q] {pc pc' len : Nat} {aux : List Nat} {L L' st st' : List Value} {h h' : AH} (hs : brI q pc len aux L st h = some (.inl (pc', L', st', h'))) : L = L' ∧ st = st' ∧ h = h' ∧ ∃ t r, aux = t :: r ∧ ((q ∧ t = pc') ∨ (¬ q ∧ pc + len = pc')) := by
  unfold brI at hs
  split at hs
  · rename_i t r
    by_cases hq : q
    · rw [if_pos hq] at hs
      obtain ⟨e1, e2, e3, e4⟩ := go_inj hs
      exact ⟨e2, e3, e4, t, r, rfl, Or.inl ⟨hq, e1⟩⟩
    · rw [if_neg hq] at hs
      obtain ⟨e1, e2, e3, e4⟩ := go_inj hs
      exact ⟨e2, e3, e4, t, r, rfl, Or.inr ⟨hq, e1⟩⟩
  · cases hs
theorem sw_ifCond (cd : Jvm.ClassFile.Cond) (off : Int) : SW (.ifCond cd off) := by
  intro B0 g dC dI dA H0 p l e R s m args below meth c Q y bytes ret len aux pc L st h pc' L' st' h' ls H locs cells slots G X hd hok hs hL hH hlo hc hsl hfr hll k
  obtain ⟨hx, hb, hml, hown, hts, hK, hini⟩ := X
  simp only [okI, Bool.and_eq_true] at hok
  obtain ⟨hok1, hok⟩ := hok
  obtain rfl := bq hok1
  split at hok
  · rename_i t
    have ht := of_decide_eq_true hok
    simp only [step1] at hs
    split at hs
    · unfold ifC at hs
      cases cd with
      | eq =>
        obtain ⟨rfl, rfl, rfl, t2, r2, e2, h3⟩ := brI_inj hs
        cases e2
        rcases h3 with ⟨q, e⟩ | ⟨q, e⟩
        · subst e; exact lv_if_eq hx hb hd ht (fun _ => k.pure hL hH hlo) (fun q2 => absurd q q2)
        · subst e; exact lv_if_eq hx hb hd ht (fun q2 => absurd q2 q) (fun _ => k.pure hL hH hlo)
      | ne =>
        obtain ⟨rfl, rfl, rfl, t2, r2, e2, h3⟩ := brI_inj hs
        cases e2
        rcases h3 with ⟨q, e⟩ | ⟨q, e⟩
        · subst e; exact lv_if_ne hx hb hd ht (fun _ => k.pure hL hH hlo) (fun q2 => absurd q2 q)
        · subst e; exact lv_if_ne hx hb hd ht (fun q2 => absurd q2 q) (fun _ => k.pure hL hH hlo)
      | lt =>
        obtain ⟨rfl, rfl, rfl, t2, r2, e2, h3⟩ := brI_inj hs
        cases e2
        rcases h3 with ⟨q, e⟩ | ⟨q, e⟩
        · subst e; exact lv_if_lt hx hb hd ht (fun _ => k.pure hL hH hlo) (fun q2 => absurd q q2)
        · subst e; exact lv_if_lt hx hb hd ht (fun q2 => absurd q2 q) (fun _ => k.pure hL hH hlo)
      | ge =>
        obtain ⟨rfl, rfl, rfl, t2, r2, e2, h3⟩ := brI_inj hs
        cases e2
        rcases h3 with ⟨q, e⟩ | ⟨q, e⟩
        · subst e; exact lv_if_ge hx hb hd ht (fun _ => k.pure hL hH hlo) (fun q2 => absurd q q2)
        · subst e; exact lv_if_ge hx hb hd ht (fun q2 => absurd q2 q) (fun _ => k.pure hL hH hlo)
      | gt =>
        obtain ⟨rfl, rfl, rfl, t2, r2, e2, h3⟩ := brI_inj hs
        cases e2
        rcases h3 with ⟨q, e⟩ | ⟨q, e⟩
        · subst e; exact lv_if_gt hx hb hd ht (fun _ => k.pure hL hH hlo) (fun q2 => absurd q q2)
        · subst e; exact lv_if_gt hx hb hd ht (fun q2 => absurd q2 q) (fun _ => k.pure hL hH hlo)
      | le =>
        obtain ⟨rfl, rfl, rfl, t2, r2, e2, h3⟩ := brI_inj hs
        cases e2
        rcases h3 with ⟨q, e⟩ | ⟨q, e⟩
        · subst e; exact lv_if_le hx hb hd ht (fun _ => k.pure hL hH hlo) (fun q2 => absurd q q2)
        · subst e; exact lv_if_le hx hb hd ht (fun q2 => absurd q2 q) (fun _ => k.pure hL hH hlo)
    · cases hs
  · cases hok
theorem sw_if_icmp (cd : Jvm.ClassFile.Cond) (off : Int) : SW (.if_icmp cd off) := by
  intro B0 g dC dI dA H0 p l e R s m args below meth c Q y bytes ret len aux pc L st h pc' L' st' h' ls H locs cells slots G X hd hok hs hL hH hlo hc hsl hfr hll k
  obtain ⟨hx, hb, hml, hown, hts, hK, hini⟩ := X
  simp only [okI, Bool.and_eq_true] at hok
  obtain ⟨hok1, hok⟩ := hok
  obtain rfl := bq hok1
  split at hok
  · rename_i t
    have ht := of_decide_eq_true hok
    simp only [step1] at hs
    split at hs
    · unfold icC at hs
      cases cd with
      | eq =>
        obtain ⟨rfl, rfl, rfl, t2, r2, e2, h3⟩ := brI_inj hs
        cases e2
        rcases h3 with ⟨q, e⟩ | ⟨q, e⟩
        · subst e; exact lv_icmp_eq hx hb hd ht (fun _ => k.pure hL hH hlo) (fun q2 => absurd q q2)
        · subst e; exact lv_icmp_eq hx hb hd ht (fun q2 => absurd q2 q) (fun _ => k.pure hL hH hlo)
      | ne =>
        obtain ⟨rfl, rfl, rfl, t2, r2, e2, h3⟩ := brI_inj hs
        cases e2
        rcases h3 with ⟨q, e⟩ | ⟨q, e⟩
        · subst e; exact lv_icmp_ne hx hb hd ht (fun _ => k.pure hL hH hlo) (fun q2 => absurd q2 q)
        · subst e; exact lv_icmp_ne hx hb hd ht (fun q2 => absurd q2 q) (fun _ => k.pure hL hH hlo)
      | lt =>
        obtain ⟨rfl, rfl, rfl, t2, r2, e2, h3⟩ := brI_inj hs
        cases e2
        rcases h3 with ⟨q, e⟩ | ⟨q, e⟩
        · subst e; exact lv_icmp_lt hx hb hd ht (fun _ => k.pure hL hH hlo) (fun q2 => absurd q q2)
        · subst e; exact lv_icmp_lt hx hb hd ht (fun q2 => absurd q2 q) (fun _ => k.pure hL hH hlo)
      | ge =>
        obtain ⟨rfl, rfl, rfl, t2, r2, e2, h3⟩ := brI_inj hs
        cases e2
        rcases h3 with ⟨q, e⟩ | ⟨q, e⟩
        · subst e; exact lv_icmp_ge hx hb hd ht (fun _ => k.pure hL hH hlo) (fun q2 => absurd q q2)
        · subst e; exact lv_icmp_ge hx hb hd ht (fun q2 => absurd q2 q) (fun _ => k.pure hL hH hlo)
      | gt =>
        obtain ⟨rfl, rfl, rfl, t2, r2, e2, h3⟩ := brI_inj hs
        cases e2
        rcases h3 with ⟨q, e⟩ | ⟨q, e⟩
        · subst e; exact lv_icmp_gt hx hb hd ht (fun _ => k.pure hL hH hlo) (fun q2 => absurd q q2)
        · subst e; exact lv_icmp_gt hx hb hd ht (fun q2 => absurd q2 q) (fun _ => k.pure hL hH hlo)
      | le =>
        obtain ⟨rfl, rfl, rfl, t2, r2, e2, h3⟩ := brI_inj hs
        cases e2
        rcases h3 with ⟨q, e⟩ | ⟨q, e⟩
        · subst e; exact lv_icmp_le hx hb hd ht (fun _ => k.pure hL hH hlo) (fun q2 => absurd q q2)
        · subst e; exact lv_icmp_le hx hb hd ht (fun q2 => absurd q2 q) (fun _ => k.pure hL hH hlo)
    · cases hs
  · cases hok
theorem sw_goto (off : Int) : SW (.goto off) := by
  intro B0 g dC dI dA H0 p l e R s m args below meth c Q y bytes ret len aux pc L st h pc' L' st' h' ls H locs cells slots G X hd hok hs hL hH hlo hc hsl hfr hll k
  obtain ⟨hx, hb, hml, hown, hts, hK, hini⟩ := X
  simp only [okI, Bool.and_eq_true] at hok
  obtain ⟨hok1, hok⟩ := hok
  obtain rfl := bq hok1
  split at hok
  · rename_i t
    have ht := of_decide_eq_true hok
    simp only [step1] at hs
    obtain ⟨rfl, rfl, rfl, rfl⟩ := go_inj hs
    exact lv_goto hx hb hd ht (k.pure hL hH hlo)
  · cases hok
theorem sw_ifnonnull (off : Int) : SW (.ifnonnull off) := by
  intro B0 g dC dI dA H0 p l e R s m args below meth c Q y bytes ret len aux pc L st h pc' L' st' h' ls H locs cells slots G X hd hok hs hL hH hlo hc hsl hfr hll k
  obtain ⟨hx, hb, hml, hown, hts, hK, hini⟩ := X
  simp only [okI, Bool.and_eq_true] at hok
  obtain ⟨hok1, hok⟩ := hok
  obtain rfl := bq hok1
  split at hok
  · rename_i t
    have ht := of_decide_eq_true hok
    simp only [step1] at hs
    split at hs
    · rename_i h9
      cases h9
      obtain ⟨hp, hs⟩ := gd_inj hs
      obtain ⟨rfl, rfl, rfl, rfl⟩ := go_inj hs
      obtain ⟨-, -, x, cell, e1, -⟩ := hH.2.2.2 _ hp
      rw [List.map_cons, show enc g (.ref _) = g _ from rfl, e1]
      exact lv_ifnonnull hx hb hd ht (k.pure hL hH hlo)
    · cases hs
  · cases hok
theorem tsw_in {pc : Nat} {lo : Int} {x : Int32} {d : Int} {os : List Int} {aux : List Nat} (ha : aux.map (fun t : Nat => (t : Int)) = (d :: os).map (fun o => (pc : Int) + o)) (h1 : ¬ x.toInt < lo) (h2 : ¬ lo + os.length ≤ x.toInt) : ∃ o, os[(x.toInt - lo).toNat]? = some o ∧ (pc : Int) + o = (tsw lo x aux : Nat) := by
  cases aux with
  | nil => cases ha
  | cons d' ts =>
    rw [List.map_cons, List.map_cons] at ha
    have ha2 := (List.cons.inj ha).2
    have hlen : ts.length = os.length := by have := congrArg List.length ha2; simpa using this
    have hk : (x.toInt - lo).toNat < os.length := by omega
    refine ⟨os[(x.toInt - lo).toNat], List.getElem?_eq_getElem hk, ?_⟩
    have h3 : tsw lo x (d' :: ts) = ts.getD (x.toInt - lo).toNat d' := by
      rw [tsw, if_neg (show ¬ (x.toInt < lo ∨ lo + (ts.length : Int) ≤ x.toInt) from by rw [hlen]; omega)]
    have h4 := congrArg (fun l => l[(x.toInt - lo).toNat]?) ha2
    simp only [List.getElem?_map, List.getElem?_eq_getElem hk, List.getElem?_eq_getElem (show (x.toInt - lo).toNat < ts.length by omega), Option.map_some, Option.some.injEq] at h4
    rw [h3, List.getD_eq_getElem?_getD, List.getElem?_eq_getElem (show (x.toInt - lo).toNat < ts.length by omega)]
    exact h4.symm
theorem tsw_off {pc : Nat} {lo : Int} {x : Int32} {d : Int} {os : List Int} {aux : List Nat} (ha : aux.map (fun t : Nat => (t : Int)) = (d :: os).map (fun o => (pc : Int) + o)) (h1 : x.toInt < lo ∨ lo + os.length ≤ x.toInt) : (pc : Int) + d = (tsw lo x aux : Nat) := by
  cases aux with
  | nil => cases ha
  | cons d' ts =>
    rw [List.map_cons, List.map_cons] at ha
    have ha2 := (List.cons.inj ha).2
    have hlen : ts.length = os.length := by have := congrArg List.length ha2; simpa using this
    rw [tsw, if_pos (show (x.toInt < lo ∨ lo + (ts.length : Int) ≤ x.toInt) from by rw [hlen]; exact h1)]
    exact (List.cons.inj ha).1.symm
theorem lsw_off {pc : Nat} {x : Int32} {d : Int} : ∀ {ps : List (Int × Int)} {aux : List Nat} (_ : aux.map (fun t : Nat => (t : Int)) = (d :: ps.map (fun q => q.2)).map (fun o => (pc : Int) + o)), (pc : Int) + Op.lookupswitch.offset ps d x.toInt = (lsw ps x aux : Nat)
  | [], aux, ha => by
    cases aux with
    | nil => cases ha
    | cons d' ts =>
      rw [lsw_e]
      rw [List.map_cons, List.map_cons] at ha
      exact (List.cons.inj ha).1.symm
  | (k, o) :: ps, aux, ha => by
    cases aux with
    | nil => cases ha
    | cons d' ts =>
      cases ts with
      | nil =>
        rw [List.map_cons, List.map_cons, List.map_cons] at ha
        cases (List.cons.inj ha).2
      | cons t ts =>
        rw [List.map_cons, List.map_cons, List.map_cons, List.map_cons, List.map_cons] at ha
        obtain ⟨a1, a2⟩ := List.cons.inj ha
        obtain ⟨a3, a4⟩ := List.cons.inj a2
        have ih := lsw_off (pc := pc) (x := x) (d := d) (ps := ps) (aux := d' :: ts) (by rw [List.map_cons, List.map_cons, a1, a4])
        rw [lsw]
        by_cases hx : x.toInt = k
        · rw [if_pos hx, a3]
          simp [Op.lookupswitch.offset, hx]
        · have hx2 : ¬ k = x.toInt := fun q => hx q.symm
          rw [if_neg hx, ← ih]
          simp [Op.lookupswitch.offset, hx, hx2]
theorem sw_tableswitch (d lo hi : Int) (os : Array Int) : SW (.tableswitch d lo hi os) := by
  intro B0 g dC dI dA H0 p l e R s m args below meth c Q y bytes ret len aux pc L st h pc' L' st' h' ls H locs cells slots G X hd hok hs hL hH hlo hc hsl hfr hll k
  obtain ⟨hx, hb, hml, hown, hts, hK, hini⟩ := X
  simp only [okI, Bool.and_eq_true] at hok
  have ha := of_decide_eq_true hok.1
  have hh := of_decide_eq_true hok.2
  simp only [step1] at hs
  split at hs
  · rename_i x st1
    obtain ⟨rfl, rfl, rfl, rfl⟩ := go_inj hs
    have hsz : os.toList.length = os.size := Array.length_toList
    by_cases h1 : x.toInt < lo ∨ lo + os.toList.length ≤ x.toInt
    · exact lv_tableOut hx hb hd (by omega) (tsw_off ha h1) (k.pure hL hH hlo)
    · obtain ⟨of', h2, h3⟩ := tsw_in ha (fun q => h1 (Or.inl q)) (fun q => h1 (Or.inr q))
      exact lv_tableIn hx hb hd (by omega) (by omega) (by rw [← Array.getElem?_toList]; exact h2) h3 (k.pure hL hH hlo)
  · cases hs
theorem sw_lookupswitch (d : Int) (ps : Array (Int × Int)) : SW (.lookupswitch d ps) := by
  intro B0 g dC dI dA H0 p l e R s m args below meth c Q y bytes ret len aux pc L st h pc' L' st' h' ls H locs cells slots G X hd hok hs hL hH hlo hc hsl hfr hll k
  obtain ⟨hx, hb, hml, hown, hts, hK, hini⟩ := X
  simp only [okI, Bool.and_eq_true] at hok
  have ha := of_decide_eq_true hok.1
  simp only [step1] at hs
  split at hs
  · rename_i x st1
    obtain ⟨rfl, rfl, rfl, rfl⟩ := go_inj hs
    exact lv_lookup hx hb hd hok.2 rfl (lsw_off ha) (k.pure hL hH hlo)
  · cases hs

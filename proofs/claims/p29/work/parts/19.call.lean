/-! 19 SOUNDNESS of entries, ends and calls -/
def QcD (B0 : Nat) (g : Nat → Value) (dC : Nat → ClassId) (dI : Nat → Nat → Nat) (dA : Nat → ClassId) (H0 : Heap) (r : Option Value) (h1 : AH) : Array Value → State → Outcome → State → Prop := fun _ _ oc t => oc = .returned (r.map (enc g)) ∧ HR B0 g dC dI dA H0 h1 t.heap
def PcD (B0 : Nat) (g : Nat → Value) (dC : Nat → ClassId) (dI : Nat → Nat → Nat) (dA : Nat → ClassId) (H0 : Heap) (vs : List Value) (h : AH) : Array Value → State → Prop := fun a U => a = (vs.map (enc g)).toArray ∧ KF B0 g dC dI dA H0 U ∧ HR B0 g dC dI dA H0 h U.heap
def rmD (d : Nat) (h h1 : AH) : Room := { frames := d, cells := hN h1 - hN h, slots := hU h1 - hU h, locals := d * 80 }
theorem PcD.blind {B0 : Nat} {g : Nat → Value} {dC : Nat → ClassId} {dI : Nat → Nat → Nat} {dA : Nat → ClassId} {H0 : Heap} {vs : List Value} {h : AH} : FrameBlind (PcD B0 g dC dI dA H0 vs h) := fun a U fr mk q => ⟨q.1, KF.calling q.2.1 fr mk a, q.2.2⟩
-- entries
theorem ent_at {B0 : Nat} {g : Nat → Value} (G : gok B0 g) : ∀ (vs : List Value) (i : Nat) (v : Value), (ent1 vs)[i]? = some v → (∀ p, v ≠ .retAddr p) → (lg_sl (vs.map (enc g)))[i]? = some (.val (enc g v))
  | [], i, v, h, _ => by simp [ent1] at h
  | w :: vs, i, v, h, hv => by
    have ih := ent_at G vs
    have one : ∀ u : Value, (enc g u).category = 1 → lg_sl ((u :: vs).map (enc g)) = .val (enc g u) :: lg_sl (vs.map (enc g)) := by
      intro u hu
      unfold lg_sl
      rw [List.map_cons, List.flatMap_cons, if_neg (by omega)]
      rfl
    have two : ∀ u : Value, (enc g u).category = 2 → lg_sl ((u :: vs).map (enc g)) = .val (enc g u) :: .second :: lg_sl (vs.map (enc g)) := by
      intro u hu
      unfold lg_sl
      rw [List.map_cons, List.flatMap_cons, if_pos hu]
      rfl
    have c1 : ∀ u : Value, (enc g u).category = 1 → ent1 (u :: vs) = u :: ent1 vs → (ent1 (u :: vs))[i]? = some v → (lg_sl ((u :: vs).map (enc g)))[i]? = some (.val (enc g v)) := by
      intro u hu e1 h1
      rw [one u hu]
      rw [e1] at h1
      cases i with
      | zero => cases h1; rfl
      | succ i => exact ih i v h1 hv
    have c2 : ∀ u : Value, (enc g u).category = 2 → ent1 (u :: vs) = u :: .retAddr 0 :: ent1 vs → (ent1 (u :: vs))[i]? = some v → (lg_sl ((u :: vs).map (enc g)))[i]? = some (.val (enc g v)) := by
      intro u hu e1 h1
      rw [two u hu]
      rw [e1] at h1
      match i, h1 with
      | 0, h1 => cases h1; rfl
      | 1, h1 => cases h1; exact absurd rfl (hv 0)
      | i + 2, h1 => exact ih i v h1 hv
    cases w with
    | long x => exact c2 _ rfl rfl h
    | double x => exact c2 _ rfl rfl h
    | ref a => exact c1 _ (by rcases G.2.2 a with e | ⟨x, e⟩ <;> (show (g a).category = 1; rw [e]; rfl)) rfl h
    | int x => exact c1 _ rfl rfl h
    | float x => exact c1 _ rfl rfl h
    | null => exact c1 _ rfl rfl h
    | retAddr p => exact c1 _ rfl rfl h
theorem ent_len {B0 : Nat} {g : Nat → Value} (G : gok B0 g) : ∀ vs : List Value, (lg_sl (vs.map (enc g))).length = (ent1 vs).length
  | [] => rfl
  | w :: vs => by
    have ih := ent_len G vs
    have e0 : lg_sl ((w :: vs).map (enc g)) = (if (enc g w).category = 2 then [.val (enc g w), .second] else [.val (enc g w)]) ++ lg_sl (vs.map (enc g)) := by
      unfold lg_sl
      rw [List.map_cons, List.flatMap_cons]
    rw [e0, List.length_append, ih]
    cases w with
    | ref a =>
      rw [if_neg (by rcases G.2.2 a with e | ⟨x, e⟩ <;> (show ¬ (g a).category = 2; rw [e]; exact (by decide : ¬ (1 : Nat) = 2)))]
      show 1 + _ = (ent1 vs).length + 1
      omega
    | long x => show 2 + _ = (ent1 vs).length + 1 + 1; omega
    | double x => show 2 + _ = (ent1 vs).length + 1 + 1; omega
    | int x => show 1 + _ = (ent1 vs).length + 1; omega
    | float x => show 1 + _ = (ent1 vs).length + 1; omega
    | null => show 1 + _ = (ent1 vs).length + 1; omega
    | retAddr p => show 1 + _ = (ent1 vs).length + 1; omega
theorem ent_LR {B0 : Nat} {g : Nat → Value} (G : gok B0 g) {vs : List Value} {n : Nat} (hn : (ent1 vs).length ≤ n) : LR g ((lg_sl (vs.map (enc g)) ++ List.replicate (n - (lg_sl (vs.map (enc g))).length) Slot.unset).toArray) (entL vs n) ∧ (entL vs n).length = n := by
  have hlen : (entL vs n).length = n := by unfold entL; rw [List.length_append, List.length_replicate]; omega
  have h1 := lv_entry (vs.map (enc g)) (n := n) (by rw [ent_len G]; exact hn)
  refine ⟨⟨by rw [h1.1, hlen], h1.2.1, fun i v hi hv => ?_⟩, hlen⟩
  unfold entL at hi
  by_cases hlt : i < (ent1 vs).length
  · rw [List.getElem?_append_left hlt] at hi
    rw [List.getElem?_toArray, List.getElem?_append_left (by rw [ent_len G]; exact hlt)]
    exact ent_at G vs i v hi hv.1
  · rw [List.getElem?_append_right (by omega)] at hi
    have := List.eq_of_mem_replicate (List.mem_of_getElem? hi)
    exact absurd this (hv.1 0)
-- a contract out of a walk, also for Math's methods that no entry of the machine's own overrides
theorem Met.ofWF {l : Launch} {y : MethodName} {ws ws' : List Jvm.Cond} {rm : Room} {Pc : Array Value → State → Prop} {Qc : Array Value → State → Outcome → State → Prop} {mc ms : Nat} {free : Addr → Prop} {cc : ByteArray} {maxL : Nat} {ret : Option FieldType}
    (hy : plainFor y = true) (hw : ws = Jvm.Cond.code y cc maxL ret :: ws')
    (body : ∀ p e s m args below meth c s₁, BodyLoose p l y (headSpec ws rm) cc maxL ret e s m args below meth c s₁ → c.maxLocals = maxL → Pc args s →
      W p l e (headSpec ws rm).room s m args below meth c s.heap [] 0 0 (MQ below Qc args s mc ms free) (entryFrame m args maxL)) : Met l y ws rm Pc Qc mc ms free := by
  refine MetFree.of_bodySF (code := cc) (maxLocals := maxL) (ret := ret) hy ?_ ?_
  · intro args s m h hn
    obtain ⟨meth, c, h1, h2, h3, h4, h5, h6, -, -⟩ := Cond.code_spec hn (atoms_spec (ws := ws) h _ (by rw [hw]; exact List.mem_cons_self))
    exact ⟨meth, c, h1, h2, h3, h4, h5, h6⟩
  · intro p e s m args below meth c s₁ B hml hP _
    have hh0 : s₁.heap = s.heap := by rw [B.state]; rfl
    obtain ⟨t, a1, o, b1, b2, b3⟩ := body p e s m args below meth c s₁ B hml hP s₁ hh0 (Stand.of_body B)
    exact ⟨t, o, a1, b1, b2, ⟨b3.1, b3.2⟩⟩
-- what is no end
theorem go_r {pc : Nat} {L st : List Value} {h : AH} {x : (Nat × List Value × List Value) ⊕ Option Value} (q : go pc L st h = some (.inr x)) : False := by unfold go at q; cases q
theorem ldI_r {i pc : Nat} {L st : List Value} {h : AH} {x : (Nat × List Value × List Value) ⊕ Option Value} (q : ldI L i pc st h = some (.inr x)) : False := by
  unfold ldI at q
  split at q
  · exact go_r q
  · cases q
theorem ldR_r {i pc : Nat} {L st : List Value} {h : AH} {x : (Nat × List Value × List Value) ⊕ Option Value} (q : ldR L i pc st h = some (.inr x)) : False := by
  unfold ldR at q
  split at q
  · exact go_r q
  · cases q
theorem ldJ_r {i pc : Nat} {L st : List Value} {h : AH} {x : (Nat × List Value × List Value) ⊕ Option Value} (q : ldJ L i pc st h = some (.inr x)) : False := by
  unfold ldJ at q
  split at q
  · exact go_r q
  · cases q
theorem stV_r {i pc : Nat} {v : Value} {L st : List Value} {h : AH} {x : (Nat × List Value × List Value) ⊕ Option Value} (q : stV L i pc v st h = some (.inr x)) : False := by
  unfold stV at q
  exact go_r (cond_inj q).2
theorem stJ_r {i pc : Nat} {v : Value} {L st : List Value} {h : AH} {x : (Nat × List Value × List Value) ⊕ Option Value} (q : stJ L i pc v st h = some (.inr x)) : False := by
  unfold stJ at q
  exact go_r (cond_inj q).2
theorem psh_r {v : Option Value} {pc : Nat} {L st : List Value} {h : AH} {x : (Nat × List Value × List Value) ⊕ Option Value} (q : psh v pc L st h = some (.inr x)) : False := by
  unfold psh at q
  split at q
  · exact go_r q
  · cases q
theorem brI_r {c : Prop} [Decidable c] {pc len : Nat} {aux : List Nat} {L st : List Value} {h : AH} {x : (Nat × List Value × List Value) ⊕ Option Value} (q : brI c pc len aux L st h = some (.inr x)) : False := by
  unfold brI at q
  split at q
  · split at q <;> exact go_r q
  · cases q
theorem ifC_r {c : Jvm.ClassFile.Cond} {z : Int32} {pc len : Nat} {aux : List Nat} {L st : List Value} {h : AH} {x : (Nat × List Value × List Value) ⊕ Option Value} (q : ifC c z pc len aux L st h = some (.inr x)) : False := by
  unfold ifC at q
  split at q <;> exact brI_r q
theorem icC_r {c : Jvm.ClassFile.Cond} {z w : Int32} {pc len : Nat} {aux : List Nat} {L st : List Value} {h : AH} {x : (Nat × List Value × List Value) ⊕ Option Value} (q : icC c z w pc len aux L st h = some (.inr x)) : False := by
  unfold icC at q
  split at q <;> exact brI_r q
theorem putF_r {c k kd pc a : Nat} {v : Value} {L st : List Value} {h : AH} {x : (Nat × List Value × List Value) ⊕ Option Value} (q : putF c k kd pc L v a st h = some (.inr x)) : False := by
  unfold putF at q
  split at q <;> first | exact go_r (gd_inj q).2 | cases q
theorem call_r {aux : List Nat} {pc len : Nat} {L st : List Value} {h : AH} {x : Option Value} (q : call aux pc len L st h = some (.inr (.inr x))) : False := by
  unfold call at q
  split at q
  · have := (cond_inj q).2; cases this
  · split at q
    · have := (gd_inj (cond_inj q).2).2; cases this
    · cases q
  · exact go_r (gd_inj (cond_inj q).2).2
  · exact go_r (gd_inj (cond_inj q).2).2
  · exact go_r (gd_inj (cond_inj q).2).2
  · cases q
-- ends
theorem ret_W {B0 : Nat} {g : Nat → Value} {dC : Nat → ClassId} {dI : Nat → Nat → Nat} {dA : Nat → ClassId} {H0 : Heap} {p : Program} {l : Launch} {e : Env} {R : Room} {s : State} {m : MethodId} {args : Array Value} {below : List Frame} {meth : Method} {c : Code} {bytes : ByteArray} {ret : Option FieldType} {own : String} {ini : Bool} {ins : Instr} {len pc mc ms : Nat} {aux : List Nat} {L st : List Value} {h : AH} {ls : Array Slot} {H : Heap} {locs : List Loc} {cells slots : Nat} {v : Option Value}
    (G : gok B0 g) (hx : p.tables.exec = Jvm.exec) (hb : c.code = bytes) (hd : decode bytes pc = .ok (ins, len)) (hok : okI own ini ret pc ins len aux = true) (hs : step1 ins len aux pc L st h = some (.inr (.inr v))) (hH : HR B0 g dC dI dA H0 h H) (hlo : ∀ q ∈ locs, B0 ≤ q.base) (hc : cells ≤ mc) (hsl : slots ≤ ms) (hr : meth.sig.returnType = ret) (hlocks : meth.locks = false) :
    W p l e R s m args below meth c H locs cells slots (MQ below (QcD B0 g dC dI dA H0 v h) args s mc ms (fun q => B0 ≤ q)) (F0 m pc ls (st.map (enc g))) := by
  refine W.widen hc hsl ?_
  cases ins with
  | ireturn =>
    simp only [okI, Bool.and_eq_true] at hok
    obtain ⟨hok1, hok⟩ := hok
    obtain rfl := bq hok1
    simp only [step1] at hs
    split at hs
    · rename_i k r x
      obtain ⟨hp, hs⟩ := gd_inj hs
      cases hs
      have fin : ∀ ty, ret = some ty → narrow ty (.int x) = .int x → W p l e R s m args below meth c H locs mc ms (MQ below (QcD B0 g dC dI dA H0 (some (.int x)) h) args s mc ms (fun q => B0 ≤ q)) (F0 m pc ls ([Value.int x].map (enc g))) := by
        intro ty hty hn
        exact W.zret hx hb (by rw [hr]; exact hty) hn (fun t ht _ => ⟨rfl, by rw [ht]; exact hH⟩) hlo hd hlocks
      unfold okRet at hok
      split at hok
      · exact fin _ rfl rfl
      · rename_i e; cases e
        rcases hp.1 rfl with q | q <;> exact fin _ rfl (by rw [q]; rfl)
      · rename_i e; cases e
        exact fin _ rfl (by show Value.int _ = _; rw [hp.2.1 rfl])
      · rename_i e; cases e
        exact fin _ rfl (by show Value.int _ = _; rw [hp.2.2 rfl])
      · cases hok
    · cases hs
  | areturn =>
    simp only [okI, Bool.and_eq_true] at hok
    obtain ⟨hok1, hok⟩ := hok
    obtain rfl := bq hok1
    simp only [step1] at hs
    split at hs
    · rename_i x
      cases hs
      have fin : ∀ ty, ret = some ty → ((∃ n, ty = .object n) ∨ ∃ t, ty = .array t) → W p l e R s m args below meth c H locs mc ms (MQ below (QcD B0 g dC dI dA H0 (some (.ref x)) h) args s mc ms (fun q => B0 ≤ q)) (F0 m pc ls ([Value.ref x].map (enc g))) := by
        intro ty hty hn
        exact W.aret (v := g x) hx hb (by rw [hr]; exact hty) hn (G.2.2 x) (fun t ht _ => ⟨rfl, by rw [ht]; exact hH⟩) hlo hd hlocks
      split at hok
      · exact fin _ rfl (Or.inl ⟨_, rfl⟩)
      · exact fin _ rfl (Or.inr ⟨_, rfl⟩)
      · cases hok
    · cases hs
  | lreturn =>
    simp only [okI, Bool.and_eq_true] at hok
    obtain ⟨hok1, hok⟩ := hok
    obtain rfl := bq hok1
    simp only [step1] at hs
    split at hs
    · cases hs
      exact W.lret hx hb (by rw [hr]; exact of_decide_eq_true hok) (fun t ht _ => ⟨rfl, by rw [ht]; exact hH⟩) hlo hd hlocks
    · cases hs
  | dreturn =>
    simp only [okI, Bool.and_eq_true] at hok
    obtain ⟨hok1, hok⟩ := hok
    obtain rfl := bq hok1
    simp only [step1] at hs
    split at hs
    · cases hs
      exact W.dret hx hb (by rw [hr]; exact of_decide_eq_true hok) (fun t ht _ => ⟨rfl, by rw [ht]; exact hH⟩) hlo hd hlocks
    · cases hs
  | return_ =>
    simp only [okI, Bool.and_eq_true] at hok
    obtain ⟨hok1, hok⟩ := hok
    obtain rfl := bq hok1
    simp only [step1] at hs
    split at hs
    · cases hs
      exact W.vret hx hb (by rw [hr]; exact of_decide_eq_true hok) (fun t ht _ => ⟨rfl, by rw [ht]; exact hH⟩) hlo hd hlocks
    · cases hs
  | _ =>
    exfalso
    simp only [step1] at hs
    first
      | cases hs
      | exact go_r hs
      | exact ldI_r hs
      | exact ldR_r hs
      | exact ldJ_r hs
      | exact psh_r hs
      | exact call_r hs
      | (split at hs <;> first | cases hs | exact go_r hs | exact stV_r hs | exact stJ_r hs | exact ifC_r hs | exact icC_r hs | exact putF_r hs | exact go_r (gd_inj hs).2 | exact go_r (cond_inj hs).2)
-- behind a call
theorem W_call {B0 : Nat} {g : Nat → Value} {dC : Nat → ClassId} {dI : Nat → Nat → Nat} {dA : Nat → ClassId} {H0 : Heap} {p : Program} {l : Launch} {e : Env} {R : Room} {s : State} {m : MethodId} {args : Array Value} {below : List Frame} {meth : Method} {c : Code} {Q : State → Prop} {pc mc ms : Nat} {st0 rest : List Value} {h1 : AH} {ls : Array Slot} {H : Heap} {locs : List Loc} {cells slots : Nat} {v : Option Value} {a : Array Value}
    (hr : va_Run p l e R s m args below meth c H locs cells slots mc ms (F0 m pc ls st0) rest (QcD B0 g dC dI dA H0 v h1 a) (fun q => B0 ≤ q)) (hlo : ∀ q ∈ locs, B0 ≤ q.base)
    (kk : ∀ (H1 : Heap) (locs1 : List Loc), HR B0 g dC dI dA H0 h1 H1 → (∀ q ∈ locs1, B0 ≤ q.base) → W p l e R s m args below meth c H1 locs1 (cells + mc) (slots + ms) Q (F0 m (pc + 3) ls ((v.map (enc g)).toList ++ rest))) : W p l e R s m args below meth c H locs cells slots Q (F0 m pc ls st0) := by
  intro T hTT X
  obtain ⟨v', st₀, t, T', L, h0, X', hL', e1, e2, ⟨hq1, hq2⟩, st⟩ := hr T hTT X
  have hv : v' = v.map (enc g) := Outcome.returned.inj hq1
  subst hv
  obtain ⟨t2, a1, b1⟩ := kk T'.heap (locs ++ L) (by rw [e1]; exact hq2) (fun q hq => by
    rcases List.mem_append.mp hq with h | h
    · exact hlo q h
    · exact hL' q h) T' rfl X'
  exact ⟨t2, st t2 a1, b1⟩

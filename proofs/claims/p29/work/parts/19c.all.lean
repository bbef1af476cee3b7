/-! 19c SOUNDNESS: every instruction, every run, every method -/
def SFx (L L' : List Value) (h h' : AH) : Prop := hN h ≤ hN h' ∧ hU h ≤ hU h' ∧ L'.length = L.length
section
variable {pc pc' : Nat} {L L' st st' : List Value} {h h' h1 : AH}
theorem go_sf (hs : go pc L st h1 = some (.inl (pc', L', st', h'))) (k1 : hN h ≤ hN h1) (k2 : hU h ≤ hU h1) : SFx L L' h h' := by
  obtain ⟨-, rfl, -, rfl⟩ := go_inj hs
  exact ⟨k1, k2, rfl⟩
theorem go_sf0 (hs : go pc L st h = some (.inl (pc', L', st', h'))) : SFx L L' h h' := go_sf hs (Nat.le_refl _) (Nat.le_refl _)
theorem ldI_sf {i : Nat} (hs : ldI L i pc st h = some (.inl (pc', L', st', h'))) : SFx L L' h h' := by
  unfold ldI at hs
  split at hs
  · exact go_sf0 hs
  · cases hs
theorem ldR_sf {i : Nat} (hs : ldR L i pc st h = some (.inl (pc', L', st', h'))) : SFx L L' h h' := by
  unfold ldR at hs
  split at hs
  · exact go_sf0 hs
  · cases hs
theorem ldJ_sf {i : Nat} (hs : ldJ L i pc st h = some (.inl (pc', L', st', h'))) : SFx L L' h h' := by
  unfold ldJ at hs
  split at hs
  · exact go_sf0 hs
  · cases hs
theorem stV_sf {i : Nat} {v : Value} (hs : stV L i pc v st h = some (.inl (pc', L', st', h'))) : SFx L L' h h' := by
  obtain ⟨-, -, rfl, -, rfl⟩ := stV_inj hs
  exact ⟨Nat.le_refl _, Nat.le_refl _, List.length_set⟩
theorem stJ_sf {i : Nat} {v : Value} (hs : stJ L i pc v st h = some (.inl (pc', L', st', h'))) : SFx L L' h h' := by
  obtain ⟨-, -, rfl, -, rfl⟩ := stJ_inj hs
  exact ⟨Nat.le_refl _, Nat.le_refl _, by rw [List.length_set, List.length_set]⟩
theorem psh_sf {v : Option Value} (hs : psh v pc L st h = some (.inl (pc', L', st', h'))) : SFx L L' h h' := by
  unfold psh at hs
  split at hs
  · exact go_sf0 hs
  · cases hs
theorem brI_sf {c : Prop} [Decidable c] {len : Nat} {aux : List Nat} (hs : brI c pc len aux L st h = some (.inl (pc', L', st', h'))) : SFx L L' h h' := by
  unfold brI at hs
  split at hs
  · split at hs <;> exact go_sf0 hs
  · cases hs
theorem ifC_sf {c : Jvm.ClassFile.Cond} {z : Int32} {len : Nat} {aux : List Nat} (hs : ifC c z pc len aux L st h = some (.inl (pc', L', st', h'))) : SFx L L' h h' := by
  unfold ifC at hs
  split at hs <;> exact brI_sf hs
theorem icC_sf {c : Jvm.ClassFile.Cond} {z w : Int32} {len : Nat} {aux : List Nat} (hs : icC c z w pc len aux L st h = some (.inl (pc', L', st', h'))) : SFx L L' h h' := by
  unfold icC at hs
  split at hs <;> exact brI_sf hs
theorem putF_sf {c k kd a : Nat} {v : Value} (hs : putF c k kd pc L v a st h = some (.inl (pc', L', st', h'))) : SFx L L' h h' := by
  unfold putF at hs
  split at hs
  · exact go_sf (gd_inj hs).2 (Nat.le_refl _) (Nat.le_refl _)
  · exact go_sf (gd_inj hs).2 (Nat.le_refl _) (Nat.le_refl _)
  · exact go_sf (gd_inj hs).2 (Nat.le_refl _) (Nat.le_refl _)
  · exact go_sf (gd_inj hs).2 (Nat.le_refl _) (Nat.le_refl _)
  · exact go_sf (gd_inj hs).2 (Nat.le_refl _) (Nat.le_refl _)
  · exact go_sf (gd_inj hs).2 (Nat.le_refl _) (Nat.le_refl _)
  · cases hs
theorem call_sf {aux : List Nat} {len : Nat} (hs : call aux pc len L st h = some (.inl (pc', L', st', h'))) : SFx L L' h h' := by
  rcases call_inl hs with ⟨_, _, _, _, _, -, -, -, -, -, rfl, -, rfl⟩ | ⟨_, _, _, _, _, _, _, -, -, -, -, -, rfl, -, rfl⟩ | ⟨_, _, _, -, -, -, -, -, rfl, -, rfl⟩
  · exact ⟨Nat.le_refl _, Nat.le_refl _, rfl⟩
  · exact ⟨Nat.le_refl _, Nat.le_refl _, rfl⟩
  · exact ⟨Nat.le_succ _, Nat.le_add_right _ _, rfl⟩
theorem step_sf {ins : Instr} {len : Nat} {aux : List Nat} (hs : step1 ins len aux pc L st h = some (.inl (pc', L', st', h'))) : SFx L L' h h' := by
  cases ins with
  | new k =>
    simp only [step1] at hs
    split at hs
    · exact go_sf hs (Nat.le_succ _) (Nat.le_add_right _ _)
    · cases hs
  | newarray k =>
    simp only [step1] at hs
    split at hs
    · exact go_sf (gd_inj hs).2 (Nat.le_succ _) (Nat.le_add_right _ _)
    · cases hs
  | anewarray k =>
    simp only [step1] at hs
    split at hs
    · exact go_sf (gd_inj hs).2 (Nat.le_succ _) (Nat.le_add_right _ _)
    · cases hs
  | multianewarray k n =>
    simp only [step1] at hs
    split at hs
    · rename_i z r
      exact go_sf (gd_inj hs).2 (by show hN h ≤ hN h + 1 + ix z; omega) (Nat.le_add_right _ _)
    · cases hs
  | _ =>
    simp only [step1] at hs
    first
      | exact go_sf0 hs
      | (cases hs; done)
      | exact ldI_sf hs
      | exact ldR_sf hs
      | exact ldJ_sf hs
      | exact psh_sf hs
      | exact call_sf hs
      | (split at hs <;> first | exact go_sf0 hs | (cases hs; done) | exact stV_sf hs | exact stJ_sf hs | exact ifC_sf hs | exact icC_sf hs | exact putF_sf hs | exact go_sf (gd_inj hs).2 (Nat.le_refl _) (Nat.le_refl _) | exact go_sf0 (cond_inj hs).2 | (have hz := (gd_inj hs).2; cases hz))
end
theorem sw_inv {ins : Instr} {idx : Nat} {virt stat : Bool} (hst : ∀ len aux pc L st h, step1 ins len aux pc L st h = call aux pc len L st h) (hokI : ∀ own ini ret pc len aux, okI own ini ret pc ins len aux = okInv own idx len virt stat aux) (hins : (virt = true ∧ stat = false ∧ ins = .invokevirtual idx) ∨ (virt = false ∧ stat = true ∧ ins = .invokestatic idx) ∨ (virt = false ∧ stat = false ∧ ins = .invokespecial idx)) : SW ins := by
  intro B0 g dC dI dA H0 p l e R s m args below meth c Q y bytes ret len aux pc L st h pc' L' st' h' ls H locs cells slots G X hd hok hs hL hH hlo hc hsl hfr hll k
  rw [hst] at hs
  rw [hokI] at hok
  rcases call_inl hs with ⟨r, cc, rest, a, st1, rfl, rfl, q1, q2, rfl, rfl, rfl, rfl⟩ | ⟨rest, n, dp, b, sp, a, st1, rfl, rfl, q1, q2, rfl, rfl, rfl, rfl⟩ | ⟨rest, a, st1, rfl, rfl, q1, q2, rfl, rfl, rfl, rfl⟩
  · obtain ⟨rfl, v1, v2, v3, v4⟩ := okInv_1 hok
    subst v1 v2
    rcases hins with ⟨z, -, -⟩ | ⟨-, z, -⟩ | ⟨-, -, rfl⟩
    · cases z
    · cases z
    · exact obj_W G X hd v3 hL hH hlo hfr hll q2 v4 q1 k
  · obtain ⟨rfl, v1, r, v2⟩ := okInv_2 hok
    subst v1
    rcases hins with ⟨-, z, -⟩ | ⟨-, -, rfl⟩ | ⟨-, z, -⟩
    · cases z
    · obtain ⟨u1, u2, u3, u4, u5, u6, u7, u8⟩ := q2
      exact copy_W G X hd v2 hL hH hlo hfr hll q1 u1 u2 u3 u4 u5 u6 u7 u8 k
    · cases z
  · obtain ⟨rfl, v1, r, v2⟩ := okInv_3 hok
    subst v1
    rcases hins with ⟨-, -, rfl⟩ | ⟨z, -, -⟩ | ⟨z, -, -⟩
    · exact clone_W G X hd v2 hL hH hlo hfr hll q1 q2 hc hsl k
    · cases z
    · cases z
theorem sw_invokevirtual (idx : Nat) : SW (.invokevirtual idx) := sw_inv (idx := idx) (virt := true) (stat := false) (fun _ _ _ _ _ _ => rfl) (fun _ _ _ _ _ _ => rfl) (Or.inl ⟨rfl, rfl, rfl⟩)
theorem sw_invokestatic (idx : Nat) : SW (.invokestatic idx) := sw_inv (idx := idx) (virt := false) (stat := true) (fun _ _ _ _ _ _ => rfl) (fun _ _ _ _ _ _ => rfl) (Or.inr (Or.inl ⟨rfl, rfl, rfl⟩))
theorem sw_invokespecial (idx : Nat) : SW (.invokespecial idx) := sw_inv (idx := idx) (virt := false) (stat := false) (fun _ _ _ _ _ _ => rfl) (fun _ _ _ _ _ _ => rfl) (Or.inr (Or.inr ⟨rfl, rfl, rfl⟩))
theorem sw_all (ins : Instr) : SW ins := by
  cases ins with
  | iadd => exact sw_iadd
  | isub => exact sw_isub
  | imul => exact sw_imul
  | idiv => exact sw_idiv
  | irem => exact sw_irem
  | ineg => exact sw_ineg
  | iand => exact sw_iand
  | ior => exact sw_ior
  | ixor => exact sw_ixor
  | ishl => exact sw_ishl
  | ishr => exact sw_ishr
  | ladd => exact sw_ladd
  | lshl => exact sw_lshl
  | lcmp => exact sw_lcmp
  | i2b => exact sw_i2b
  | i2c => exact sw_i2c
  | i2l => exact sw_i2l
  | i2d => exact sw_i2d
  | ddiv => exact sw_ddiv
  | dcmp op => exact sw_dcmp op
  | iconst n => exact sw_iconst n
  | bipush n => exact sw_bipush n
  | sipush n => exact sw_sipush n
  | lconst n => exact sw_lconst n
  | dconst n => exact sw_dconst n
  | aconst_null => exact sw_aconst_null
  | iload_n n => exact sw_iload_n n
  | iload n => exact sw_iload n
  | lload_n n => exact sw_lload_n n
  | lload n => exact sw_lload n
  | aload_n n => exact sw_aload_n n
  | aload n => exact sw_aload n
  | istore_n n => exact sw_istore_n n
  | istore n => exact sw_istore n
  | lstore_n n => exact sw_lstore_n n
  | lstore n => exact sw_lstore n
  | astore_n n => exact sw_astore_n n
  | astore n => exact sw_astore n
  | iinc i n => exact sw_iinc i n
  | dup => exact sw_dup
  | pop => exact sw_pop
  | dup2 => exact sw_dup2
  | dup_x1 => exact sw_dup_x1
  | ifCond c o => exact sw_ifCond c o
  | if_icmp c o => exact sw_if_icmp c o
  | goto o => exact sw_goto o
  | ifnonnull o => exact sw_ifnonnull o
  | tableswitch a b c d => exact sw_tableswitch a b c d
  | lookupswitch a b => exact sw_lookupswitch a b
  | getfield k => exact sw_getfield k
  | putfield k => exact sw_putfield k
  | iaload => exact sw_iaload
  | baload => exact sw_baload
  | laload => exact sw_laload
  | aaload => exact sw_aaload
  | iastore => exact sw_iastore
  | bastore => exact sw_bastore
  | lastore => exact sw_lastore
  | aastore => exact sw_aastore
  | arraylength => exact sw_arraylength
  | checkcast k => exact sw_checkcast k
  | ldc k => exact sw_ldc k
  | ldc_w k => exact sw_ldc_w k
  | getstatic k => exact sw_getstatic k
  | new k => exact sw_new k
  | newarray k => exact sw_newarray k
  | anewarray k => exact sw_anewarray k
  | multianewarray a b => exact sw_multianewarray a b
  | invokevirtual k => exact sw_invokevirtual k
  | invokespecial k => exact sw_invokespecial k
  | invokestatic k => exact sw_invokestatic k
  | _ =>
    intro B0 g dC dI dA H0 p l e R s m args below meth c Q y bytes ret len aux pc L st h pc' L' st' h' ls H locs cells slots G X hd hok hs
    exfalso
    simp only [step1] at hs
    first
      | cases hs
      | (split at hs <;> first | cases hs | (have hz := (gd_inj hs).2; cases hz))

-- ===== a run =====
theorem rn_sf {C : Nat → List Value → AH → AH → Option Value → Prop} (hC : ∀ j vs h h1 v, C j vs h h1 v → hN h ≤ hN h1 ∧ hU h ≤ hU h1) {i : Nat} : ∀ (n pc : Nat) (L st : List Value) (h h' : AH) (r : Option Value), Rn tb C n i pc L st h h' r → hN h ≤ hN h' ∧ hU h ≤ hU h' := by
  intro n
  induction n with
  | zero => intro pc L st h h' r k; exact k.elim
  | succ n ih =>
    intro pc L st h h' r k
    unfold Rn at k
    cases ht : tb i pc with
    | none => rw [ht] at k; exact k.elim
    | some q =>
      obtain ⟨ins, len, aux⟩ := q
      rw [ht] at k
      dsimp only at k
      cases hs : step1 ins len aux pc L st h with
      | none => rw [hs] at k; exact k.elim
      | some a =>
        rw [hs] at k
        match a, k, hs with
        | .inl (pc', L', st', h1), k, hs =>
          obtain ⟨k1, k2, -⟩ := step_sf hs
          obtain ⟨k3, k4⟩ := ih _ _ _ _ _ _ k
          exact ⟨Nat.le_trans k1 k3, Nat.le_trans k2 k4⟩
        | .inr (.inl (j, vs, rest)), ⟨h1, v, k1, k2⟩, hs =>
          obtain ⟨k3, k4⟩ := hC _ _ _ _ _ k1
          obtain ⟨k5, k6⟩ := ih _ _ _ _ _ _ k2
          exact ⟨Nat.le_trans k3 k5, Nat.le_trans k4 k6⟩
        | .inr (.inr v), k, hs => rw [k.1]; exact ⟨Nat.le_refl _, Nat.le_refl _⟩
theorem call_ins {ins : Instr} {len : Nat} {aux : List Nat} {pc : Nat} {L st : List Value} {h : AH} {x : Nat × List Value × List Value} (hs : step1 ins len aux pc L st h = some (.inr (.inl x))) : (∃ k, ins = .invokevirtual k) ∨ (∃ k, ins = .invokestatic k) ∨ ∃ k, ins = .invokespecial k := by
  cases ins with
  | invokevirtual k => exact Or.inl ⟨k, rfl⟩
  | invokestatic k => exact Or.inr (Or.inl ⟨k, rfl⟩)
  | invokespecial k => exact Or.inr (Or.inr ⟨k, rfl⟩)
  | _ =>
    exfalso
    simp only [step1] at hs
    first
      | exact go_r hs
      | (cases hs; done)
      | exact ldI_r hs
      | exact ldR_r hs
      | exact ldJ_r hs
      | exact psh_r hs
      | (split at hs <;> first | exact go_r hs | (cases hs; done) | exact stV_r hs | exact stJ_r hs | exact ifC_r hs | exact icC_r hs | exact putF_r hs | exact go_r (gd_inj hs).2 | exact go_r (cond_inj hs).2 | (have hz := (gd_inj hs).2; cases hz))
section
variable {B0 : Nat} {g : Nat → Value} {dC : Nat → ClassId} {dI : Nat → Nat → Nat} {dA : Nat → ClassId} {H0 : Heap} {p : Program} {l : Launch} {e : Env} {R : Room} {s : State} {m : MethodId} {args : Array Value} {below : List Frame} {meth : Method} {c : Code} {Q : State → Prop} {y : MethodName} {bytes : ByteArray} {ret : Option FieldType} {hints : List Nat} {i d mL' nL mc ms : Nat} {C : Nat → List Value → AH → AH → Option Value → Prop}
theorem run_W (G : gok B0 g) (hm : mdOf i = some (y, bytes, mL', ret, hints)) (hC : ∀ j vs h h1 v, C j vs h h1 v → CMet B0 g dC dI dA H0 d j vs h h1 v) (X : Cx B0 g dC dI dA H0 p s m args meth c y bytes nL) (hfr : d + 1 ≤ R.frames) (hll : d * 80 + 80 ≤ R.locals) (hmc : mc ≤ R.cells) (hms : ms ≤ R.slots) {h' : AH} {r : Option Value}
    (hret : ∀ (ins : Instr) (len : Nat) (aux : List Nat) (pc : Nat) (L st : List Value) (ls : Array Slot) (H : Heap) (locs : List Loc) (cells slots : Nat), decode bytes pc = .ok (ins, len) → okI y.cls (decide (y.name = "<init>")) ret pc ins len aux = true → step1 ins len aux pc L st h' = some (.inr (.inr r)) → HR B0 g dC dI dA H0 h' H → (∀ q ∈ locs, B0 ≤ q.base) → cells ≤ mc → slots ≤ ms → W p l e R s m args below meth c H locs cells slots Q (F0 m pc ls (st.map (enc g)))) :
    ∀ (n pc : Nat) (L st : List Value) (h : AH), Rn tb C n i pc L st h h' r → L.length = nL → ∀ (ls : Array Slot) (H : Heap) (locs : List Loc) (cells slots : Nat), LR g ls L → HR B0 g dC dI dA H0 h H → (∀ q ∈ locs, B0 ≤ q.base) → cells + (hN h' - hN h) ≤ mc → slots + (hU h' - hU h) ≤ ms → W p l e R s m args below meth c H locs cells slots Q (F0 m pc ls (st.map (enc g))) := by
  have hCm : ∀ j vs h h1 v, C j vs h h1 v → hN h ≤ hN h1 ∧ hU h ≤ hU h1 := fun j vs h h1 v q => ⟨(hC j vs h h1 v q).1, (hC j vs h h1 v q).2.1⟩
  intro n
  induction n with
  | zero => intro pc L st h k; exact k.elim
  | succ n ih =>
    intro pc L st h k hlen ls H locs cells slots hLr hH hlo hcl hsl
    unfold Rn at k
    cases ht : tb i pc with
    | none => rw [ht] at k; exact k.elim
    | some q =>
      obtain ⟨ins, len, aux⟩ := q
      obtain ⟨-, y2, b2, m2, r2, hi2, hm2, hrow⟩ := tb_ok ht
      cases hm.symm.trans hm2
      unfold okRow at hrow
      rw [Bool.and_eq_true] at hrow
      have hd := of_decide_eq_true hrow.1
      have hok := hrow.2
      dsimp only at hd hok
      rw [ht] at k
      dsimp only at k
      cases hs : step1 ins len aux pc L st h with
      | none => rw [hs] at k; exact k.elim
      | some a =>
        rw [hs] at k
        match a, k, hs with
        | .inl (pc', L', st', h1), k, hs =>
          obtain ⟨k1, k2, k3⟩ := step_sf hs
          obtain ⟨k4, k5⟩ := rn_sf hCm n _ _ _ _ _ _ k
          refine sw_all ins B0 g dC dI dA H0 p l e R s m args below meth c Q y bytes ret len aux pc L st h pc' L' st' h1 ls H locs cells slots G (by rw [hlen]; exact X) hd hok hs hLr hH hlo (by omega) (by omega) (by omega) (by omega) (fun ls' H' locs' z1 z2 z3 => ?_)
          exact ih pc' L' st' h1 k (by rw [k3, hlen]) ls' H' locs' _ _ z1 z2 z3 (by omega) (by omega)
        | .inr (.inl (j, vs, rest)), ⟨h1, v, k1, k2⟩, hs =>
          have hCM := hC _ _ _ _ _ k1
          obtain ⟨k3, k4⟩ := hCm _ _ _ _ _ k1
          obtain ⟨k5, k6⟩ := rn_sf hCm n _ _ _ _ _ _ k2
          have fin : ∀ (H1 : Heap) (locs1 : List Loc), HR B0 g dC dI dA H0 h1 H1 → (∀ q ∈ locs1, B0 ≤ q.base) → W p l e R s m args below meth c H1 locs1 (cells + (hN h1 - hN h)) (slots + (hU h1 - hU h)) Q (F0 m (pc + 3) ls ((v.toList ++ rest).map (enc g))) := fun H1 locs1 z1 z2 => ih (pc + 3) L _ h1 k2 hlen ls H1 locs1 _ _ hLr z1 z2 (by omega) (by omega)
          rcases call_ins hs with ⟨kk, rfl⟩ | ⟨kk, rfl⟩ | ⟨kk, rfl⟩
          · exact call_W (virt := true) (stat := false) (idx := kk) G (by rw [hlen]; exact X) (Or.inl ⟨rfl, rfl, rfl⟩) hd hok hs hCM hLr hH hlo hfr hll (by omega) (by omega) fin
          · exact call_W (virt := false) (stat := true) (idx := kk) G (by rw [hlen]; exact X) (Or.inr (Or.inl ⟨rfl, rfl, rfl⟩)) hd hok hs hCM hLr hH hlo hfr hll (by omega) (by omega) fin
          · exact call_W (virt := false) (stat := false) (idx := kk) G (by rw [hlen]; exact X) (Or.inr (Or.inr ⟨rfl, rfl, rfl⟩)) hd hok hs hCM hLr hH hlo hfr hll (by omega) (by omega) fin
        | .inr (.inr v), k, hs =>
          obtain ⟨rfl, rfl⟩ := k
          exact hret ins len aux pc L st ls H locs cells slots hd hok hs hH hlo (by omega) (by omega)
end

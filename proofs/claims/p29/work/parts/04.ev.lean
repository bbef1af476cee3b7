/-! 04 ROWS OF A RUN: what brings the machine on -/
def stp (i : Nat) : Fr → Option Act
  | (pc, L, st, h) => match tb i pc with
    | none => none
    | some (ins, len, aux) => step1 ins len aux pc L st h
def its : Nat → Nat → Fr → Option Fr
  | 0, _, f => some f
  | n + 1, i, f => match stp i f with
    | some (.inl f') => its n i f'
    | _ => none
def Eb (C : Nat → List Value → AH → AH → Option Value → Prop) (i : Nat) (f : Fr) (h' : AH) (r : Option Value) : Prop := ∃ n, Rn tb C n i f.1 f.2.1 f.2.2.1 f.2.2.2 h' r
section
variable {C : Nat → List Value → AH → AH → Option Value → Prop} {i : Nat} {f f' f1 f2 : Fr} {h' : AH} {r : Option Value}
theorem rn_s (n : Nat) (hs : stp i f = some (.inl f')) (k : Rn tb C n i f'.1 f'.2.1 f'.2.2.1 f'.2.2.2 h' r) : Rn tb C (n + 1) i f.1 f.2.1 f.2.2.1 f.2.2.2 h' r := by
  obtain ⟨pc, L, st, h⟩ := f
  obtain ⟨pc', L', st', h1⟩ := f'
  unfold stp at hs
  dsimp only at hs k ⊢
  unfold Rn
  cases ht : tb i pc with
  | none => rw [ht] at hs; cases hs
  | some q =>
    obtain ⟨ins, len, aux⟩ := q
    rw [ht] at hs
    dsimp only at hs ⊢
    rw [hs]
    exact k
theorem eb_1 (hs : stp i f = some (.inl f')) (k : Eb C i f' h' r) : Eb C i f h' r := by
  obtain ⟨n, hn⟩ := k
  exact ⟨n + 1, rn_s n hs hn⟩
theorem eb_n (k : Nat) : ∀ {f : Fr} (f' : Fr) (_ : its k i f = some f') (_ : Eb C i f' h' r), Eb C i f h' r := by
  induction k with
  | zero => intro f f' hs k; cases hs; exact k
  | succ k ih =>
    intro f f' hs kk
    unfold its at hs
    cases h1 : stp i f with
    | none => rw [h1] at hs; cases hs
    | some a =>
      rw [h1] at hs
      cases a with
      | inl f2 => exact eb_1 h1 (ih f' hs kk)
      | inr x => cases hs
theorem eb_g {p : Prop} [Decidable p] (f' : Fr) (hs : stp i f = gd p (some (.inl f'))) (hp : p) (k : Eb C i f' h' r) : Eb C i f h' r :=
  eb_1 (by rw [hs, gd, if_pos hp]) k
theorem eb_b {c : Prop} [Decidable c] (f1 f2 : Fr) (hs : stp i f = if c then some (.inl f1) else some (.inl f2)) (k1 : c → Eb C i f1 h' r) (k2 : ¬ c → Eb C i f2 h' r) : Eb C i f h' r := by
  by_cases hc : c
  · exact eb_1 (by rw [hs, if_pos hc]) (k1 hc)
  · exact eb_1 (by rw [hs, if_neg hc]) (k2 hc)
theorem eb_c {j : Nat} {vs rest : List Value} {h1 : AH} {v : Option Value} (hs : stp i f = some (.inr (.inl (j, vs, rest)))) (hc : C j vs f.2.2.2 h1 v) (k : Eb C i (f.1 + 3, f.2.1, v.toList ++ rest, h1) h' r) : Eb C i f h' r := by
  obtain ⟨n, hn⟩ := k
  refine ⟨n + 1, ?_⟩
  obtain ⟨pc, L, st, h⟩ := f
  unfold stp at hs
  dsimp only at hs hn hc ⊢
  unfold Rn
  cases ht : tb i pc with
  | none => rw [ht] at hs; cases hs
  | some q =>
    obtain ⟨ins, len, aux⟩ := q
    rw [ht] at hs
    dsimp only at hs ⊢
    rw [hs]
    exact ⟨h1, v, hc, hn⟩
theorem eb_cg {p : Prop} [Decidable p] {j : Nat} {vs rest : List Value} {h1 : AH} {v : Option Value} (hs : stp i f = gd p (some (.inr (.inl (j, vs, rest))))) (hp : p) (hc : C j vs f.2.2.2 h1 v) (k : Eb C i (f.1 + 3, f.2.1, v.toList ++ rest, h1) h' r) : Eb C i f h' r :=
  eb_c (by rw [hs, gd, if_pos hp]) hc k
theorem eb_r {v : Option Value} (hs : stp i f = some (.inr (.inr v))) : Eb C i f f.2.2.2 v := by
  refine ⟨1, ?_⟩
  obtain ⟨pc, L, st, h⟩ := f
  unfold stp at hs
  dsimp only at hs ⊢
  unfold Rn
  cases ht : tb i pc with
  | none => rw [ht] at hs; cases hs
  | some q =>
    obtain ⟨ins, len, aux⟩ := q
    rw [ht] at hs
    dsimp only at hs ⊢
    rw [hs]
    exact ⟨rfl, rfl⟩
theorem eb_rg {p : Prop} [Decidable p] {v : Option Value} (hs : stp i f = gd p (some (.inr (.inr v)))) (hp : p) : Eb C i f f.2.2.2 v :=
  eb_r (by rw [hs, gd, if_pos hp])
end
theorem Rn_mono {P : Nat → Nat → Option Row} {C C' : Nat → List Value → AH → AH → Option Value → Prop} (hC : ∀ j vs h h1 v, C j vs h h1 v → C' j vs h h1 v) : ∀ (n i pc : Nat) (L st : List Value) (h h' : AH) (r : Option Value), Rn P C n i pc L st h h' r → Rn P C' n i pc L st h h' r := by
  intro n
  induction n with
  | zero => intro i pc L st h h' r k; exact k.elim
  | succ n ih =>
    intro i pc L st h h' r k
    unfold Rn at k ⊢
    cases ht : P i pc with
    | none => rw [ht] at k; exact k.elim
    | some q =>
      obtain ⟨ins, len, aux⟩ := q
      rw [ht] at k
      dsimp only at k ⊢
      cases hs : step1 ins len aux pc L st h with
      | none => rw [hs] at k; exact k.elim
      | some a =>
        rw [hs] at k
        match a, k with
        | .inl (pc', L', st', h1), k => exact ih _ _ _ _ _ _ _ k
        | .inr (.inl (j, vs, rest)), ⟨h1, v, k1, k2⟩ => exact ⟨h1, v, hC _ _ _ _ _ k1, ih _ _ _ _ _ _ _ k2⟩
        | .inr (.inr v), k => exact k
theorem Ev_mono {P : Nat → Nat → Option Row} {mL : Nat → Nat} : ∀ (d : Nat) {i : Nat} {vs : List Value} {h h' : AH} {r : Option Value}, Ev P mL d i vs h h' r → Ev P mL (d + 1) i vs h h' r := by
  intro d
  induction d with
  | zero => intro i vs h h' r k; exact k.elim
  | succ d ih =>
    intro i vs h h' r k
    obtain ⟨k1, n, k2⟩ := k
    exact ⟨k1, n, Rn_mono (fun j vs h h1 v q => ih q) n _ _ _ _ _ _ _ k2⟩
theorem Ev_le {P : Nat → Nat → Option Row} {mL : Nat → Nat} {d d' : Nat} (hd : d ≤ d') {i : Nat} {vs : List Value} {h h' : AH} {r : Option Value} (k : Ev P mL d i vs h h' r) : Ev P mL d' i vs h h' r := by
  induction hd with
  | refl => exact k
  | step _ ih => exact Ev_mono _ ih
-- ===== the words of the shallow functions =====
def bn {α β : Type} (x : Option (AH × α)) (f : AH → α → Option β) : Option β := match x with
  | some (h, a) => f h a
  | none => none
def bv {β : Type} (x : Option AH) (f : AH → Option β) : Option β := match x with
  | some h => f h
  | none => none
def lq {α β : Type} (x : α) (f : α → β) : β := f x
def FU : Nat := 100000
theorem gd_some {α : Type} {p : Prop} [Decidable p] {x : Option α} {r : α} (h : gd p x = some r) : p ∧ x = some r := by
  unfold gd at h
  by_cases hp : p
  · rw [if_pos hp] at h; exact ⟨hp, h⟩
  · rw [if_neg hp] at h; cases h
theorem bn_some {α β : Type} {x : Option (AH × α)} {f : AH → α → Option β} {r : β} (h : bn x f = some r) : ∃ h1 a, x = some (h1, a) ∧ f h1 a = some r := by
  cases x with
  | none => cases h
  | some q => exact ⟨q.1, q.2, rfl, h⟩
theorem bv_some {β : Type} {x : Option AH} {f : AH → Option β} {r : β} (h : bv x f = some r) : ∃ h1, x = some h1 ∧ f h1 = some r := by
  cases x with
  | none => cases h
  | some q => exact ⟨q, rfl, h⟩
theorem lq_some {α β : Type} {x : α} {f : α → β} {r : β} (h : lq x f = r) : ∃ y, y = x ∧ f y = r := ⟨x, rfl, h⟩
theorem ite_t {α : Type} {c : Prop} [Decidable c] {a b r : α} (hc : c) (h : (if c then a else b) = r) : a = r := by rw [if_pos hc] at h; exact h
theorem ite_f {α : Type} {c : Prop} [Decidable c] {a b r : α} (hc : ¬ c) (h : (if c then a else b) = r) : b = r := by rw [if_neg hc] at h; exact h
theorem nrm_0 (x : Int32) : nrm 0 x := ⟨fun h => by omega, fun h => by omega, fun h => by omega⟩
theorem nrm_30 : nrm 3 (nI 0) := by decide
theorem nrm_31 : nrm 3 (nI 1) := by decide
-- switches
theorem tsw_out {x : Int32} {lo : Int} {n : Nat} (hlo : -2147483648 ≤ lo) (hhi : lo + n ≤ 2147483648) (h : ∀ k : Nat, k < n → ¬ x = Int32.ofInt (lo + k)) : x.toInt < lo ∨ lo + n ≤ x.toInt := by
  by_cases h1 : x.toInt < lo
  · exact Or.inl h1
  · by_cases h2 : lo + n ≤ x.toInt
    · exact Or.inr h2
    · exfalso
      refine h (x.toInt - lo).toNat (by omega) ?_
      have e : lo + ((x.toInt - lo).toNat : Int) = x.toInt := by omega
      rw [e, Int32.ofInt_toInt]
section
variable {i : Nat} {f : Fr} {x : Int32} {L st : List Value} {h : AH}
theorem tsw_d {lo : Int} {n d : Nat} {ts : List Nat} (hout : x.toInt < lo ∨ lo + n ≤ x.toInt) (hs : stp i f = go (tsw lo x (d :: ts)) L st h) (hn : n = ts.length) : stp i f = some (.inl (d, L, st, h)) := by
  rw [hs, tsw, if_pos (by rw [← hn]; exact hout)]
  rfl
theorem lsw_d {ps : List (Int × Int)} {aux : List Nat} {d : Nat} (hs : stp i f = go (lsw ps x aux) L st h) (hd : lsw ps x aux = d) : stp i f = some (.inl (d, L, st, h)) := by
  rw [hs, hd]
  rfl
theorem lsw_e {d : Nat} {ts : List Nat} : lsw [] x (d :: ts) = d := by cases ts <;> rfl
theorem lsw_c {k o : Int} {ps : List (Int × Int)} {d t : Nat} {ts : List Nat} (hk : ¬ x.toInt = k) (hr : lsw ps x (d :: ts) = d) : lsw ((k, o) :: ps) x (d :: t :: ts) = d := by
  rw [lsw, if_neg hk]
  exact hr
theorem ne_toInt {k : Nat} (hk : k < 2147483648) (hx : ¬ x = nI k) : ¬ x.toInt = (k : Int) := by
  intro h1
  apply hx
  rw [← Int32.ofInt_toInt x, h1]
  rfl
end
theorem sv_inj {a b : AH} (h : some a = some b) : b = a := (Option.some.inj h).symm
theorem sp_inj {α : Type} {a b : AH} {x y : α} (h : some (a, x) = some (b, y)) : b = a ∧ y = x := by
  have h1 := Option.some.inj h
  exact ⟨(congrArg Prod.fst h1).symm, (congrArg Prod.snd h1).symm⟩

/-! 59 L3: the cells of the law's own river (the sim at 320) -/
def sA (n m p c s : Nat) : Nat := if c = 0 then 320 else if c = 6 then 321 else if c < 11 then 326 + c else if c < 31 then 333 + n else if c < 39 then 305 + n + m + c else if c < 43 then 298 + n + m + p + c else if s = 0 then 323 else if s = 1 then 322 else if s = 2 then 324 else 325
def sS (c s : Nat) : Nat := if c = 0 then (if s = 11 then 0 else if s = 12 then 1 else if s = 15 then 2 else if s = 16 then 3 else if s = 17 then 4 else if s = 13 then 5 else 6) else if c < 11 then s else if c < 31 then (c - 11) / 5 else if c < 43 then s else c - 43
-- all static cells
def L0 (n m p b c s : Nat) : Prop := (c = 0 ∧ 11 ≤ s ∧ s ≤ 17) ∨ (c = 6 ∧ s < 12) ∨ (7 ≤ c ∧ c < 7 + n ∧ s < 3) ∨ (11 ≤ c ∧ c < 11 + 5 * m ∧ (c - 11) % 5 = 0 ∧ s = 0) ∨ (31 ≤ c ∧ c < 31 + p ∧ s < 7) ∨ (39 ≤ c ∧ c < 39 + b ∧ s < 7) ∨ (43 ≤ c ∧ c < 47 ∧ s < 4)
theorem sA_0 {n m p s : Nat} : sA n m p 0 s = 320 := rfl
theorem sA_6 {n m p s : Nat} : sA n m p 6 s = 321 := rfl
theorem sA_g {n m p i s : Nat} (hi : i < 4) : sA n m p (7 + i) s = 333 + i := by unfold sA; rw [if_neg (by omega), if_neg (by omega), if_pos (by omega)]; omega
theorem sA_h {n m p k s : Nat} (hk : k < 4) : sA n m p (11 + 5 * k) s = 333 + n := by unfold sA; rw [if_neg (by omega), if_neg (by omega), if_neg (by omega), if_pos (by omega)]
theorem sA_p {n m p i s : Nat} (hi : i < 8) : sA n m p (31 + i) s = 336 + n + m + i := by unfold sA; rw [if_neg (by omega), if_neg (by omega), if_neg (by omega), if_neg (by omega), if_pos (by omega)]; omega
theorem sA_b {n m p i s : Nat} (hi : i < 4) : sA n m p (39 + i) s = 337 + n + m + p + i := by unfold sA; rw [if_neg (by omega), if_neg (by omega), if_neg (by omega), if_neg (by omega), if_neg (by omega), if_pos (by omega)]; omega
theorem sA_q {n m p k s : Nat} : sA n m p (43 + k) s = if s = 0 then 323 else if s = 1 then 322 else if s = 2 then 324 else 325 := by unfold sA; rw [if_neg (by omega), if_neg (by omega), if_neg (by omega), if_neg (by omega), if_neg (by omega), if_neg (by omega)]
theorem sS_6 {s : Nat} : sS 6 s = s := rfl
theorem sS_g {i s : Nat} (hi : i < 4) : sS (7 + i) s = s := by unfold sS; rw [if_neg (by omega), if_pos (by omega)]
theorem sS_h {k s : Nat} (hk : k < 4) : sS (11 + 5 * k) s = k := by unfold sS; rw [if_neg (by omega), if_neg (by omega), if_pos (by omega)]; omega
theorem sS_p {i s : Nat} (hi : i < 8) : sS (31 + i) s = s := by unfold sS; rw [if_neg (by omega), if_neg (by omega), if_neg (by omega), if_pos (by omega)]
theorem sS_b {i s : Nat} (hi : i < 4) : sS (39 + i) s = s := by unfold sS; rw [if_neg (by omega), if_neg (by omega), if_neg (by omega), if_pos (by omega)]
theorem sS_q {k s : Nat} : sS (43 + k) s = k := by unfold sS; rw [if_neg (by omega), if_neg (by omega), if_neg (by omega), if_neg (by omega)]; omega
-- seven kinds of static cells: kind, number
def kd (c : Nat) : Nat := if c = 0 then 0 else if c = 6 then 1 else if c < 11 then 2 else if c < 31 then 3 else if c < 39 then 4 else if c < 43 then 5 else 6
theorem L0_cases {n m p b c s : Nat} (hN : Nm n m p b) (h : L0 n m p b c s) : (c = 0 ∧ 11 ≤ s ∧ s ≤ 17) ∨ (c = 6 ∧ s < 12) ∨ (∃ i, i < n ∧ c = 7 + i ∧ s < 3) ∨ (∃ k, k < m ∧ c = 11 + 5 * k ∧ s = 0) ∨ (∃ i, i < p ∧ c = 31 + i ∧ s < 7) ∨ (∃ i, i < b ∧ c = 39 + i ∧ s < 7) ∨ (∃ k, k < 4 ∧ c = 43 + k ∧ s < 4) := by
  unfold L0 at h
  rcases h with h | h | h | h | h | h | h
  · exact Or.inl h
  · exact Or.inr (Or.inl h)
  · exact Or.inr (Or.inr (Or.inl ⟨c - 7, by omega, by omega, h.2.2⟩))
  · exact Or.inr (Or.inr (Or.inr (Or.inl ⟨(c - 11) / 5, by omega, by omega, h.2.2.2⟩)))
  · exact Or.inr (Or.inr (Or.inr (Or.inr (Or.inl ⟨c - 31, by omega, by omega, h.2.2⟩))))
  · exact Or.inr (Or.inr (Or.inr (Or.inr (Or.inr (Or.inl ⟨c - 39, by omega, by omega, h.2.2⟩)))))
  · exact Or.inr (Or.inr (Or.inr (Or.inr (Or.inr (Or.inr ⟨c - 43, by omega, by omega, h.2.2⟩)))))
-- an inverse: from address and slot back to cell and slot
def iC (n m p a k : Nat) : Nat := if a = 320 then 0 else if a = 321 then 6 else if a < 326 then 43 + k else if a < 333 + n then a - 326 else if a = 333 + n then 11 + 5 * k else if a < 336 + n + m + p then a - (305 + n + m) else a - (298 + n + m + p)
def iS (n a k : Nat) : Nat := if a = 320 then (if k = 0 then 11 else if k = 1 then 12 else if k = 2 then 15 else if k = 3 then 16 else if k = 4 then 17 else if k = 5 then 13 else 14) else if a = 321 then k else if a < 326 then (if a = 323 then 0 else if a = 322 then 1 else if a = 324 then 2 else 3) else if a = 333 + n then 0 else k
theorem inv_S {n m p b c s : Nat} (hN : Nm n m p b) (h : L0 n m p b c s) : iC n m p (sA n m p c s) (sS c s) = c ∧ iS n (sA n m p c s) (sS c s) = s := by
  have hN' := hN
  unfold Nm at hN'
  rcases L0_cases hN h with ⟨rfl, h1, h2⟩ | ⟨rfl, h1⟩ | ⟨i, hi, rfl, h1⟩ | ⟨k, hk, rfl, rfl⟩ | ⟨i, hi, rfl, h1⟩ | ⟨i, hi, rfl, h1⟩ | ⟨k, hk, rfl, h1⟩
  · rcases (show s = 11 ∨ s = 12 ∨ s = 13 ∨ s = 14 ∨ s = 15 ∨ s = 16 ∨ s = 17 by omega) with rfl | rfl | rfl | rfl | rfl | rfl | rfl <;> exact ⟨rfl, rfl⟩
  · exact ⟨rfl, rfl⟩
  · rw [sA_g (by omega), sS_g (by omega)]
    unfold iC iS
    constructor
    · rw [if_neg (by omega), if_neg (by omega), if_neg (by omega), if_pos (by omega)]; omega
    · rw [if_neg (by omega), if_neg (by omega), if_neg (by omega), if_neg (by omega)]
  · rw [sA_h (by omega), sS_h (by omega)]
    unfold iC iS
    constructor
    · rw [if_neg (by omega), if_neg (by omega), if_neg (by omega), if_neg (by omega), if_pos rfl]
    · rw [if_neg (by omega), if_neg (by omega), if_neg (by omega), if_pos rfl]
  · rw [sA_p (by omega), sS_p (by omega)]
    unfold iC iS
    constructor
    · rw [if_neg (by omega), if_neg (by omega), if_neg (by omega), if_neg (by omega), if_neg (by omega), if_pos (by omega)]; omega
    · rw [if_neg (by omega), if_neg (by omega), if_neg (by omega), if_neg (by omega)]
  · rw [sA_b (by omega), sS_b (by omega)]
    unfold iC iS
    constructor
    · rw [if_neg (by omega), if_neg (by omega), if_neg (by omega), if_neg (by omega), if_neg (by omega), if_neg (by omega)]; omega
    · rw [if_neg (by omega), if_neg (by omega), if_neg (by omega), if_neg (by omega)]
  · rw [sA_q, sS_q]
    rcases (show s = 0 ∨ s = 1 ∨ s = 2 ∨ s = 3 by omega) with rfl | rfl | rfl | rfl <;> exact ⟨rfl, rfl⟩
theorem inj_S {n m p b c s c' s' : Nat} (hN : Nm n m p b) (h : L0 n m p b c s) (h' : L0 n m p b c' s') (e : sA n m p c' s' = sA n m p c s ∧ sS c' s' = sS c s) : c' = c ∧ s' = s := by
  have a := inv_S hN h
  have a' := inv_S hN h'
  rw [e.1, e.2] at a'
  exact ⟨a'.1.symm.trans a.1, a'.2.symm.trans a.2⟩
theorem sA_b2 {n m p b c s : Nat} (hN : Nm n m p b) (h : L0 n m p b c s) : 320 ≤ sA n m p c s ∧ sA n m p c s < 337 + n + m + p + b := by
  have hN' := hN
  unfold Nm at hN'
  rcases L0_cases hN h with ⟨rfl, h1, h2⟩ | ⟨rfl, h1⟩ | ⟨i, hi, rfl, h1⟩ | ⟨k, hk, rfl, rfl⟩ | ⟨i, hi, rfl, h1⟩ | ⟨i, hi, rfl, h1⟩ | ⟨k, hk, rfl, h1⟩
  · rw [sA_0]; omega
  · rw [sA_6]; omega
  · rw [sA_g (by omega)]; omega
  · rw [sA_h (by omega)]; omega
  · rw [sA_p (by omega)]; omega
  · rw [sA_b (by omega)]; omega
  · rw [sA_q]; split <;> (try split) <;> (try split) <;> omega
def AgS (n m p b : Nat) (P : Nat → Nat → Prop) (F : Nat → Nat → Int32) (g : GM) : Prop := ∀ c s, L0 n m p b c s → P c s → F (sA n m p c s) (sS c s) = iI (g c s)
theorem AgS.up {n m p b : Nat} (hN : Nm n m p b) {P : Nat → Nat → Prop} {F : Nat → Nat → Int32} {g : GM} (h : AgS n m p b P F g) (c s : Nat) (hl : L0 n m p b c s) {a k : Nat} (ha : sA n m p c s = a) (hk : sS c s = k) {x : Int32} {v : Int} (hx : x = iI v) : AgS n m p b (fun c' s' => P c' s' ∨ (c' = c ∧ s' = s)) (up2 F a k x) (up2 g c s v) := by
  intro c' s' hl' hp
  subst ha hk
  by_cases e : c' = c ∧ s' = s
  · obtain ⟨rfl, rfl⟩ := e
    rw [up2_e, up2_e, hx]
  · rw [up2_n _ _ _ _ _ _ e, up2_n _ _ _ _ _ _ (fun q => e (inj_S hN hl hl' q))]
    rcases hp with hp | hp
    · exact h _ _ hl' hp
    · exact absurd hp e
-- a write of the model alone, outside of P
theorem AgS.gm {n m p b : Nat} {P : Nat → Nat → Prop} {F : Nat → Nat → Int32} {g : GM} (h : AgS n m p b P F g) (c s : Nat) (v : Int) (hn : ¬ (L0 n m p b c s ∧ P c s)) : AgS n m p b P F (up2 g c s v) := by
  intro c' s' hl hp
  rw [up2_n _ _ _ _ _ _ (fun q => hn (by rw [← q.1, ← q.2]; exact ⟨hl, hp⟩))]
  exact h _ _ hl hp
-- a write of a cell that is none of the static ones
theorem AgS.fr {n m p b : Nat} (hN : Nm n m p b) {P : Nat → Nat → Prop} {F F' : Nat → Nat → Int32} {g : GM} (h : AgS n m p b P F g) (e : ∀ c s, 320 ≤ c → c < 337 + n + m + p + b → F' c s = F c s) : AgS n m p b P F' g := fun c s hl hp => by
  have q := sA_b2 hN hl
  rw [e _ _ q.1 q.2]
  exact h c s hl hp
theorem AgS.mono {n m p b : Nat} {P Q : Nat → Nat → Prop} {F : Nat → Nat → Int32} {g : GM} (h : AgS n m p b P F g) (hq : ∀ c s, Q c s → P c s) : AgS n m p b Q F g := fun c s hl hp => h c s hl (hq c s hp)

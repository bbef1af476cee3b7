/-! 31 L3: the cells of a river at r; what of it lives; how it mirrors whole numbers -/
def SkR (h : AH) (r : Nat) : Prop :=
  hT h r = 3 ∧ hR h r 0 = r + 1 ∧ hR h r 1 = r + 2 ∧ hR h r 2 = r + 3 ∧ hR h r 3 = r + 4 ∧ hR h r 4 = r + 5 ∧ hR h r 5 = r + 6 ∧
  (hT h (r + 1) = 104 ∧ hL h (r + 1) = 4 ∧ hT h (r + 2) = 105 ∧ hL h (r + 2) = 4 ∧ hT h (r + 3) = 106 ∧ hL h (r + 3) = 8 ∧ hT h (r + 4) = 107 ∧ hL h (r + 4) = 4 ∧ hT h (r + 5) = 108 ∧ hL h (r + 5) = 4 ∧ hT h (r + 6) = 101 ∧ hL h (r + 6) = 12) ∧
  (∀ i, i < 4 → hR h (r + 1) i = r + (7 + i) ∧ hT h (r + (7 + i)) = 4) ∧
  (∀ i, i < 4 → hR h (r + 2) i = r + (11 + 5 * i) ∧ hT h (r + (11 + 5 * i)) = 5 ∧ hR h (r + (11 + 5 * i)) 3 = r + (12 + 5 * i) ∧ hR h (r + (11 + 5 * i)) 4 = r + (13 + 5 * i) ∧ hR h (r + (11 + 5 * i)) 5 = r + (14 + 5 * i) ∧ hR h (r + (11 + 5 * i)) 6 = r + (15 + 5 * i) ∧
    hT h (r + (12 + 5 * i)) = 101 ∧ hT h (r + (13 + 5 * i)) = 101 ∧ hT h (r + (14 + 5 * i)) = 101 ∧ hT h (r + (15 + 5 * i)) = 101 ∧ hL h (r + (12 + 5 * i)) = 60 ∧ hL h (r + (13 + 5 * i)) = 60 ∧ hL h (r + (14 + 5 * i)) = 60 ∧ hL h (r + (15 + 5 * i)) = 60) ∧
  (∀ i, i < 8 → hR h (r + 3) i = r + (31 + i) ∧ hT h (r + (31 + i)) = 6) ∧
  (∀ i, i < 4 → hR h (r + 4) i = r + (39 + i) ∧ hT h (r + (39 + i)) = 7) ∧
  (∀ i, i < 4 → hR h (r + 5) i = r + (43 + i) ∧ hT h (r + (43 + i)) = 8)
theorem SkR.s {h : AH} {r : Nat} (F : Nat → Nat → Int32) (k : SkR h r) : SkR (sI h F) r := k
section
variable {h : AH} {r : Nat}
theorem SkR.t (k : SkR h r) : hT h r = 3 := k.1
theorem SkR.f0 (k : SkR h r) : hR h r 0 = r + 1 := k.2.1
theorem SkR.f1 (k : SkR h r) : hR h r 1 = r + 2 := k.2.2.1
theorem SkR.f2 (k : SkR h r) : hR h r 2 = r + 3 := k.2.2.2.1
theorem SkR.f3 (k : SkR h r) : hR h r 3 = r + 4 := k.2.2.2.2.1
theorem SkR.f4 (k : SkR h r) : hR h r 4 = r + 5 := k.2.2.2.2.2.1
theorem SkR.f5 (k : SkR h r) : hR h r 5 = r + 6 := k.2.2.2.2.2.2.1
theorem SkR.at1 (k : SkR h r) : hT h (r + 1) = 104 := k.2.2.2.2.2.2.2.1.1
theorem SkR.al1 (k : SkR h r) : hL h (r + 1) = 4 := k.2.2.2.2.2.2.2.1.2.1
theorem SkR.at2 (k : SkR h r) : hT h (r + 2) = 105 := k.2.2.2.2.2.2.2.1.2.2.1
theorem SkR.al2 (k : SkR h r) : hL h (r + 2) = 4 := k.2.2.2.2.2.2.2.1.2.2.2.1
theorem SkR.at3 (k : SkR h r) : hT h (r + 3) = 106 := k.2.2.2.2.2.2.2.1.2.2.2.2.1
theorem SkR.al3 (k : SkR h r) : hL h (r + 3) = 8 := k.2.2.2.2.2.2.2.1.2.2.2.2.2.1
theorem SkR.at4 (k : SkR h r) : hT h (r + 4) = 107 := k.2.2.2.2.2.2.2.1.2.2.2.2.2.2.1
theorem SkR.al4 (k : SkR h r) : hL h (r + 4) = 4 := k.2.2.2.2.2.2.2.1.2.2.2.2.2.2.2.1
theorem SkR.at5 (k : SkR h r) : hT h (r + 5) = 108 := k.2.2.2.2.2.2.2.1.2.2.2.2.2.2.2.2.1
theorem SkR.al5 (k : SkR h r) : hL h (r + 5) = 4 := k.2.2.2.2.2.2.2.1.2.2.2.2.2.2.2.2.2.1
theorem SkR.at6 (k : SkR h r) : hT h (r + 6) = 101 := k.2.2.2.2.2.2.2.1.2.2.2.2.2.2.2.2.2.2.1
theorem SkR.al6 (k : SkR h r) : hL h (r + 6) = 12 := k.2.2.2.2.2.2.2.1.2.2.2.2.2.2.2.2.2.2.2
theorem SkR.gR (k : SkR h r) {i : Nat} (hi : i < 4) : hR h (r + 1) i = r + (7 + i) := (k.2.2.2.2.2.2.2.2.1 i hi).1
theorem SkR.gT (k : SkR h r) {i : Nat} (hi : i < 4) : hT h (r + (7 + i)) = 4 := (k.2.2.2.2.2.2.2.2.1 i hi).2
theorem SkR.kR (k : SkR h r) {i : Nat} (hi : i < 4) : hR h (r + 2) i = r + (11 + 5 * i) := (k.2.2.2.2.2.2.2.2.2.1 i hi).1
theorem SkR.kT (k : SkR h r) {i : Nat} (hi : i < 4) : hT h (r + (11 + 5 * i)) = 5 := (k.2.2.2.2.2.2.2.2.2.1 i hi).2.1
theorem SkR.k3 (k : SkR h r) {i : Nat} (hi : i < 4) : hR h (r + (11 + 5 * i)) 3 = r + (12 + 5 * i) := (k.2.2.2.2.2.2.2.2.2.1 i hi).2.2.1
theorem SkR.k4 (k : SkR h r) {i : Nat} (hi : i < 4) : hR h (r + (11 + 5 * i)) 4 = r + (13 + 5 * i) := (k.2.2.2.2.2.2.2.2.2.1 i hi).2.2.2.1
theorem SkR.k5 (k : SkR h r) {i : Nat} (hi : i < 4) : hR h (r + (11 + 5 * i)) 5 = r + (14 + 5 * i) := (k.2.2.2.2.2.2.2.2.2.1 i hi).2.2.2.2.1
theorem SkR.k6 (k : SkR h r) {i : Nat} (hi : i < 4) : hR h (r + (11 + 5 * i)) 6 = r + (15 + 5 * i) := (k.2.2.2.2.2.2.2.2.2.1 i hi).2.2.2.2.2.1
theorem SkR.kt1 (k : SkR h r) {i : Nat} (hi : i < 4) : hT h (r + (12 + 5 * i)) = 101 := (k.2.2.2.2.2.2.2.2.2.1 i hi).2.2.2.2.2.2.1
theorem SkR.kt2 (k : SkR h r) {i : Nat} (hi : i < 4) : hT h (r + (13 + 5 * i)) = 101 := (k.2.2.2.2.2.2.2.2.2.1 i hi).2.2.2.2.2.2.2.1
theorem SkR.kt3 (k : SkR h r) {i : Nat} (hi : i < 4) : hT h (r + (14 + 5 * i)) = 101 := (k.2.2.2.2.2.2.2.2.2.1 i hi).2.2.2.2.2.2.2.2.1
theorem SkR.kt4 (k : SkR h r) {i : Nat} (hi : i < 4) : hT h (r + (15 + 5 * i)) = 101 := (k.2.2.2.2.2.2.2.2.2.1 i hi).2.2.2.2.2.2.2.2.2.1
theorem SkR.kl1 (k : SkR h r) {i : Nat} (hi : i < 4) : hL h (r + (12 + 5 * i)) = 60 := (k.2.2.2.2.2.2.2.2.2.1 i hi).2.2.2.2.2.2.2.2.2.2.1
theorem SkR.kl2 (k : SkR h r) {i : Nat} (hi : i < 4) : hL h (r + (13 + 5 * i)) = 60 := (k.2.2.2.2.2.2.2.2.2.1 i hi).2.2.2.2.2.2.2.2.2.2.2.1
theorem SkR.kl3 (k : SkR h r) {i : Nat} (hi : i < 4) : hL h (r + (14 + 5 * i)) = 60 := (k.2.2.2.2.2.2.2.2.2.1 i hi).2.2.2.2.2.2.2.2.2.2.2.2.1
theorem SkR.kl4 (k : SkR h r) {i : Nat} (hi : i < 4) : hL h (r + (15 + 5 * i)) = 60 := (k.2.2.2.2.2.2.2.2.2.1 i hi).2.2.2.2.2.2.2.2.2.2.2.2.2
theorem SkR.pR (k : SkR h r) {i : Nat} (hi : i < 8) : hR h (r + 3) i = r + (31 + i) := (k.2.2.2.2.2.2.2.2.2.2.1 i hi).1
theorem SkR.pT (k : SkR h r) {i : Nat} (hi : i < 8) : hT h (r + (31 + i)) = 6 := (k.2.2.2.2.2.2.2.2.2.2.1 i hi).2
theorem SkR.bR (k : SkR h r) {i : Nat} (hi : i < 4) : hR h (r + 4) i = r + (39 + i) := (k.2.2.2.2.2.2.2.2.2.2.2.1 i hi).1
theorem SkR.bT (k : SkR h r) {i : Nat} (hi : i < 4) : hT h (r + (39 + i)) = 7 := (k.2.2.2.2.2.2.2.2.2.2.2.1 i hi).2
theorem SkR.qR (k : SkR h r) {i : Nat} (hi : i < 4) : hR h (r + 5) i = r + (43 + i) := (k.2.2.2.2.2.2.2.2.2.2.2.2 i hi).1
theorem SkR.qT (k : SkR h r) {i : Nat} (hi : i < 4) : hT h (r + (43 + i)) = 8 := (k.2.2.2.2.2.2.2.2.2.2.2.2 i hi).2
end
-- what lives: n gardens, m racks, p peelers, b boats; ct k: bundles on rack k
def Lv (n m p b : Nat) (ct : Nat → Int) (c s : Nat) : Prop :=
  (c = 0 ∧ 6 ≤ s ∧ s < 18) ∨ (c = 6 ∧ s < 12) ∨ (7 ≤ c ∧ c < 7 + n ∧ s < 3) ∨ (11 ≤ c ∧ c < 11 + 5 * m ∧ (c - 11) % 5 = 0 ∧ s < 3) ∨
  (11 ≤ c ∧ c < 11 + 5 * m ∧ (c - 11) % 5 ≠ 0 ∧ (s : Int) < ct ((c - 11) / 5)) ∨ (31 ≤ c ∧ c < 31 + p ∧ s < 7) ∨ (39 ≤ c ∧ c < 39 + b ∧ s < 7) ∨ (43 ≤ c ∧ c < 47 ∧ s < 4)
def Ag (P : Nat → Nat → Prop) (r : Nat) (F : Nat → Nat → Int32) (g : Nat → Nat → Int) : Prop := ∀ c s, P c s → F (r + c) s = iI (g c s)
def mct (g : Nat → Nat → Int) (k : Nat) : Int := g (11 + 5 * k) 2
def RP (n m p b r : Nat) (F : Nat → Nat → Int32) (g : Nat → Nat → Int) : Prop := Ag (Lv n m p b (mct g)) r F g
theorem Ag.up {P : Nat → Nat → Prop} {r : Nat} {F : Nat → Nat → Int32} {g : Nat → Nat → Int} (h : Ag P r F g) (c s : Nat) {x : Int32} {v : Int} (hx : x = iI v) : Ag (fun c' s' => P c' s' ∨ (c' = c ∧ s' = s)) r (up2 F (r + c) s x) (up2 g c s v) := by
  intro c' s' hp
  by_cases e : c' = c ∧ s' = s
  · obtain ⟨rfl, rfl⟩ := e
    rw [up2_e, up2_e, hx]
  · rw [up2_n _ _ _ _ _ _ e, up2_n _ _ _ _ _ _ (fun q => e ⟨by omega, q.2⟩)]
    rcases hp with hp | hp
    · exact h _ _ hp
    · exact absurd hp e
theorem Ag.mono {P Q : Nat → Nat → Prop} {r : Nat} {F : Nat → Nat → Int32} {g : Nat → Nat → Int} (h : Ag P r F g) (hq : ∀ c s, Q c s → P c s) : Ag Q r F g := fun c s k => h c s (hq c s k)
-- a write that is no count
theorem mct_up {g : Nat → Nat → Int} {c s : Nat} {v : Int} (h : s ≠ 2 ∨ c < 11 ∨ 31 ≤ c ∨ (c - 11) % 5 ≠ 0) : ∀ k, k < 4 → mct (up2 g c s v) k = mct g k := by
  intro k hk
  unfold mct
  exact up2_n _ _ _ _ _ _ (by omega)
theorem Lv_ct {n m p b : Nat} {ct ct' : Nat → Int} {c s : Nat} (hm : m ≤ 4) (h : ∀ k, k < 4 → ct' k = ct k) (k : Lv n m p b ct' c s) : Lv n m p b ct c s := by
  unfold Lv at k ⊢
  rcases k with k | k | k | k | k | k
  · exact Or.inl k
  · exact Or.inr (Or.inl k)
  · exact Or.inr (Or.inr (Or.inl k))
  · exact Or.inr (Or.inr (Or.inr (Or.inl k)))
  · refine Or.inr (Or.inr (Or.inr (Or.inr (Or.inl ?_))))
    rw [← h _ (by omega)]
    exact k
  · exact Or.inr (Or.inr (Or.inr (Or.inr (Or.inr k))))
theorem RP.up {n m p b r : Nat} {F : Nat → Nat → Int32} {g : Nat → Nat → Int} (hm : m ≤ 4) (h : RP n m p b r F g) (c s : Nat) {x : Int32} {v : Int} (hx : x = iI v) (hc : s ≠ 2 ∨ c < 11 ∨ 31 ≤ c ∨ (c - 11) % 5 ≠ 0) : RP n m p b r (up2 F (r + c) s x) (up2 g c s v) :=
  (Ag.up h c s hx).mono fun c' s' k => Or.inl (Lv_ct hm (mct_up hc) k)
-- reading
section
variable {n m p b r : Nat} {F : Nat → Nat → Int32} {g : Nat → Nat → Int}
theorem RP.sc (h : RP n m p b r F g) (s : Nat) (h1 : 6 ≤ s) (h2 : s < 18) : F r s = iI (g 0 s) := h 0 s (Or.inl ⟨rfl, h1, h2⟩)
theorem RP.sh (h : RP n m p b r F g) (s : Nat) (h2 : s < 12) : F (r + 6) s = iI (g 6 s) := h 6 s (Or.inr (Or.inl ⟨rfl, h2⟩))
theorem RP.ga (h : RP n m p b r F g) (i s : Nat) (h1 : i < n) (h2 : s < 3) : F (r + (7 + i)) s = iI (g (7 + i) s) := h _ s (Or.inr (Or.inr (Or.inl ⟨by omega, by omega, h2⟩)))
theorem RP.ra (h : RP n m p b r F g) (i s : Nat) (h1 : i < m) (h2 : s < 3) : F (r + (11 + 5 * i)) s = iI (g (11 + 5 * i) s) := h _ s (Or.inr (Or.inr (Or.inr (Or.inl ⟨by omega, by omega, by omega, h2⟩))))
theorem RP.bu (h : RP n m p b r F g) (i w s : Nat) (h1 : i < m) (h0 : 1 ≤ w) (h4 : w ≤ 4) (h2 : (s : Int) < mct g i) : F (r + (11 + w + 5 * i)) s = iI (g (11 + w + 5 * i) s) := h _ s (Or.inr (Or.inr (Or.inr (Or.inr (Or.inl ⟨by omega, by omega, by omega, by
  have e : (11 + w + 5 * i - 11) / 5 = i := by omega
  rw [e]; exact h2⟩)))))
theorem RP.b1 (h : RP n m p b r F g) (i s : Nat) (h1 : i < m) (h2 : (s : Int) < mct g i) : F (r + (12 + 5 * i)) s = iI (g (12 + 5 * i) s) := RP.bu h i 1 s h1 (by decide) (by decide) h2
theorem RP.b2 (h : RP n m p b r F g) (i s : Nat) (h1 : i < m) (h2 : (s : Int) < mct g i) : F (r + (13 + 5 * i)) s = iI (g (13 + 5 * i) s) := RP.bu h i 2 s h1 (by decide) (by decide) h2
theorem RP.b3 (h : RP n m p b r F g) (i s : Nat) (h1 : i < m) (h2 : (s : Int) < mct g i) : F (r + (14 + 5 * i)) s = iI (g (14 + 5 * i) s) := RP.bu h i 3 s h1 (by decide) (by decide) h2
theorem RP.b4 (h : RP n m p b r F g) (i s : Nat) (h1 : i < m) (h2 : (s : Int) < mct g i) : F (r + (15 + 5 * i)) s = iI (g (15 + 5 * i) s) := RP.bu h i 4 s h1 (by decide) (by decide) h2
theorem RP.pe (h : RP n m p b r F g) (i s : Nat) (h1 : i < p) (h2 : s < 7) : F (r + (31 + i)) s = iI (g (31 + i) s) := h _ s (Or.inr (Or.inr (Or.inr (Or.inr (Or.inr (Or.inl ⟨by omega, by omega, h2⟩))))))
theorem RP.bo (h : RP n m p b r F g) (i s : Nat) (h1 : i < b) (h2 : s < 7) : F (r + (39 + i)) s = iI (g (39 + i) s) := h _ s (Or.inr (Or.inr (Or.inr (Or.inr (Or.inr (Or.inr (Or.inl ⟨by omega, by omega, h2⟩)))))))
theorem RP.gr (h : RP n m p b r F g) (i s : Nat) (h1 : i < 4) (h2 : s < 4) : F (r + (43 + i)) s = iI (g (43 + i) s) := h _ s (Or.inr (Or.inr (Or.inr (Or.inr (Or.inr (Or.inr (Or.inr ⟨by omega, by omega, h2⟩)))))))
end
-- the frame: of the ints only those of the river at r change
def Fm (r : Nat) (F F' : Nat → Nat → Int32) : Prop := ∀ c s, ¬ (r ≤ c ∧ c < r + 47) → F' c s = F c s
theorem Fm.refl (r : Nat) (F : Nat → Nat → Int32) : Fm r F F := fun _ _ _ => rfl
theorem Fm.trans {r : Nat} {F F' F'' : Nat → Nat → Int32} (h1 : Fm r F F') (h2 : Fm r F' F'') : Fm r F F'' := fun c s a1 => (h2 c s a1).trans (h1 c s a1)
theorem Fm.up {r : Nat} {F F' : Nat → Nat → Int32} (h : Fm r F F') (c s : Nat) (v : Int32) (hc : c < 47) : Fm r F (up2 F' (r + c) s v) := fun c' s' a1 => by
  rw [up2_n _ _ _ _ _ _ (by omega)]
  exact h c' s' a1
-- and, where orders are carried out, the stack of the orders at 202 and its height
def Fo (r : Nat) (F F' : Nat → Nat → Int32) : Prop := ∀ c s, ¬ (r ≤ c ∧ c < r + 47) → c ≠ 205 → ¬ (c = 202 ∧ s = 4) → F' c s = F c s
theorem Fm.o {r : Nat} {F F' : Nat → Nat → Int32} (h : Fm r F F') : Fo r F F' := fun c s a1 _ _ => h c s a1
theorem Fo.refl (r : Nat) (F : Nat → Nat → Int32) : Fo r F F := fun _ _ _ _ _ => rfl
theorem Fo.trans {r : Nat} {F F' F'' : Nat → Nat → Int32} (h1 : Fo r F F') (h2 : Fo r F' F'') : Fo r F F'' := fun c s a1 a2 a3 => (h2 c s a1 a2 a3).trans (h1 c s a1 a2 a3)
theorem Fo.up {r : Nat} {F F' : Nat → Nat → Int32} (h : Fo r F F') (c s : Nat) (v : Int32) (hc : c < 47) : Fo r F (up2 F' (r + c) s v) := fun c' s' a1 a2 a3 => by
  rw [up2_n _ _ _ _ _ _ (by omega)]
  exact h c' s' a1 a2 a3
theorem Fo.st {r : Nat} {F F' : Nat → Nat → Int32} (h : Fo r F F') (j : Nat) (v : Int32) : Fo r F (up2 F' 205 j v) := fun c s a1 a2 a3 => by
  rw [up2_n _ _ _ _ _ _ (fun q => a2 q.1)]
  exact h c s a1 a2 a3
theorem Fo.hg {r : Nat} {F F' : Nat → Nat → Int32} (h : Fo r F F') (v : Int32) : Fo r F (up2 F' 202 4 v) := fun c s a1 a2 a3 => by
  rw [up2_n _ _ _ _ _ _ a3]
  exact h c s a1 a2 a3

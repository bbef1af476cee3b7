/-! 98z L3: rolls of names; the names' state -/
-- the letter of the k-th roll: gardens, racks, peelers, boats
def lt (k : Nat) : Nat := if k = 0 then 103 else if k = 1 then 114 else if k = 2 then 112 else 98
def rl (k : Nat) : Nat := if k = 2 then 8 else 4
def nmw (k j : Nat) : Int64 := wj (Int64.ofNat 0) [lt k, 48 + j]
theorem nmwAll : ((List.range 4).all fun k => (List.range 10).all fun i => (List.range 10).all fun j => decide (nmw k i = nmw k j → i = j)) = true := by decide +kernel
theorem nmw_ne {k i j : Nat} (hk : k < 4) (hi : i < 10) (hj : j < 10) (h : i ≠ j) : nmw k i ≠ nmw k j := by
  have a := List.all_eq_true.mp nmwAll k (List.mem_range.mpr hk)
  have b := List.all_eq_true.mp a i (List.mem_range.mpr hi)
  have c := of_decide_eq_true (List.all_eq_true.mp b j (List.mem_range.mpr hj))
  exact fun q => h (c q)
def SkRo (h : AH) : Prop := ∀ k, k < 4 → hT h (312 + 2 * k) = 12 ∧ hR h (312 + 2 * k) 0 = 313 + 2 * k ∧ hT h (313 + 2 * k) = 103 ∧ hL h (313 + 2 * k) = rl k
def SkN (h : AH) : Prop := hT h 253 = 9 ∧ hR h 253 0 = 254 ∧ hR h 253 1 = 255 ∧ hR h 253 2 = 265 ∧ (∀ k, k < 4 → hR h 253 (3 + k) = 312 + 2 * k) ∧ SkRo h ∧ SkR h 265 ∧ SkT h
-- the k-th roll holds x names
def Ro (k x : Nat) (h : AH) : Prop := hI h (312 + 2 * k) 1 = iI (x : Int) ∧ ∀ j, j < x → hJ h (313 + 2 * k) j = nmw k j
theorem place_l {h : AH} {k x r : Nat} {w : Int64} (hk : k < 4) (S : SkRo h) (R : Ro k x h) (hx : x ≤ rl k) (h1 : ∀ i, i < r → nmw k i ≠ w) (h2 : r = x ∨ (r < x ∧ nmw k r = w)) : ∀ (j : Nat) {i N : Nat}, j + i = r → f_Roll_placeOf_l2 (j + 1 + N) h (312 + 2 * k) w (iI (i : Int)) = some (h, if r < x then iI (r : Int) else -nI 1) := by
  obtain ⟨s1, s2, s3, s4⟩ := S k hk
  have hx8 : x ≤ 8 := by unfold rl at hx; split at hx <;> omega
  have hL8 : rl k ≤ 8 := by unfold rl; split <;> omega
  intro j
  induction j with
  | zero =>
    intro i N hj
    obtain rfl : i = r := by omega
    rw [show 0 + 1 + N = N + 1 by omega]
    show f_Roll_placeOf_b2 (f_Roll_placeOf_l2 N) h (312 + 2 * k) w (iI (i : Int)) = _
    unfold f_Roll_placeOf_b2
    rw [gd_P s1, R.1]
    rcases h2 with h2 | ⟨h2, h3⟩
    · rw [if_pos (by rw [iI_le (by omega) (by omega) (by omega) (by omega)]; omega), if_neg (by omega)]
    · have n0 : ¬ iI (i : Int) < 0 := by rw [z_i, iI_lt (by omega) (by omega) (by omega) (by omega)]; omega
      have ixk : (iI (i : Int)).toNatClampNeg = i := iI_ixn (by omega)
      have nl : ¬ w < w := by rw [Int64.lt_iff_toInt_lt]; omega
      rw [if_neg (by rw [iI_le (by omega) (by omega) (by omega) (by omega)]; omega), s2, gd_P s3, s4, if_neg (by rw [nI_i, iI_le (by omega) (by omega) (by omega) (by omega)]; omega), gd_P ⟨s3, n0, by show (iI (i : Int)).toNatClampNeg < rl k; rw [ixk]; omega⟩, show ix (iI (i : Int)) = i from ixk, R.2 i h2, h3, if_neg nl, if_pos rfl, if_neg (by intro q; exact q rfl), if_pos h2]
  | succ j ih =>
    intro i N hj
    have hix : i < x := by rcases h2 with q | q <;> omega
    have n0 : ¬ iI (i : Int) < 0 := by rw [z_i, iI_lt (by omega) (by omega) (by omega) (by omega)]; omega
    have ixk : (iI (i : Int)).toNatClampNeg = i := iI_ixn (by omega)
    have q := ih (i := i + 1) (N := N) (by omega)
    rw [show j + 1 + 1 + N = (j + 1 + N) + 1 by omega, ← q]
    show f_Roll_placeOf_b2 (f_Roll_placeOf_l2 (j + 1 + N)) h (312 + 2 * k) w (iI (i : Int)) = _
    have ne := h1 i (by omega)
    have ek : iI (i : Int) + nI 1 = iI ((i + 1 : Nat) : Int) := by rw [nI_L, iI_add]; rfl
    unfold f_Roll_placeOf_b2
    rw [gd_P s1, R.1, if_neg (by rw [iI_le (by omega) (by omega) (by omega) (by omega)]; omega), s2, gd_P s3, s4, if_neg (by rw [nI_i, iI_le (by omega) (by omega) (by omega) (by omega)]; omega), gd_P ⟨s3, n0, by show (iI (i : Int)).toNatClampNeg < rl k; rw [ixk]; omega⟩, show ix (iI (i : Int)) = i from ixk, R.2 i hix, if_neg ne]
    by_cases lt' : nmw k i < w
    · rw [if_pos lt', if_pos (by decide), ek, lq_E]
    · rw [if_neg lt', if_pos (by decide), ek, lq_E]
theorem place_y {h : AH} {k x v : Nat} (hk : k < 4) (S : SkRo h) (R : Ro k x h) (hx : x ≤ rl k) (hv : v < x) : f_Roll_placeOf h (312 + 2 * k) (nmw k v) = some (h, iI (v : Int)) := by
  have hx8 : x ≤ 8 := by unfold rl at hx; split at hx <;> omega
  obtain ⟨N, hN'⟩ : ∃ N, FU = v + 1 + N := ⟨FU - (v + 1), by unfold FU; omega⟩
  have q := place_l (w := nmw k v) (r := v) hk S R hx (fun i hi => nmw_ne hk (by omega) (by omega) (by omega)) (Or.inr ⟨hv, rfl⟩) v (i := 0) (N := N) (by omega)
  rw [if_pos hv] at q
  unfold f_Roll_placeOf
  rw [hN']
  exact q
theorem place_n {h : AH} {k x : Nat} (hk : k < 4) (S : SkRo h) (R : Ro k x h) (hx : x ≤ rl k) : f_Roll_placeOf h (312 + 2 * k) (nmw k x) = some (h, iI (-1)) := by
  have hx8 : x ≤ 8 := by unfold rl at hx; split at hx <;> omega
  obtain ⟨N, hN'⟩ : ∃ N, FU = x + 1 + N := ⟨FU - (x + 1), by unfold FU; omega⟩
  have q := place_l (w := nmw k x) (r := x) hk S R hx (fun i hi => nmw_ne hk (by omega) (by omega) (by omega)) (Or.inl rfl) x (i := 0) (N := N) (by omega)
  rw [if_neg (by omega)] at q
  unfold f_Roll_placeOf
  rw [hN']
  exact q
theorem takes_E {h : AH} {k x : Nat} (hk : k < 4) (S : SkRo h) (R : Ro k x h) (hx : x < rl k) (w : Int64) : f_Roll_takes h (312 + 2 * k) w = some (wI (wJ h (313 + 2 * k) x w) (312 + 2 * k) 1 (iI ((x + 1 : Nat) : Int)), iI 1) := by
  obtain ⟨s1, s2, s3, s4⟩ := S k hk
  have hx8 : x ≤ 8 := by unfold rl at hx; split at hx <;> omega
  have hL8 : rl k ≤ 8 := by unfold rl; split <;> omega
  have n0 : ¬ iI (x : Int) < 0 := by rw [z_i, iI_lt (by omega) (by omega) (by omega) (by omega)]; omega
  have ixk : (iI (x : Int)).toNatClampNeg = x := iI_ixn (by omega)
  have t1 : hT (wJ h (313 + 2 * k) x w) (312 + 2 * k) = 12 := s1
  have t2 : hI (wJ h (313 + 2 * k) x w) (312 + 2 * k) 1 = iI (x : Int) := R.1
  unfold f_Roll_takes
  rw [gd_P s1, R.1, if_neg n0, s2, gd_P s3, s4, if_pos (by rw [nI_i, iI_lt (by omega) (by omega) (by omega) (by omega)]; omega), gd_P ⟨s3, n0, by show (iI (x : Int)).toNatClampNeg < rl k; rw [ixk]; omega⟩, show ix (iI (x : Int)) = x from ixk, lq_E, gd_P t1, t2, nI_L, iI_add, lq_E]
  rfl
theorem wordOf_E {h : AH} (S : SkT h) {i : Nat} (hi : i < 401) : f_Tokens_wordOf h 255 (iI (i : Int)) = some (h, hJ h 260 i) := by
  obtain ⟨⟨a1, a2, a3, a4, a5, a6⟩, ⟨b1, b2, b3, b4, b5, b6, b7, b8, b9, b10⟩, c⟩ := S
  have n0 : ¬ iI (i : Int) < 0 := by rw [z_i, iI_lt (by omega) (by omega) (by omega) (by omega)]; omega
  have ixi : (iI (i : Int)).toNatClampNeg = i := iI_ixn (by omega)
  unfold f_Tokens_wordOf
  rw [if_neg n0, gd_P a1, a6, gd_P b9, b10, if_neg (by rw [nI_L, iI_le (by omega) (by omega) (by omega) (by omega)]; omega), gd_P ⟨b9, n0, by show (iI (i : Int)).toNatClampNeg < 401; rw [ixi]; omega⟩, show ix (iI (i : Int)) = i from ixi]
theorem numberOf_T {h : AH} (S : SkT h) {i : Nat} (hi : i < 401) : f_Tokens_numberOf h 255 (iI (i : Int)) = some (h, hI h 259 i) := by
  obtain ⟨⟨a1, a2, a3, a4, a5, a6⟩, ⟨b1, b2, b3, b4, b5, b6, b7, b8, b9, b10⟩, c⟩ := S
  have n0 : ¬ iI (i : Int) < 0 := by rw [z_i, iI_lt (by omega) (by omega) (by omega) (by omega)]; omega
  have ixi : (iI (i : Int)).toNatClampNeg = i := iI_ixn (by omega)
  unfold f_Tokens_numberOf
  rw [if_neg n0, gd_P a1, a5, gd_P b7, b8, if_neg (by rw [nI_L, iI_le (by omega) (by omega) (by omega) (by omega)]; omega), gd_P ⟨b7, n0, by show (iI (i : Int)).toNatClampNeg < 401; rw [ixi]; omega⟩, show ix (iI (i : Int)) = i from ixi]
-- what the look at names may change
def Fn (h h' : AH) : Prop := (hN h' = hN h ∧ hU h' = hU h ∧ hT h' = hT h ∧ hL h' = hL h ∧ hR h' = hR h) ∧ (∀ c s, ¬ (265 ≤ c ∧ c < 320) → c ≠ 259 → ¬ (c = 253 ∧ s = 7) → hI h' c s = hI h c s) ∧ ∀ c s, ¬ (312 ≤ c ∧ c < 320) → hJ h' c s = hJ h c s
theorem Fn.refl (h : AH) : Fn h h := ⟨⟨rfl, rfl, rfl, rfl, rfl⟩, fun _ _ _ _ _ => rfl, fun _ _ _ => rfl⟩
theorem Fn.trans {h h' h'' : AH} (a : Fn h h') (b : Fn h' h'') : Fn h h'' := by
  obtain ⟨⟨a1, a2, a3, a4, a5⟩, a6, a7⟩ := a
  obtain ⟨⟨b1, b2, b3, b4, b5⟩, b6, b7⟩ := b
  exact ⟨⟨b1.trans a1, b2.trans a2, b3.trans a3, b4.trans a4, b5.trans a5⟩, fun c s q1 q2 q3 => (b6 c s q1 q2 q3).trans (a6 c s q1 q2 q3), fun c s q => (b7 c s q).trans (a7 c s q)⟩
theorem Fn.wi {h : AH} {c s : Nat} {v : Int32} (hc : (265 ≤ c ∧ c < 320) ∨ c = 259 ∨ (c = 253 ∧ s = 7)) : Fn h (wI h c s v) := ⟨⟨rfl, rfl, rfl, rfl, rfl⟩, fun c' s' q1 q2 q3 => hI_wn _ _ _ _ _ _ (by omega), fun _ _ _ => rfl⟩
theorem Fn.wj {h : AH} {c s : Nat} {v : Int64} (hc : 312 ≤ c ∧ c < 320) : Fn h (wJ h c s v) := ⟨⟨rfl, rfl, rfl, rfl, rfl⟩, fun _ _ _ _ _ => rfl, fun c' s' q => up2_n _ _ _ _ _ _ (by omega)⟩
theorem Fn.skn {h h' : AH} (k : Fn h h') (S : SkN h) : SkN h' := by
  obtain ⟨⟨a1, a2, a3, a4, a5⟩, a6, a7⟩ := k
  unfold SkN SkRo SkR SkT at *
  rw [a3, a4, a5]
  obtain ⟨s1, s2, s3, s4, s5, s6, s7, s8, s9, s10'⟩ := S
  exact ⟨s1, s2, s3, s4, s5, s6, s7, s8, s9, fun i hi => by rw [a7 _ _ (by omega)]; exact s10' i hi⟩
theorem Fn.kd {K : List Nat} {h h' : AH} (k : Fn h h') (S : Kd K h) : Kd K h' := by
  obtain ⟨a1, a2, a3, a4, a5, a6⟩ := S
  exact ⟨a1, a2, a3, fun i hi => by rw [k.2.1 _ _ (by omega) (by omega) (by omega)]; exact a4 i hi, by rw [k.2.1 _ _ (by omega) (by omega) (by omega)]; exact a5, a6⟩

/-! 98x L3: the whole list read -/
def ks (ts : List Tok) : List Nat := ts.map Prod.fst
theorem ks_app (a b : List Tok) : ks (a ++ b) = ks a ++ ks b := List.map_append
theorem ks_len (a : List Tok) : (ks a).length = a.length := List.length_map _
theorem gr4 {k : Nat} (h : k < 4) : isGr (18 + k) := by unfold isGr; omega
def dO (n m p b : Nat) (w : Nat → Int) (ps : Nat) : List (Nat × Nat) :=
  if w 0 = 1 then dS (w 3).toNat (ps + 3) ++ ((56, ps + 3 + (tkS (w 2).toNat (w 3).toNat (w 4).toNat [32]).length + 1) :: ((if w 5 < 8 then dT (w 5).toNat (ps + 3 + (tkS (w 2).toNat (w 3).toNat (w 4).toNat [32]).length + 3) else [(60, ps + 3 + (tkS (w 2).toNat (w 3).toNat (w 4).toNat [32]).length + 2)]) ++ [(23, ps + 1)]))
  else dT (w 5).toNat (ps + 3) ++ [(if w 0 = 0 then 22 else 25, ps + 1)]
section
variable {hb : AH} {K r : List Nat} {ds : List (Nat × Nat)} {ps : Nat}
theorem tstA {n m p b w5 w6 w7 : Nat} {e : List Nat} (h5 : w5 < 9) (hd : ds.length ≤ 370) : Rd hb K (fun h => gG 60 0 h 254 (nI 0) (nI 0)) (ks (tkT n m p b w5 w6 w7 e) ++ 44 :: r) ds ps (44 :: r) (ds ++ dT w5 ps) (ps + (tkT n m p b w5 w6 w7 e).length) := by
  have g4 : isGr (18 + w6 % 4) := gr4 (Nat.mod_lt _ (by decide))
  rcases (show w5 = 0 ∨ w5 = 1 ∨ w5 = 2 ∨ w5 = 3 ∨ w5 = 4 ∨ w5 = 5 ∨ w5 = 6 ∨ w5 = 7 ∨ w5 = 8 by omega) with rfl | rfl | rfl | rfl | rfl | rfl | rfl | rfl | rfl
  · exact tst0 hd
  · exact tst1 hd
  · exact tst2 hd
  · exact tst3 hd
  · exact tst4 hd
  · exact tst5 g4 hd
  · exact tst6 g4 hd
  · exact tst7 hd
  · exact tst8 hd
theorem sumA {w2 w3 w4 : Nat} {e : List Nat} (h2 : w2 < 4) (h3 : w3 < 4) (hd : ds.length ≤ 370) : Rd hb K (fun h => gG 60 3 h 254 (nI 0) (nI 0)) (ks (tkS w2 w3 w4 e) ++ 8 :: r) ds ps (8 :: r) (ds ++ dS w3 ps) (ps + (tkS w2 w3 w4 e).length) := by
  have g4 : isGr (18 + w2) := gr4 h2
  rcases (show w3 = 0 ∨ w3 = 1 ∨ w3 = 2 ∨ w3 = 3 by omega) with rfl | rfl | rfl | rfl
  · exact sum0 hd
  · exact sum1 g4 hd
  · exact sum2 g4 hd
  · exact sum3 g4 hd
theorem dT_len (w5 ps : Nat) : (dT w5 ps).length ≤ 8 := by
  unfold dT
  split <;> (simp only [List.length_cons, List.length_nil]; try omega)
theorem dS_len (w3 ps : Nat) : (dS w3 ps).length ≤ 5 := by
  unfold dS
  split <;> (simp only [List.length_cons, List.length_nil]; try omega)
theorem dO_len (n m p b : Nat) (w : Nat → Int) (ps : Nat) : (dO n m p b w ps).length ≤ 15 := by
  unfold dO
  split
  · rw [List.length_append, List.length_cons, List.length_append, List.length_singleton]
    have a := dS_len (w 3).toNat (ps + 3)
    split
    · have c := dT_len (w 5).toNat (ps + 3 + (tkS (w 2).toNat (w 3).toNat (w 4).toNat [32]).length + 3)
      omega
    · rw [List.length_singleton]; omega
  · rw [List.length_append, List.length_singleton]
    have c := dT_len (w 5).toNat (ps + 3)
    omega
theorem lnO {n m p b : Nat} {w : Nat → Int} (hW : Wk n m p b w) (hd : ds.length ≤ 350) : ∃ l, l + 1 = (tkO n m p b w).length ∧ Rd hb K (fun h => f_Grammar_readsLine h 254) (ks (tkO n m p b w) ++ r) ds ps (44 :: r) (ds ++ dO n m p b w ps) (ps + l) := by
  unfold Wk at hW
  have h5 : (w 5).toNat < 9 := by omega
  have h3 : (w 3).toNat < 4 := by omega
  have h2 : (w 2).toNat < 4 := by omega
  unfold tkO dO
  by_cases c1 : w 0 = 1
  · rw [if_pos c1, if_pos c1]
    have lS := dS_len (w 3).toNat (ps + 3)
    by_cases c5 : w 5 < 8
    · rw [if_pos c5, if_pos c5, if_pos c5]
      have lT := dT_len (w 5).toNat (ps + 3 + (tkS (w 2).toNat (w 3).toNat (w 4).toNat [32]).length + 3)
      have v := sumA (hb := hb) (K := K) (w4 := (w 4).toNat) (e := [32]) (ps := ps + 3) (r := (18 + (w 2).toNat) :: 26 :: (ks (tkT n m p b (w 5).toNat (w 6).toNat (w 7).toNat []) ++ 44 :: r)) h2 h3 (ds := ds) (by omega)
      have v2 := tstA (hb := hb) (K := K) (n := n) (m := m) (p := p) (b := b) (w6 := (w 6).toNat) (w7 := (w 7).toNat) (e := []) (ps := ps + 3 + (tkS (w 2).toNat (w 3).toNat (w 4).toNat [32]).length + 3) (r := r) h5 (ds := ds ++ (dS (w 3).toNat (ps + 3) ++ [(56, ps + 3 + (tkS (w 2).toNat (w 3).toNat (w 4).toNat [32]).length + 1)])) (by rw [List.length_append, List.length_append, List.length_singleton]; omega)
      have q := lod2 (gr4 h2) v v2 (by omega)
      refine ⟨3 + (tkS (w 2).toNat (w 3).toNat (w 4).toNat [32]).length + 3 + (tkT n m p b (w 5).toNat (w 6).toNat (w 7).toNat []).length, ?_, ?_⟩
      · unfold tkW
        simp only [List.length_cons, List.length_append, List.length_nil]
        omega
      · have ek : ks ((23, 0, [32]) :: (55, 98 * 16 + (w 1).toNat, [32]) :: (24, 0, [32]) :: (tkS (w 2).toNat (w 3).toNat (w 4).toNat [32] ++ (8, 0, [32]) :: (18 + (w 2).toNat, 0, [32]) :: (tkW n m p b (w 5).toNat (w 6).toNat (w 7).toNat ++ [(44, 0, [32])]))) ++ r = 23 :: 55 :: 24 :: (ks (tkS (w 2).toNat (w 3).toNat (w 4).toNat [32]) ++ 8 :: (18 + (w 2).toNat) :: 26 :: (ks (tkT n m p b (w 5).toNat (w 6).toNat (w 7).toNat []) ++ 44 :: r)) := by
          unfold tkW ks
          simp only [List.map_cons, List.map_append, List.map_nil, List.cons_append, List.append_assoc, List.nil_append]
        rw [ek, show ps + (3 + (tkS (w 2).toNat (w 3).toNat (w 4).toNat [32]).length + 3 + (tkT n m p b (w 5).toNat (w 6).toNat (w 7).toNat []).length) = ps + 3 + (tkS (w 2).toNat (w 3).toNat (w 4).toNat [32]).length + 3 + (tkT n m p b (w 5).toNat (w 6).toNat (w 7).toNat []).length by omega]
        exact q
    · rw [if_neg c5, if_neg c5, if_neg c5]
      have v := sumA (hb := hb) (K := K) (w4 := (w 4).toNat) (e := [32]) (ps := ps + 3) (r := (18 + (w 2).toNat) :: 44 :: r) h2 h3 (ds := ds) (by omega)
      have q := lod1 (gr4 h2) v (by omega)
      refine ⟨3 + (tkS (w 2).toNat (w 3).toNat (w 4).toNat [32]).length + 2, ?_, ?_⟩
      · simp only [List.length_cons, List.length_append, List.length_nil]
        omega
      · have ek : ks ((23, 0, [32]) :: (55, 98 * 16 + (w 1).toNat, [32]) :: (24, 0, [32]) :: (tkS (w 2).toNat (w 3).toNat (w 4).toNat [32] ++ (8, 0, [32]) :: (18 + (w 2).toNat, 0, []) :: ([] ++ [(44, 0, [32])]))) ++ r = 23 :: 55 :: 24 :: (ks (tkS (w 2).toNat (w 3).toNat (w 4).toNat [32]) ++ 8 :: (18 + (w 2).toNat) :: 44 :: r) := by
          unfold ks
          simp only [List.map_cons, List.map_append, List.map_nil, List.cons_append, List.append_assoc, List.nil_append]
        rw [ek, show ps + (3 + (tkS (w 2).toNat (w 3).toNat (w 4).toNat [32]).length + 2) = ps + 3 + (tkS (w 2).toNat (w 3).toNat (w 4).toNat [32]).length + 2 by omega]
        exact q
  · rw [if_neg c1, if_neg c1]
    have lT := dT_len (w 5).toNat (ps + 3)
    have v := tstA (hb := hb) (K := K) (n := n) (m := m) (p := p) (b := b) (w6 := (w 6).toNat) (w7 := (w 7).toNat) (e := []) (ps := ps + 3) (r := r) h5 (ds := ds) (by omega)
    have q := owt (k := if w 0 = 0 then 22 else 25) (by split <;> omega) v (by rw [List.length_append]; omega)
    refine ⟨3 + (tkT n m p b (w 5).toNat (w 6).toNat (w 7).toNat []).length, ?_, ?_⟩
    · unfold tkW
      simp only [List.length_cons, List.length_append, List.length_nil]
      omega
    · have ek : ks ((if w 0 = 0 then 22 else 25, 0, [32]) :: (55, 112 * 16 + (w 1).toNat, [32]) :: (tkW n m p b (w 5).toNat (w 6).toNat (w 7).toNat ++ [(44, 0, [32])])) ++ r = (if w 0 = 0 then 22 else 25) :: 55 :: 26 :: (ks (tkT n m p b (w 5).toNat (w 6).toNat (w 7).toNat []) ++ 44 :: r) := by
        unfold tkW ks
        simp only [List.map_cons, List.map_append, List.map_nil, List.cons_append, List.append_assoc, List.nil_append]
      rw [ek, show ps + (3 + (tkT n m p b (w 5).toNat (w 6).toNat (w 7).toNat []).length) = ps + 3 + (tkT n m p b (w 5).toNat (w 6).toNat (w 7).toNat []).length by omega]
      exact q
end
-- some lines
def Lns (ts : List Tok) (B D : Nat) (dr : Nat → List (Nat × Nat)) : Prop := (∀ ps, (dr ps).length ≤ D) ∧ ∃ c, c ≤ B ∧ ∀ (hb : AH) (K r : List Nat) (ds : List (Nat × Nat)) (ps fu a1 : Nat) (h : AH), ds.length + D ≤ 360 → a1 + c ≤ 400 → GSt hb K (ks ts ++ r) ds ps h → ∃ h', f_Grammar_readsList_l29 (fu + c) h 254 (iI (a1 : Int)) = f_Grammar_readsList_l29 fu h' 254 (iI ((a1 + c : Nat) : Int)) ∧ GSt hb K r (ds ++ dr ps) (ps + ts.length) h'
def dN (_ : Nat) : List (Nat × Nat) := []
theorem Lns.nil : Lns [] 0 0 dN := ⟨fun _ => Nat.le_refl _, 0, Nat.le_refl _, fun hb K r ds ps fu a1 h _ _ g => ⟨h, rfl, by rw [show ds ++ dN ps = ds from List.append_nil ds]; exact g⟩⟩
theorem Lns.app {s t : List Tok} {B B' D D' : Nat} {d d' : Nat → List (Nat × Nat)} (h1 : Lns s B D d) (h2 : Lns t B' D' d') : Lns (s ++ t) (B + B') (D + D') (fun ps => d ps ++ d' (ps + s.length)) := by
  obtain ⟨a1, c1, a2, a3⟩ := h1
  obtain ⟨b1, c2, b2, b3⟩ := h2
  refine ⟨fun ps => ?_, c1 + c2, by omega, fun hb K r ds ps fu a h hd ha g => ?_⟩
  · have := a1 ps
    have := b1 (ps + s.length)
    rw [List.length_append]; omega
  · rw [ks_app, List.append_assoc] at g
    have l1 := a1 ps
    obtain ⟨h', e1, g1⟩ := a3 hb K (ks t ++ r) ds ps (fu + c2) a h (by omega) (by omega) g
    obtain ⟨h'', e2, g2⟩ := b3 hb K r (ds ++ d ps) (ps + s.length) fu (a + c1) h' (by rw [List.length_append]; omega) (by omega) g1
    refine ⟨h'', ?_, ?_⟩
    · rw [show fu + (c1 + c2) = fu + c2 + c1 by omega, e1, e2, show a + c1 + c2 = a + (c1 + c2) by omega]
    · rw [List.length_append, ← Nat.add_assoc, ← List.append_assoc]
      exact g2
theorem Lns.mono {s : List Tok} {B B' D D' : Nat} {d : Nat → List (Nat × Nat)} (h : Lns s B D d) (hB : B ≤ B') (hD : D ≤ D') : Lns s B' D' d := by
  obtain ⟨a1, c1, a2, a3⟩ := h
  exact ⟨fun ps => Nat.le_trans (a1 ps) hD, c1, by omega, fun hb K r ds ps fu a h hd ha g => a3 hb K r ds ps fu a h (by omega) ha g⟩
theorem Lns.line {ts : List Tok} {D : Nat} {d : Nat → List (Nat × Nat)} (hD : ∀ ps, (d ps).length ≤ D) (h0 : nth (ks ts) 0 ≠ 57 ∧ 1 ≤ ts.length) (h : ∀ (hb : AH) (K r : List Nat) (ds : List (Nat × Nat)) (ps : Nat), ds.length + D ≤ 360 → ∃ l, l + 1 = ts.length ∧ Rd hb K (fun h => f_Grammar_readsLine h 254) (ks ts ++ r) ds ps (44 :: r) (ds ++ d ps) (ps + l)) : Lns ts 1 D d := by
  refine ⟨hD, 1, Nat.le_refl _, fun hb K r ds ps fu a1 h1 hd ha g => ?_⟩
  obtain ⟨l, el, q⟩ := h hb K r ds ps hd
  obtain ⟨h2, e2, g2⟩ := q h1 g
  obtain ⟨h3, e3, g3⟩ := rdy g2 (by decide)
  rw [show ps + l + 1 = ps + ts.length by omega] at g3
  refine ⟨h3, ?_, g3⟩
  have e2' : f_Grammar_readsLine h1 254 = some (h2, iI 1) := e2
  have k57 : ¬ hI h1 254 3 = nI 57 := by
    rw [g.cuN]
    have k1 := g.k100
    refine nI_ne2 (by omega) (by omega) ?_
    rw [nth_l (by rw [ks_len]; exact h0.2)]
    exact h0.1
  have ea : iI (a1 : Int) + nI 1 = iI ((a1 + 1 : Nat) : Int) := by rw [nI_L, iI_add]; rfl
  show f_Grammar_readsList_b29 (f_Grammar_readsList_l29 fu) h1 254 (iI (a1 : Int)) = _
  unfold f_Grammar_readsList_b29
  rw [if_neg (by rw [nI_L, iI_lt (by omega) (by omega) (by omega) (by omega)]; omega), gd_P g.t, if_pos k57, bn_C e2', if_neg (by decide), gd_P g2.t, bn_C e3, if_pos (by decide), ea, lq_E]
def dLn (f : Nat → List Tok) (d : Nat → Nat → List (Nat × Nat)) : Nat → Nat → List (Nat × Nat)
  | 0, _ => []
  | k + 1, ps => dLn f d k ps ++ d k (ps + (lnS f k).length)
theorem Lns.ln {f : Nat → List Tok} {d : Nat → Nat → List (Nat × Nat)} {B D : Nat} : ∀ {N : Nat}, (∀ i, i < N → Lns (f i) B D (d i)) → Lns (lnS f N) (B * N) (D * N) (dLn f d N) := by
  intro N
  induction N with
  | zero => intro _; exact Lns.nil
  | succ k ih =>
    intro h
    have q := (ih fun i hi => h i (by omega)).app (h k (by omega))
    exact q.mono (by rw [Nat.mul_succ]; omega) (by rw [Nat.mul_succ]; omega)

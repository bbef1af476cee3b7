/-! 98za L3: the names' state, and simple tokens looked at -/
def RN (h : AH) (j : Nat) (t : Tok) : Prop := (t.1 = 55 → hI h 259 j = iI ((t.2.1 % 16 : Nat) : Int)) ∧ (18 ≤ t.1 ∧ t.1 ≤ 21 → hI h 259 j = iI ((t.1 - 18 : Nat) : Int))
def NSt (hb : AH) (ts : List Tok) (L0 : Nat) (M : GM) (i : Nat) (h : AH) : Prop := SkN hb ∧ Kd (ks ts ++ [57]) hb ∧ (∀ (j : Nat) (t : Tok), ts[j]? = some t → t.1 = 55 → hJ hb 260 j = wj (Int64.ofNat 0) (tkb 55 t.2.1)) ∧ Fn hb h ∧ (∀ c s, c < 47 → hI h (265 + c) s = iI (M c s)) ∧ (∀ k, k < 4 → ∃ x : Nat, M 0 (6 + k) = (x : Int) ∧ x ≤ rl k ∧ Ro k x h) ∧ (∀ (j : Nat) (t : Tok), ts[j]? = some t → t.1 = 56 → hI h 259 j = iI (t.2.1 : Int)) ∧ ∀ (j : Nat) (t : Tok), ts[j]? = some t → L0 ≤ j → j < i → RN h j t
section
variable {hb : AH} {ts : List Tok} {L0 : Nat} {M : GM} {i : Nat} {h : AH}
theorem NSt.sk (g : NSt hb ts L0 M i h) : SkN hb := g.1
theorem NSt.kd (g : NSt hb ts L0 M i h) : Kd (ks ts ++ [57]) hb := g.2.1
theorem NSt.wd (g : NSt hb ts L0 M i h) : ∀ (j : Nat) (t : Tok), ts[j]? = some t → t.1 = 55 → hJ hb 260 j = wj (Int64.ofNat 0) (tkb 55 t.2.1) := g.2.2.1
theorem NSt.fn (g : NSt hb ts L0 M i h) : Fn hb h := g.2.2.2.1
theorem NSt.mi (g : NSt hb ts L0 M i h) : ∀ c s, c < 47 → hI h (265 + c) s = iI (M c s) := g.2.2.2.2.1
theorem NSt.ro (g : NSt hb ts L0 M i h) : ∀ k, k < 4 → ∃ x : Nat, M 0 (6 + k) = (x : Int) ∧ x ≤ rl k ∧ Ro k x h := g.2.2.2.2.2.1
theorem NSt.nu (g : NSt hb ts L0 M i h) : ∀ (j : Nat) (t : Tok), ts[j]? = some t → t.1 = 56 → hI h 259 j = iI (t.2.1 : Int) := g.2.2.2.2.2.2.1
theorem NSt.rn (g : NSt hb ts L0 M i h) : ∀ (j : Nat) (t : Tok), ts[j]? = some t → L0 ≤ j → j < i → RN h j t := g.2.2.2.2.2.2.2
theorem NSt.sk' (g : NSt hb ts L0 M i h) : SkN h := g.fn.skn g.sk
theorem NSt.skt (g : NSt hb ts L0 M i h) : SkT h := g.sk'.2.2.2.2.2.2.2
theorem NSt.skr (g : NSt hb ts L0 M i h) : SkR h 265 := g.sk'.2.2.2.2.2.2.1
theorem NSt.t (g : NSt hb ts L0 M i h) : hT h 253 = 9 := g.sk'.1
theorem NSt.r1 (g : NSt hb ts L0 M i h) : hR h 253 1 = 255 := g.sk'.2.2.1
theorem NSt.r2 (g : NSt hb ts L0 M i h) : hR h 253 2 = 265 := g.sk'.2.2.2.1
theorem NSt.rr (g : NSt hb ts L0 M i h) {k : Nat} (hk : k < 4) : hR h 253 (3 + k) = 312 + 2 * k := g.sk'.2.2.2.2.1 k hk
theorem NSt.tt (g : NSt hb ts L0 M i h) : hT h 255 = 11 := g.skt.1.1
theorem NSt.tr (g : NSt hb ts L0 M i h) : hT h 265 = 3 := g.skr.t
theorem NSt.kdh (g : NSt hb ts L0 M i h) : Kd (ks ts ++ [57]) h := g.fn.kd g.kd
theorem nth_ks {ts : List Tok} : ∀ {j : Nat} {t : Tok}, ts[j]? = some t → nth (ks ts ++ [57]) j = t.1 ∧ j < ts.length := by
  induction ts with
  | nil => intro j t q; rw [List.getElem?_nil] at q; cases q
  | cons a l ih =>
    intro j t q
    cases j with
    | zero =>
      rw [List.getElem?_cons_zero] at q
      obtain rfl : a = t := Option.some.inj q
      exact ⟨rfl, by rw [List.length_cons]; omega⟩
    | succ j =>
      rw [List.getElem?_cons_succ] at q
      obtain ⟨q1, q2⟩ := ih q
      exact ⟨q1, by rw [List.length_cons]; omega⟩
theorem NSt.len (g : NSt hb ts L0 M i h) : ts.length ≤ 399 := by
  have := g.kd.2.1
  rw [List.length_append, List.length_singleton, ks_len] at this
  omega
theorem NSt.kind (g : NSt hb ts L0 M i h) {j : Nat} {t : Tok} (q : ts[j]? = some t) : f_Tokens_kindOf_I h 255 (iI (j : Int)) = some (h, nI t.1) := by
  obtain ⟨q1, q2⟩ := nth_ks q
  have e := kindI_E g.skt g.kdh (i := j) (by rw [List.length_append, List.length_singleton, ks_len]; omega)
  rw [q1] at e
  rw [nI_i]
  exact e
theorem NSt.word (g : NSt hb ts L0 M i h) {j : Nat} {t : Tok} (q : ts[j]? = some t) (k : t.1 = 55) : f_Tokens_wordOf h 255 (iI (j : Int)) = some (h, wj (Int64.ofNat 0) (tkb 55 t.2.1)) := by
  obtain ⟨q1, q2⟩ := nth_ks q
  have := g.len
  rw [wordOf_E g.skt (by omega), g.fn.2.2 _ _ (by omega), g.wd j t q k]
theorem NSt.numb (g : NSt hb ts L0 M i h) {j : Nat} {t : Tok} (q : ts[j]? = some t) (k : t.1 = 56) : f_Tokens_numberOf h 255 (iI (j : Int)) = some (h, iI (t.2.1 : Int)) := by
  obtain ⟨q1, q2⟩ := nth_ks q
  have := g.len
  rw [numberOf_T g.skt (by omega), g.nu j t q k]
-- writes
theorem NSt.w (g : NSt hb ts L0 M i h) {c s : Nat} {v : Int} (hc : c < 47) (hs : ¬ (c = 0 ∧ 6 ≤ s ∧ s ≤ 9)) : NSt hb ts L0 (up2 M c s v) i (wI h (265 + c) s (iI v)) := by
  refine ⟨g.sk, g.kd, g.wd, g.fn.trans (Fn.wi (by omega)), fun c' s' hc' => ?_, fun k hk => ?_, fun j t q k => ?_, fun j t q a b => ?_⟩
  · by_cases e : c' = c ∧ s' = s
    · obtain ⟨rfl, rfl⟩ := e
      rw [hI_we, up2_e]
    · rw [hI_wn _ _ _ _ _ _ (by omega), up2_n _ _ _ _ _ _ e, g.mi c' s' hc']
  · obtain ⟨x, x1, x2, x3, x4⟩ := g.ro k hk
    refine ⟨x, by rw [up2_n _ _ _ _ _ _ (by omega)]; exact x1, x2, ?_, x4⟩
    rw [hI_wn _ _ _ _ _ _ (by omega)]; exact x3
  · rw [hI_wn _ _ _ _ _ _ (by omega)]; exact g.nu j t q k
  · obtain ⟨r1, r2⟩ := g.rn j t q a b
    unfold RN
    rw [hI_wn _ _ _ _ _ _ (by omega)]
    exact ⟨r1, r2⟩
theorem NSt.w7 (g : NSt hb ts L0 M i h) (v : Int32) : NSt hb ts L0 M i (wI h 253 7 v) := by
  refine ⟨g.sk, g.kd, g.wd, g.fn.trans (Fn.wi (by omega)), fun c' s' hc' => ?_, fun k hk => ?_, fun j t q k => ?_, fun j t q a b => ?_⟩
  · rw [hI_wn _ _ _ _ _ _ (by omega), g.mi c' s' hc']
  · obtain ⟨x, x1, x2, x3, x4⟩ := g.ro k hk
    refine ⟨x, x1, x2, ?_, x4⟩
    rw [hI_wn _ _ _ _ _ _ (by omega)]; exact x3
  · rw [hI_wn _ _ _ _ _ _ (by omega)]; exact g.nu j t q k
  · obtain ⟨r1, r2⟩ := g.rn j t q a b
    unfold RN
    rw [hI_wn _ _ _ _ _ _ (by omega)]
    exact ⟨r1, r2⟩
theorem NSt.num (g : NSt hb ts L0 M i h) {t : Tok} (q : ts[i]? = some t) (k : t.1 ≠ 56) (v : Int32) : NSt hb ts L0 M i (wI h 259 i v) := by
  refine ⟨g.sk, g.kd, g.wd, g.fn.trans (Fn.wi (by omega)), fun c' s' hc' => ?_, fun k hk => ?_, fun j t' q' k' => ?_, fun j t' q' a b => ?_⟩
  · rw [hI_wn _ _ _ _ _ _ (by omega), g.mi c' s' hc']
  · obtain ⟨x, x1, x2, x3, x4⟩ := g.ro k hk
    refine ⟨x, x1, x2, ?_, x4⟩
    rw [hI_wn _ _ _ _ _ _ (by omega)]; exact x3
  · have ne : j ≠ i := fun e => by
      subst e
      rw [q] at q'
      obtain rfl := Option.some.inj q'
      exact k k'
    rw [hI_wn _ _ _ _ _ _ (by omega)]; exact g.nu j t' q' k'
  · obtain ⟨r1, r2⟩ := g.rn j t' q' a b
    unfold RN
    rw [hI_wn _ _ _ _ _ _ (by omega)]
    exact ⟨r1, r2⟩
theorem NSt.next (g : NSt hb ts L0 M i h) {t : Tok} (q : ts[i]? = some t) (r : L0 ≤ i → RN h i t) : NSt hb ts L0 M (i + 1) h := by
  refine ⟨g.sk, g.kd, g.wd, g.fn, g.mi, g.ro, g.nu, fun j t' q' a b => ?_⟩
  by_cases e : j = i
  · subst e
    rw [q] at q'
    obtain rfl := Option.some.inj q'
    exact r a
  · exact g.rn j t' q' a (by omega)
theorem RN.o {j : Nat} {t : Tok} (h1 : t.1 ≠ 55) (h2 : ¬ (18 ≤ t.1 ∧ t.1 ≤ 21)) : RN h j t := ⟨fun q => absurd q h1, fun q => absurd q h2⟩
end
-- one token looked at
def LA (ts : List Tok) (L0 : Nat) (M : GM) (i : Nat) (M' : GM) : Prop := ∀ (hb h : AH) (t : Tok), ts[i]? = some t → NSt hb ts L0 M i h → hI h 253 7 = iI (i : Int) → ∃ h', f_Names_lookAt h 253 (nI t.1) = some (h', iI 0) ∧ NSt hb ts L0 M' (i + 1) h'
-- n tokens from the i-th on
def NL (ts : List Tok) (L0 : Nat) (M : GM) (i n : Nat) (M' : GM) : Prop := ∀ (hb h : AH) (fu : Nat), NSt hb ts L0 M i h → ∃ h', f_Names_lookAtAll_l30 (fu + n) h 253 (iI (i : Int)) = f_Names_lookAtAll_l30 fu h' 253 (iI ((i + n : Nat) : Int)) ∧ NSt hb ts L0 M' (i + n) h'
theorem NL.nil {ts : List Tok} {L0 : Nat} {M : GM} {i : Nat} : NL ts L0 M i 0 M := fun _ h _ g => ⟨h, rfl, g⟩
theorem NL.trans {ts : List Tok} {L0 : Nat} {M M' M'' : GM} {i n k : Nat} (a : NL ts L0 M i n M') (b : NL ts L0 M' (i + n) k M'') : NL ts L0 M i (n + k) M'' := by
  intro hb h fu g
  obtain ⟨h1, e1, g1⟩ := a hb h (fu + k) g
  obtain ⟨h2, e2, g2⟩ := b hb h1 fu g1
  refine ⟨h2, ?_, by rw [← Nat.add_assoc]; exact g2⟩
  rw [show fu + (n + k) = fu + k + n by omega, e1, e2, Nat.add_assoc]
theorem NL.one {ts : List Tok} {L0 : Nat} {M M' : GM} {i : Nat} {t : Tok} (q : ts[i]? = some t) (k57 : t.1 < 57) (l : LA ts L0 M i M') : NL ts L0 M i 1 M' := by
  intro hb h fu g
  obtain ⟨q1, q2⟩ := nth_ks q
  have hl := g.len
  have g1 := g.w7 (iI (i : Int))
  obtain ⟨h', e, g'⟩ := l hb _ t q g1 (hI_we _ _ _ _)
  refine ⟨h', ?_, g'⟩
  have ep : iI (i : Int) + nI 1 = iI ((i + 1 : Nat) : Int) := by rw [nI_L, iI_add]; rfl
  show f_Names_lookAtAll_b30 (f_Names_lookAtAll_l30 fu) h 253 (iI (i : Int)) = _
  unfold f_Names_lookAtAll_b30
  rw [if_neg (by rw [nI_L, iI_le (by omega) (by omega) (by omega) (by omega)]; omega), gd_P g.t, g.r1, gd_P g.tt, bn_C (g.kind q), if_neg (nI_ne2 (by omega) (by omega) (by omega)), gd_P g.t, lq_E, gd_P g1.t, g1.r1, gd_P g1.tt, bn_C (g1.kind q), gd_P g1.t, bn_C e, if_pos (by decide), ep, lq_E]
section
variable {ts : List Tok} {L0 : Nat} {M : GM} {i : Nat}
theorem laSkip {t0 : Tok} (q0 : ts[i]? = some t0) (hk : t0.1 < 100 ∧ ¬ (18 ≤ t0.1 ∧ t0.1 ≤ 23) ∧ t0.1 ≠ 25 ∧ t0.1 ≠ 55 ∧ t0.1 ≠ 56) : LA ts L0 M i M := by
  intro hb h t q g e7
  rw [q0] at q
  obtain rfl := Option.some.inj q
  refine ⟨h, ?_, g.next q0 fun _ => RN.o hk.2.2.2.1 (by omega)⟩
  unfold f_Names_lookAt
  rw [if_neg (nI_ne2 (by omega) (by omega) (by omega)), if_neg (nI_ne2 (by omega) (by omega) (by omega)), if_neg (nI_ne2 (by omega) (by omega) (by omega)), if_neg (nI_ne2 (by omega) (by omega) (by omega)), if_neg (nI_ne2 (by omega) (by omega) (by omega)), if_neg (nI_ne2 (by omega) (by omega) (by omega)), if_neg (nI_ne2 (by omega) (by omega) (by omega)), if_neg (nI_ne2 (by omega) (by omega) (by omega)), if_neg (nI_ne2 (by omega) (by omega) (by omega))]
  rfl
theorem laGrade {t0 : Tok} (q0 : ts[i]? = some t0) (hk : isGr t0.1) : LA ts L0 M i M := by
  intro hb h t q g e7
  rw [q0] at q
  obtain rfl := Option.some.inj q
  have k1 : 18 ≤ t0.1 ∧ t0.1 ≤ 21 := by unfold isGr at hk; omega
  obtain ⟨q1, q2⟩ := nth_ks q0
  have hl := g.len
  have es : f_Tokens_setNumber h 255 (iI (i : Int)) (nI t0.1 - nI 18) = some (wI h 259 i (iI ((t0.1 - 18 : Nat) : Int))) := by
    rw [setNumber_E g.skt (by omega), nI_i t0.1, nI_L, iI_sub]
    congr 3
    omega
  refine ⟨wI h 259 i (iI ((t0.1 - 18 : Nat) : Int)), ?_, (g.num q0 (by omega) _).next q0 fun _ => ⟨fun q => by omega, fun _ => hI_we _ _ _ _⟩⟩
  have fin : ∀ X, (gd (hT h 253 = 9) (gd (hT h (hR h 253 1) = 11) (bv (f_Tokens_setNumber h (hR h 253 1) (hI h 253 7) (nI t0.1 - nI 18)) fun h4 => some (h4, nI 0)))) = X → some (wI h 259 i (iI ((t0.1 - 18 : Nat) : Int)), iI 0) = X := by
    intro X e
    rw [← e, gd_P g.t, g.r1, gd_P g.tt, e7, es, bv_S]
    rfl
  unfold f_Names_lookAt
  symm
  apply fin
  rcases hk with k | k | k | k
  · rw [k, if_pos rfl]
  · rw [k, if_neg (by decide), if_pos rfl]
  · rw [k, if_neg (by decide), if_neg (by decide), if_pos rfl]
  · rw [k, if_neg (by decide), if_neg (by decide), if_neg (by decide), if_pos rfl]
theorem laOrder {t0 : Tok} {x : Nat} (q0 : ts[i]? = some t0) (hk : t0.1 = 22 ∨ t0.1 = 23 ∨ t0.1 = 25) (hx : M 0 10 = (x : Int)) (hx2 : x < 20) : LA ts L0 M i (up2 M 0 10 ((x + 1 : Nat) : Int)) := by
  intro hb h t q g e7
  rw [q0] at q
  obtain rfl := Option.some.inj q
  have m10 : hI h 265 10 = iI (x : Int) := by rw [← hx]; exact g.mi 0 10 (by omega)
  have g1 := g.w (c := 0) (s := 10) (v := ((x + 1 : Nat) : Int)) (by omega) (by omega)
  have e1 : hI h 265 10 + nI 1 = iI ((x + 1 : Nat) : Int) := by rw [m10, nI_L, iI_add]; rfl
  have e2 : hI (wI h 265 10 (iI ((x + 1 : Nat) : Int))) 265 10 = iI ((x + 1 : Nat) : Int) := hI_we _ _ _ _
  have g1r : hR (wI h 265 10 (iI ((x + 1 : Nat) : Int))) 253 2 = 265 := g1.r2
  have c1 : iI ((x + 1 : Nat) : Int) ≤ nI 20 := by rw [nI_L, iI_le (by omega) (by omega) (by omega) (by omega)]; omega
  refine ⟨wI h 265 10 (iI ((x + 1 : Nat) : Int)), ?_, g1.next q0 fun _ => RN.o (by omega) (by omega)⟩
  unfold f_Names_lookAt
  have gt1 : hT (wI h 265 10 (iI ((x + 1 : Nat) : Int))) 253 = 9 := g1.t
  have gt2 : hT (wI h 265 10 (iI ((x + 1 : Nat) : Int))) 265 = 3 := g1.tr
  rcases hk with k | k | k
  · rw [k, if_neg (by decide), if_neg (by decide), if_neg (by decide), if_neg (by decide), if_pos rfl, gd_P g.t, g.r2, gd_P g.tr, e1, lq_E, gd_P gt1, g1r, gd_P gt2, e2, if_pos c1]
    rfl
  · rw [k, if_neg (by decide), if_neg (by decide), if_neg (by decide), if_neg (by decide), if_neg (by decide), if_pos rfl, gd_P g.t, g.r2, gd_P g.tr, e1, lq_E, gd_P gt1, g1r, gd_P gt2, e2, if_pos c1]
    rfl
  · rw [k, if_neg (by decide), if_neg (by decide), if_neg (by decide), if_neg (by decide), if_neg (by decide), if_neg (by decide), if_pos rfl, gd_P g.t, g.r2, gd_P g.tr, e1, lq_E, gd_P gt1, g1r, gd_P gt2, e2, if_pos c1]
    rfl
end

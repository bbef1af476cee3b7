/-! 98zu L3: constructors, III: orders, rolls, tokens with their keywords -/
theorem orNew {h : AH} {a : Nat} (t : hT h a = 2) (ha : a < hN h) : ∃ h', f_Orders_init h a = some h' ∧ Nw (fun x => x = a) 3 1200 h h' ∧ (hR h' a 0 = hN h ∧ hR h' a 1 = hN h + 1 ∧ hR h' a 3 = hN h + 2) ∧ ∀ i, i < 3 → hT h' (hN h + i) = 101 ∧ hL h' (hN h + i) = 400 := by
  have i4 : ix (nI 400) = 400 := ix_n (by omega)
  have w1 : Nw (fun x => x = a) 1 400 h (fa h 101 400 a 0) := fa_w (by omega)
  obtain ⟨h1, e1⟩ : ∃ y, y = fa h 101 400 a 0 := ⟨_, rfl⟩
  have r1 : hR h1 a 0 = hN h := by rw [e1]; exact fa_R
  have q1 : hT h1 (hN h) = 101 ∧ hL h1 (hN h) = 400 := by rw [e1]; exact ⟨fa_T, fa_L⟩
  rw [← e1] at w1
  have n1 := w1.n
  have t1 : hT h1 a = 2 := (w1.t (by omega)).trans t
  have w2 : Nw (fun x => x = a) 1 400 h1 (fa h1 101 400 a 1) := fa_w (by omega)
  obtain ⟨h2, e2⟩ : ∃ y, y = fa h1 101 400 a 1 := ⟨_, rfl⟩
  have r2 : hR h2 a 1 = hN h1 ∧ hR h2 a 0 = hR h1 a 0 := by rw [e2]; exact ⟨fa_R, fa_R2 (by omega) (by decide)⟩
  have q2 : hT h2 (hN h1) = 101 ∧ hL h2 (hN h1) = 400 := by rw [e2]; exact ⟨fa_T, fa_L⟩
  rw [← e2] at w2
  have n2 := w2.n
  have t2 : hT h2 a = 2 := (w2.t (by omega)).trans t1
  have w3 : Nw (fun x => x = a) 0 0 h2 (wI h2 a 2 (nI 0)) := Nw.wi rfl
  obtain ⟨h3, e3⟩ : ∃ y, y = wI h2 a 2 (nI 0) := ⟨_, rfl⟩
  have r3 : hR h3 = hR h2 := by rw [e3]; rfl
  rw [← e3] at w3
  have n3 := w3.n
  have t3 : hT h3 a = 2 := (w3.t (by omega)).trans t2
  have w4 : Nw (fun x => x = a) 1 400 h3 (fa h3 101 400 a 3) := fa_w (by omega)
  obtain ⟨h4, e4⟩ : ∃ y, y = fa h3 101 400 a 3 := ⟨_, rfl⟩
  have r4 : hR h4 a 3 = hN h3 ∧ hR h4 a 1 = hR h3 a 1 ∧ hR h4 a 0 = hR h3 a 0 := by rw [e4]; exact ⟨fa_R, fa_R2 (by omega) (by decide), fa_R2 (by omega) (by decide)⟩
  have q4 : hT h4 (hN h3) = 101 ∧ hL h4 (hN h3) = 400 := by rw [e4]; exact ⟨fa_T, fa_L⟩
  rw [← e4] at w4
  have n4 := w4.n
  have t4 : hT h4 a = 2 := (w4.t (by omega)).trans t3
  have w5 : Nw (fun x => x = a) 0 0 h4 (wI h4 a 4 (nI 0)) := Nw.wi rfl
  refine ⟨wI h4 a 4 (nI 0), ?_, ((((w1.trans w2 fun _ _ y => y).trans w3 fun _ _ y => y).trans w4 fun _ _ y => y).trans w5 fun _ _ y => y).mono (fun _ _ y => y) rfl rfl, ⟨?_, ?_, ?_⟩, fun i hi => ?_⟩
  · unfold f_Orders_init
    rw [gd_P t, i4, fa_E t (by omega), ← e1, fa_E t1 (by omega), ← e2, gd_P t2, lq_E, ← e3, fa_E t3 (by omega), ← e4, gd_P t4, lq_E]
  · show hR h4 a 0 = _
    rw [r4.2.2, r3, r2.2, r1]
  · show hR h4 a 1 = _
    rw [r4.2.1, r3, r2.1]
    omega
  · show hR h4 a 3 = _
    rw [r4.1]
    omega
  · show hT h4 _ = _ ∧ hL h4 _ = _
    rcases (show i = 0 ∨ i = 1 ∨ i = 2 by omega) with rfl | rfl | rfl
    · rw [Nat.add_zero, w4.t (by omega), w3.t (by omega), w2.t (by omega), w4.l (by omega), w3.l (by omega), w2.l (by omega)]
      exact q1
    · rw [show hN h + 1 = hN h1 by omega, w4.t (by omega), w3.t (by omega), w4.l (by omega), w3.l (by omega)]
      exact q2
    · rw [show hN h + 2 = hN h3 by omega]
      exact q4
theorem rlNew {h : AH} {a k : Nat} (t : hT h a = 12) (ha : a < hN h) (hk : k ≤ 100) : ∃ h', f_Roll_init h a (nI k) = some h' ∧ Nw (fun x => x = a) 1 k h h' ∧ hR h' a 0 = hN h ∧ hT h' (hN h) = 103 ∧ hL h' (hN h) = k := by
  have w1 : Nw (fun x => x = a) 0 0 h (wI h a 1 (nI 0)) := Nw.wi rfl
  obtain ⟨h1, e1⟩ : ∃ y, y = wI h a 1 (nI 0) := ⟨_, rfl⟩
  have ik : ix (iI (k : Int)) = k := iI_ixn (by omega)
  rw [← e1] at w1
  have n1 := w1.n
  have t1 : hT h1 a = 12 := (w1.t (by omega)).trans t
  have w2 : Nw (fun x => x = a) 1 k h1 (fa h1 103 k a 0) := fa_w (by omega)
  have m := max_E (h := h1) (a := 0) (b := (k : Int)) (by omega) (by omega) (by omega) (by omega)
  rw [Int.max_eq_right (by omega)] at m
  refine ⟨fa h1 103 k a 0, ?_, (w1.trans w2 fun _ _ y => y).mono (fun _ _ y => y) (by omega) (by omega), fa_R.trans (by omega), ?_, ?_⟩
  · unfold f_Roll_init
    rw [gd_P t, lq_E, ← e1, nI_i k, nI_L, bn_C m, gd_P ⟨by rw [z_i, iI_lt (by omega) (by omega) (by omega) (by omega)]; omega, by rw [ik]; omega⟩, ik, fa_E t1 (by omega)]
  · rw [show hN h = hN h1 by omega]; exact fa_T
  · rw [show hN h = hN h1 by omega]; exact fa_L
-- heaps with other longs
def sJ (h : AH) (J : Nat → Nat → Int64) : AH := (hN h, hU h, hT h, hL h, hI h, hR h, J)
theorem wJ_s (h : AH) (J : Nat → Nat → Int64) (a k : Nat) (v : Int64) : wJ (sJ h J) a k v = sJ h (up2 J a k v) := rfl
theorem sJ_id (h : AH) : sJ h (hJ h) = h := rfl
-- what the tokens' row wants of the heap
def Kw (h : AH) (a A : Nat) : Prop := hT h a = 11 ∧ hR h a 0 = A ∧ hT h A = 103 ∧ hL h A = 39 ∧ Str h 112 s112
theorem Kw.s {h : AH} {a A : Nat} (k : Kw h a A) (J : Nat → Nat → Int64) : Kw (sJ h J) a A := k
theorem s112_128 : ∀ i, nth s112 i < 128 := by
  have q : (s112.all fun c => decide (c < 128)) = true := by decide +kernel
  exact nth_128 fun c hc => of_decide_eq_true (List.all_eq_true.mp q c hc)
theorem s112_len : s112.length ≤ 400 := by decide +kernel
-- one sign that is no blank
theorem kw_c {h : AH} {a A : Nat} (H : Kw h a A) {J : Nat → Nat → Int64} {k p c : Nat} {acc : Int64} {r : List Nat} (hk : k < 39) (hc : c ≠ 32) (at0 : At s112 p (c :: r)) (N : Nat) :
    f_Tokens_init_l60 (N + 1) (sJ h J) a (iI (k : Int)) acc (iI (p : Int)) = f_Tokens_init_l60 N (sJ h (up2 J A k (jst acc c))) a (iI (k : Int)) (jst acc c) (iI ((p + 1 : Nat) : Int)) := by
  obtain ⟨H1, H2, H3, H4, H5⟩ := H.s J
  have hd := at0.hd
  have lt := at0.lt
  have sl := s112_len
  have c128 := s112_128 p
  have ec := charAt_E H5 lt (by omega) c128
  rw [hd] at ec c128
  have es := slen_E H5
  have nc : ¬ iI (c : Int) = nI 32 := by rw [nI_L, iI_eq (by omega) (by omega) (by omega) (by omega)]; omega
  show f_Tokens_init_b60 (f_Tokens_init_l60 N) (sJ h J) a (iI (k : Int)) acc (iI (p : Int)) = _
  have ck : ¬ nI 39 ≤ iI (k : Int) := by rw [nI_L, iI_le (by omega) (by omega) (by omega) (by omega)]; omega
  have e3 : f_Tokens_init_b120 (f_Tokens_init_l60 N) (sJ h J) a (jst acc c) (iI (p : Int)) (iI (k : Int)) = f_Tokens_init_l60 N (sJ h (up2 J A k (jst acc c))) a (iI (k : Int)) (jst acc c) (iI ((p + 1 : Nat) : Int)) := by
    unfold f_Tokens_init_b120
    rw [gd_P H1, H2, gd_P H3, H4, if_neg ck, gd_P ⟨H3, inb_i hk (by omega)⟩, ix_i (by omega), lq_E, wJ_s]
    unfold f_Tokens_init_b137
    rw [nI_L, iI_add, lq_E]
    rfl
  unfold f_Tokens_init_b60
  rw [gd_P H5.1, bn_C es, if_neg (by rw [iI_le (by omega) (by omega) (by omega) (by omega)]; omega), gd_P H1, H2, gd_P H3, H4, if_neg ck, gd_P H5.1, bn_C ec, if_pos nc, bn_C (joined_E c128)]
  unfold f_Tokens_init_b105
  rw [if_pos nc, e3]
-- a blank
theorem kw_b {h : AH} {a A : Nat} (H : Kw h a A) {J : Nat → Nat → Int64} {k p : Nat} {acc : Int64} {r : List Nat} (hk : k + 1 < 39) (at0 : At s112 p (32 :: r)) (N : Nat) :
    f_Tokens_init_l60 (N + 1) (sJ h J) a (iI (k : Int)) acc (iI (p : Int)) = f_Tokens_init_l60 N (sJ h (up2 J A (k + 1) (Int64.ofNat 0))) a (iI ((k + 1 : Nat) : Int)) (Int64.ofNat 0) (iI ((p + 1 : Nat) : Int)) := by
  obtain ⟨H1, H2, H3, H4, H5⟩ := H.s J
  have hd := at0.hd
  have lt := at0.lt
  have sl := s112_len
  have ec := charAt_E H5 lt (by omega) (s112_128 p)
  rw [hd] at ec
  have es := slen_E H5
  have nc : ¬ ¬ iI ((32 : Nat) : Int) = nI 32 := fun y => y (nI_i 32).symm
  show f_Tokens_init_b60 (f_Tokens_init_l60 N) (sJ h J) a (iI (k : Int)) acc (iI (p : Int)) = _
  have ck : ¬ nI 39 ≤ iI (k : Int) := by rw [nI_L, iI_le (by omega) (by omega) (by omega) (by omega)]; omega
  have ck1 : ¬ nI 39 ≤ iI ((k + 1 : Nat) : Int) := by rw [nI_L, iI_le (by omega) (by omega) (by omega) (by omega)]; omega
  have ek : iI (k : Int) + nI 1 = iI ((k + 1 : Nat) : Int) := by rw [nI_L, iI_add]; rfl
  have ep : iI (p : Int) + nI 1 = iI ((p + 1 : Nat) : Int) := by rw [nI_L, iI_add]; rfl
  have e3 : f_Tokens_init_b120 (f_Tokens_init_l60 N) (sJ h J) a (Int64.ofNat 0) (iI (p : Int)) (iI ((k + 1 : Nat) : Int)) = f_Tokens_init_l60 N (sJ h (up2 J A (k + 1) (Int64.ofNat 0))) a (iI ((k + 1 : Nat) : Int)) (Int64.ofNat 0) (iI ((p + 1 : Nat) : Int)) := by
    unfold f_Tokens_init_b120
    rw [gd_P H1, H2, gd_P H3, H4, if_neg ck1, gd_P ⟨H3, inb_i hk (by omega)⟩, ix_i (by omega), lq_E, wJ_s]
    unfold f_Tokens_init_b137
    rw [ep, lq_E]
  unfold f_Tokens_init_b60
  rw [gd_P H5.1, bn_C es, if_neg (by rw [iI_le (by omega) (by omega) (by omega) (by omega)]; omega), gd_P H1, H2, gd_P H3, H4, if_neg ck, gd_P H5.1, bn_C ec, if_neg nc]
  unfold f_Tokens_init_b105
  rw [if_neg nc, ek, e3]
-- a word
theorem kw_w {h : AH} {a A : Nat} (H : Kw h a A) {k : Nat} (hk : k < 39) {r : List Nat} : ∀ (w : List Nat) {J : Nat → Nat → Int64} {p N : Nat} {acc : Int64}, (∀ c ∈ w, c ≠ 32) → At s112 p (w ++ r) →
    ∃ J', f_Tokens_init_l60 (w.length + N) (sJ h J) a (iI (k : Int)) acc (iI (p : Int)) = f_Tokens_init_l60 N (sJ h J') a (iI (k : Int)) (wj acc w) (iI ((p + w.length : Nat) : Int)) ∧ ((w = [] ∧ J' = J) ∨ (w ≠ [] ∧ J' A k = wj acc w)) ∧ ∀ c s, ¬ (c = A ∧ s = k) → J' c s = J c s := by
  intro w
  induction w with
  | nil =>
    intro J p N acc _ _
    exact ⟨J, by rw [List.length_nil, Nat.zero_add, Nat.add_zero]; rfl, Or.inl ⟨rfl, rfl⟩, fun _ _ _ => rfl⟩
  | cons c w ih =>
    intro J p N acc hw a0
    have a1 : At s112 p (c :: (w ++ r)) := a0
    have st := kw_c H (J := J) (acc := acc) hk (hw c (List.mem_cons_self ..)) a1 (w.length + N)
    obtain ⟨J', e, f1, f2⟩ := ih (J := up2 J A k (jst acc c)) (p := p + 1) (N := N) (acc := jst acc c) (fun x hx => hw x (List.mem_cons_of_mem _ hx)) a1.skip1
    refine ⟨J', ?_, Or.inr ⟨List.cons_ne_nil _ _, ?_⟩, fun c' s n => by rw [f2 c' s n, up2_n _ _ _ _ _ _ n]⟩
    · rw [List.length_cons, show w.length + 1 + N = (w.length + N) + 1 by omega, st, e, show p + 1 + w.length = p + (w.length + 1) by omega]
      rfl
    · rcases f1 with ⟨g1, g2⟩ | ⟨g1, g2⟩
      · rw [g2, g1, up2_e]
        rfl
      · exact g2
-- words with blanks between
def kjoin : List (List Nat) → List Nat
  | [] => []
  | [w] => w
  | w :: x :: ws => w ++ 32 :: kjoin (x :: ws)
theorem kw_all {h : AH} {a A : Nat} (H : Kw h a A) : ∀ (ws : List (List Nat)) {J : Nat → Nat → Int64} {k p N : Nat}, ws ≠ [] → (∀ w ∈ ws, w ≠ [] ∧ ∀ c ∈ w, c ≠ 32) → k + ws.length ≤ 39 → At s112 p (kjoin ws) →
    ∃ J', f_Tokens_init_l60 ((kjoin ws).length + 1 + N) (sJ h J) a (iI (k : Int)) (Int64.ofNat 0) (iI (p : Int)) = some (sJ h J') ∧ (∀ i, i < ws.length → J' A (k + i) = wj (Int64.ofNat 0) ((ws[i]?).getD [])) ∧ ∀ c s, ¬ (c = A ∧ k ≤ s) → J' c s = J c s := by
  intro ws
  induction ws with
  | nil => intro J k p N n; exact absurd rfl n
  | cons w ws ih =>
    intro J k p N _ hw hk a0
    obtain ⟨w1, w2⟩ := hw w (List.mem_cons_self ..)
    rw [List.length_cons] at hk
    have sl := s112_len
    rcases ws with _ | ⟨x, ws⟩
    · have a1 : At s112 p (w ++ []) := by rw [List.append_nil]; exact a0
      obtain ⟨J', e, f1, f2⟩ := kw_w H (J := J) (k := k) (by omega) (N := 1 + N) (acc := Int64.ofNat 0) w w2 a1
      have ae := a0.1
      have ae' : p + w.length = s112.length := ae
      have H' := H.s J'
      have es := slen_E H'.2.2.2.2
      refine ⟨J', ?_, fun i hi => ?_, fun c s n => f2 c s (fun y => n ⟨y.1, by omega⟩)⟩
      · rw [show (kjoin [w]).length + 1 + N = w.length + (1 + N) by show w.length + 1 + N = _; omega, e, show 1 + N = N + 1 by omega]
        show f_Tokens_init_b60 (f_Tokens_init_l60 N) (sJ h J') a (iI (k : Int)) _ (iI ((p + w.length : Nat) : Int)) = _
        unfold f_Tokens_init_b60
        rw [gd_P H'.2.2.2.2.1, bn_C es, ae', if_pos (by rw [iI_le (by omega) (by omega) (by omega) (by omega)]; omega)]
      · rw [List.length_singleton] at hi
        obtain rfl : i = 0 := by omega
        rcases f1 with ⟨g1, _⟩ | ⟨_, g2⟩
        · exact absurd g1 w1
        · exact g2
    · have a1 : At s112 p (w ++ 32 :: kjoin (x :: ws)) := a0
      rw [List.length_cons] at hk
      obtain ⟨J1, e1, f1, f2⟩ := kw_w H (J := J) (k := k) (by omega) (N := 1 + ((kjoin (x :: ws)).length + 1 + N)) (acc := Int64.ofNat 0) w w2 a1
      have b := kw_b H (J := J1) (k := k) (p := p + w.length) (acc := wj (Int64.ofNat 0) w) (by omega) a1.skip ((kjoin (x :: ws)).length + 1 + N)
      obtain ⟨J', e2, g1, g2⟩ := ih (J := up2 J1 A (k + 1) (Int64.ofNat 0)) (k := k + 1) (p := p + w.length + 1) (N := N) (List.cons_ne_nil _ _) (fun y hy => hw y (List.mem_cons_of_mem _ hy)) (by rw [List.length_cons]; omega) a1.skip.skip1
      refine ⟨J', ?_, fun i hi => ?_, fun c s n => ?_⟩
      · rw [show (kjoin (w :: x :: ws)).length + 1 + N = w.length + (1 + ((kjoin (x :: ws)).length + 1 + N)) by
          show (w ++ 32 :: kjoin (x :: ws)).length + 1 + N = _
          rw [List.length_append, List.length_cons]
          omega, e1, show 1 + ((kjoin (x :: ws)).length + 1 + N) = ((kjoin (x :: ws)).length + 1 + N) + 1 by omega, b, e2]
      · rcases i with _ | i
        · rw [Nat.add_zero, g2 A k (by omega), up2_n _ _ _ _ _ _ (by omega)]
          rcases f1 with ⟨q1, _⟩ | ⟨_, q2⟩
          · exact absurd q1 w1
          · exact q2
        · rw [show k + (i + 1) = k + 1 + i by omega, g1 i (by rw [List.length_cons] at hi; omega)]
          rfl
      · rw [g2 c s (fun y => n ⟨y.1, by have := y.2; omega⟩), up2_n _ _ _ _ _ _ (fun y => n ⟨y.1, by have := y.2; omega⟩), f2 c s (fun y => n ⟨y.1, by have := y.2; omega⟩)]
def KWS : List (List Nat) := (KWL.drop 1).take 39
theorem KWS_j : kjoin KWS = s112 := by decide +kernel
theorem KWS_l : KWS.length = 39 := by decide +kernel
theorem KWS_w : ∀ w ∈ KWS, w ≠ [] ∧ ∀ c ∈ w, c ≠ 32 := by
  have q : (KWS.all fun w => decide (w ≠ []) && w.all fun c => decide (c ≠ 32)) = true := by decide +kernel
  intro w hw
  have q1 := List.all_eq_true.mp q w hw
  rw [Bool.and_eq_true] at q1
  exact ⟨of_decide_eq_true q1.1, fun c hc => of_decide_eq_true (List.all_eq_true.mp q1.2 c hc)⟩
theorem KWS_i {i : Nat} (hi : i < 39) : (KWS[i]?).getD [] = (KWL[i + 1]?).getD [] := by
  have q : ((List.range 39).all fun i => decide ((KWS[i]?).getD [] = (KWL[i + 1]?).getD [])) = true := by decide +kernel
  exact of_decide_eq_true (List.all_eq_true.mp q i (List.mem_range.mpr hi))
theorem faT {h : AH} {a N tg k f t0 : Nat} (hn : hN h = N) (ha : a < N) (t : hT h a = t0) : ∃ h', h' = fa h tg k a f ∧ Nw (fun x => x = a) 1 k h h' ∧ hR h' a f = N ∧ (∀ s, s ≠ f → hR h' a s = hR h a s) ∧ (hT h' N = tg ∧ hL h' N = k) ∧ hN h' = N + 1 ∧ hT h' a = t0 ∧ a < hN h ∧ a < N + 1 ∧ ∀ x, x < N → hT h' x = hT h x ∧ hL h' x = hL h x := by
  have u : Nw (fun x => x = a) 1 k h (fa h tg k a f) := fa_w (by omega)
  refine ⟨_, rfl, u, fa_R.trans hn, fun s hs => fa_R2 (by omega) hs, by rw [← hn]; exact ⟨fa_T, fa_L⟩, by rw [u.n, hn], (u.t (by omega)).trans t, by omega, by omega, fun x hx => ⟨u.t (by omega), u.l (by omega)⟩⟩
def TkF (a N : Nat) (h : AH) : Prop := (hT h a = 11 ∧ hR h a 0 = N ∧ hR h a 1 = N + 1 ∧ hR h a 2 = N + 2 ∧ hR h a 3 = N + 3 ∧ hR h a 4 = N + 4) ∧ (hT h N = 103 ∧ hL h N = 39) ∧ (hT h (N + 1) = 101 ∧ hL h (N + 1) = 401) ∧ (hT h (N + 2) = 101 ∧ hL h (N + 2) = 401) ∧ (hT h (N + 3) = 101 ∧ hL h (N + 3) = 401) ∧ (hT h (N + 4) = 103 ∧ hL h (N + 4) = 401)
theorem tkArr {h : AH} {a N : Nat} (hn : hN h = N) (ha : a < N) (t : hT h a = 11) : ∃ h', f_Tokens_init h a = f_Tokens_init_l60 FU h' a (nI 0) (Int64.ofNat 0) (nI 0) ∧ Nw (fun x => x = a) 5 1643 h h' ∧ TkF a N h' := by
  have i39 : ix (nI 39) = 39 := ix_n (by omega)
  have i4 : ix (nI 401) = 401 := ix_n (by omega)
  have L0 : N < N + 1 := Nat.lt_succ_self N
  have L : ∀ {a b : Nat}, a < b → N + a < N + b := fun q => Nat.add_lt_add_left q N
  obtain ⟨h1, e1, w1, a1, b1, c1, n1, t1, l1, p1, -⟩ := faT (tg := 103) (k := 39) (f := 0) hn ha t
  obtain ⟨h2, e2, w2, a2, b2, c2, n2, t2, l2, p2, m2⟩ := faT (tg := 101) (k := 401) (f := 1) n1 p1 t1
  obtain ⟨h3, e3, w3, a3, b3, c3, n3, t3, l3, p3, m3⟩ := faT (tg := 101) (k := 401) (f := 2) n2 p2 t2
  obtain ⟨h4, e4, w4, a4, b4, c4, n4, t4, l4, p4, m4⟩ := faT (tg := 101) (k := 401) (f := 3) n3 p3 t3
  obtain ⟨h5, e5, w5, a5, b5, c5, n5, t5, l5, p5, m5⟩ := faT (tg := 103) (k := 401) (f := 4) n4 p4 t4
  have w6 : Nw (fun x => x = a) 0 0 h5 (wI h5 a 5 (nI 0)) := Nw.wi rfl
  have M : ∀ {j : Nat}, j < 1 → N + j < N + 1 := fun q => L q
  refine ⟨wI h5 a 5 (nI 0), ?_, (((((w1.trans w2 fun _ _ y => y).trans w3 fun _ _ y => y).trans w4 fun _ _ y => y).trans w5 fun _ _ y => y).trans w6 fun _ _ y => y).mono (fun _ _ y => y) rfl rfl, ?_⟩
  · unfold f_Tokens_init
    rw [gd_P t, i39, fa_E t l1, ← e1, i4, fa_E t1 l2, ← e2, fa_E t2 l3, ← e3, fa_E t3 l4, ← e4, fa_E t4 l5, ← e5, gd_P t5, lq_E, lq_E]
  · show TkF a N h5
    refine ⟨⟨t5, ?_, ?_, ?_, ?_, a5⟩, ?_, ?_, ?_, ?_, c5⟩
    · rw [b5 0 (by decide), b4 0 (by decide), b3 0 (by decide), b2 0 (by decide)]; exact a1
    · rw [b5 1 (by decide), b4 1 (by decide), b3 1 (by decide)]; exact a2
    · rw [b5 2 (by decide), b4 2 (by decide)]; exact a3
    · rw [b5 3 (by decide)]; exact a4
    · have q1 : N < N + 1 + 1 := Nat.lt_succ_of_lt L0
      have q2 : N < N + 1 + 1 + 1 := Nat.lt_succ_of_lt q1
      have q3 : N < N + 1 + 1 + 1 + 1 := Nat.lt_succ_of_lt q2
      rw [(m5 _ q3).1, (m4 _ q2).1, (m3 _ q1).1, (m2 _ L0).1, (m5 _ q3).2, (m4 _ q2).2, (m3 _ q1).2, (m2 _ L0).2]; exact c1
    · rw [(m5 (N + 1) (L (a := 1) (b := 4) (by decide))).1, (m4 (N + 1) (L (a := 1) (b := 3) (by decide))).1, (m3 (N + 1) (L (a := 1) (b := 2) (by decide))).1, (m5 (N + 1) (L (a := 1) (b := 4) (by decide))).2, (m4 (N + 1) (L (a := 1) (b := 3) (by decide))).2, (m3 (N + 1) (L (a := 1) (b := 2) (by decide))).2]; exact c2
    · rw [(m5 (N + 2) (L (a := 2) (b := 4) (by decide))).1, (m4 (N + 2) (L (a := 2) (b := 3) (by decide))).1, (m5 (N + 2) (L (a := 2) (b := 4) (by decide))).2, (m4 (N + 2) (L (a := 2) (b := 3) (by decide))).2]; exact c3
    · rw [(m5 (N + 3) (L (a := 3) (b := 4) (by decide))).1, (m5 (N + 3) (L (a := 3) (b := 4) (by decide))).2]; exact c4
theorem tkNew {h : AH} {a : Nat} (t : hT h a = 11) (ha : a < hN h) (n112 : 112 < hN h) (r112 : hR h 112 0 < hN h) (a112 : ¬ hR h 112 0 = a) (S : Str h 112 s112) : ∃ h', f_Tokens_init h a = some h' ∧ Nw (fun x => x = a) 5 1643 h h' ∧ TkF a (hN h) h' ∧ ∀ i, i < 39 → hJ h' (hN h) i = kwj (i + 1) := by
  have na : ¬ (112 : Nat) = a := fun y => by have q := S.1; rw [y] at q; omega
  obtain ⟨h6, e6, w, F⟩ := tkArr rfl ha t
  have S6 : Str h6 112 s112 := S.ext (w.e n112 na) (w.e r112 a112)
  have F' := F
  obtain ⟨⟨f1, f2, -⟩, ⟨g1, g2⟩, -⟩ := F
  have H : Kw h6 a (hN h) := ⟨f1, f2, g1, g2, S6⟩
  obtain ⟨N, hN'⟩ : ∃ N, FU = (kjoin KWS).length + 1 + N := ⟨FU - ((kjoin KWS).length + 1), by rw [KWS_j]; have := s112_len; unfold FU; omega⟩
  obtain ⟨J', eJ, j1, j2⟩ := kw_all H KWS (J := hJ h6) (k := 0) (p := 0) (N := N) (fun y => by have q := KWS_l; rw [y] at q; exact absurd q (by decide)) KWS_w (by rw [KWS_l]; omega) (by rw [KWS_j]; exact At.z s112)
  have w7 : Nw (fun x => x = hN h) 0 0 h6 (sJ h6 J') := ⟨rfl, rfl, fun x _ => ⟨⟨rfl, rfl⟩, fun n => ⟨rfl, rfl, funext fun s => j2 x s fun y => n y.1⟩⟩⟩
  refine ⟨sJ h6 J', ?_, (w.trans w7 fun x hx y => absurd (show x = hN h from y) (Nat.ne_of_lt hx)).mono (fun _ _ y => y) rfl rfl, F', fun i hi => ?_⟩
  · rw [e6, hN', show (nI 0 : Int32) = iI ((0 : Nat) : Int) from nI_i 0]
    exact eJ
  · show J' (hN h) i = _
    have q := j1 i (by rw [KWS_l]; exact hi)
    rw [Nat.zero_add, KWS_i hi] at q
    exact q

/-! 98j L3: say: the text in rows of five ints -/
def Rwd (by' : Nat → Nat) (k : Nat) (F : Nat → Int32) : Prop := ∀ q, q < 5 → F q = iI (pw by' q (min 4 (k - 4 * q)) : Int)
theorem pw_all {by' : Nat → Nat} (hb : ∀ i, by' i < 128) (q : Nat) {c : Nat} (hc : c < 4) : pw by' q c < 8388608 := by
  obtain ⟨p1, p2, p3⟩ := pw_lt hb q
  rcases (show c = 0 ∨ c = 1 ∨ c = 2 ∨ c = 3 by omega) with rfl | rfl | rfl | rfl
  · show 0 < _; omega
  all_goals omega
def sBy (cs : List Nat) (L : Nat) : Nat → Nat := fun i => nth cs (L + i)
theorem say1 {cs : List Nat} {h : AH} {s a L : Nat} {k7 : AH → Nat → Nat → Int32 → Int32 → Option (AH × Int32)} {k20 : AH → Nat → Nat → Int32 → Int32 → Nat → Int32 → Option (AH × Int32)}
    (hs : Str h s cs) (hl : cs.length ≤ 1516) (hL2 : L ≤ 2000) (hb : ∀ i, nth cs i < 128) (hz : ∀ i, cs.length ≤ i → nth cs i = 0) (tA : hT h a = 101) (lA : hL h a = 5) {k : Nat} (hk : k < 20) (R : Rwd (sBy cs L) k (hI h a)) :
    f_Law_say_b20 k7 k20 h 200 s (iI (cs.length : Int)) (iI (L : Int)) a (iI (k : Int)) = k20 (sI h (up2 (hI h) a (k / 4) (iI (pw (sBy cs L) (k / 4) (k % 4 + 1) : Int)))) 200 s (iI (cs.length : Int)) (iI (L : Int)) a (iI ((k + 1 : Nat) : Int)) ∧ Rwd (sBy cs L) (k + 1) (up2 (hI h) a (k / 4) (iI (pw (sBy cs L) (k / 4) (k % 4 + 1) : Int)) a) := by
  have hb' : ∀ i, sBy cs L i < 128 := fun i => hb (L + i)
  have e4 : iI (k : Int) / nI 4 = iI ((k / 4 : Nat) : Int) := by rw [nI_L, iI_div (by omega) (by omega) (by omega) (by omega)]; congr 1
  have ix4 : (iI ((k / 4 : Nat) : Int)).toNatClampNeg = k / 4 := iI_ixn (by omega)
  have n0 : ¬ iI ((k / 4 : Nat) : Int) < 0 := by rw [z_i, iI_lt (by omega) (by omega) (by omega) (by omega)]; omega
  have ek : iI (k : Int) + nI 1 = iI ((k + 1 : Nat) : Int) := by rw [nI_L, iI_add]; rfl
  have r0 : hI h a (k / 4) = iI (pw (sBy cs L) (k / 4) (k % 4) : Int) := by
    rw [R (k / 4) (by omega), show min 4 (k - 4 * (k / 4)) = k % 4 by omega]
  have inb4 : inb (iI ((k / 4 : Nat) : Int)) (hL h a) := ⟨n0, by rw [lA]; show (iI ((k / 4 : Nat) : Int)).toNatClampNeg < 5; rw [ix4]; omega⟩
  have key : (hI h a (ix (iI ((k / 4 : Nat) : Int)))) <<< ((nI 8) &&& 31) ||| iI (nth cs (L + k) : Int) = iI (pw (sBy cs L) (k / 4) (k % 4 + 1) : Int) := by
    show (hI h a (iI ((k / 4 : Nat) : Int)).toNatClampNeg) <<< ((nI 8) &&& 31) ||| _ = _
    have hp := pw_all hb' (k / 4) (c := k % 4) (by omega)
    have hk2 := hb (L + k)
    rw [ix4, r0, nI_L, slo hp (by omega)]
    congr 2
    show _ = pw (sBy cs L) (k / 4) (k % 4) * 256 + nth cs (L + (4 * (k / 4) + k % 4))
    rw [show 4 * (k / 4) + k % 4 = k by omega]
  refine ⟨?_, fun q hq => ?_⟩
  · have e63 : ∀ v : Int32, v = iI (nth cs (L + k) : Int) → f_Law_say_b63 k7 k20 h 200 s (iI (cs.length : Int)) (iI (L : Int)) a (iI (k : Int)) a (iI ((k / 4 : Nat) : Int)) ((hI h a (ix (iI ((k / 4 : Nat) : Int)))) <<< ((nI 8) &&& 31)) v = k20 (sI h (up2 (hI h) a (k / 4) (iI (pw (sBy cs L) (k / 4) (k % 4 + 1) : Int)))) 200 s (iI (cs.length : Int)) (iI (L : Int)) a (iI ((k + 1 : Nat) : Int)) := by
      intro v hv
      rw [hv]
      unfold f_Law_say_b63
      rw [gd_P ⟨tA, inb4⟩, key, show ix (iI ((k / 4 : Nat) : Int)) = k / 4 from ix4, wI_s, lq_E, lq_E, ek]
    unfold f_Law_say_b20
    rw [if_neg (by rw [nI_L, iI_le (by omega) (by omega) (by omega) (by omega)]; omega), e4, gd_P ⟨tA, inb4⟩, iI_add]
    by_cases c : cs.length ≤ L + k
    · rw [if_pos (by rw [iI_le (by omega) (by omega) (by omega) (by omega)]; omega)]
      exact e63 (nI 0) (by rw [hz (L + k) c]; rfl)
    · rw [if_neg (by rw [iI_le (by omega) (by omega) (by omega) (by omega)]; omega), gd_P hs.1]
      have ec := charAt_E hs (i := L + k) (by omega) (by omega) (hb (L + k))
      rw [show iI ((L : Int) + (k : Int)) = iI ((L + k : Nat) : Int) from rfl, bn_C ec]
      exact e63 _ rfl
  · by_cases c : q = k / 4
    · subst c
      rw [up2_e, show min 4 (k + 1 - 4 * (k / 4)) = k % 4 + 1 by omega]
    · rw [up2_n _ _ _ _ _ _ (by omega), R q hq]
      congr 3
      omega
theorem say20 {cs : List Nat} {s a L : Nat} {k7 : AH → Nat → Nat → Int32 → Int32 → Option (AH × Int32)} (hl : cs.length ≤ 1516) (hL2 : L ≤ 2000) (hb : ∀ i, nth cs i < 128) (hz : ∀ i, cs.length ≤ i → nth cs i = 0) : ∀ (j : Nat) {h : AH} {k N : Nat}, j + k = 20 → s ≠ a → hR h s 0 ≠ a → Str h s cs → hT h a = 101 → hL h a = 5 → Rwd (sBy cs L) k (hI h a) →
    ∃ F, f_Law_say_l20 k7 (j + 1 + N) h 200 s (iI (cs.length : Int)) (iI (L : Int)) a (iI (k : Int)) = f_Law_say_l20 k7 (1 + N) (sI h F) 200 s (iI (cs.length : Int)) (iI (L : Int)) a (iI 20) ∧ Rwd (sBy cs L) 20 (F a) ∧ ∀ c i, c ≠ a → F c i = hI h c i := by
  intro j
  induction j with
  | zero =>
    intro h k N hj _ _ _ _ _ R
    obtain rfl : k = 20 := by omega
    refine ⟨hI h, ?_, R, fun _ _ _ => rfl⟩
    rw [Nat.zero_add, sI_id]
    rfl
  | succ j ih =>
    intro h k N hj sa ra hs tA lA R
    obtain ⟨e1, R1⟩ := say1 (k7 := k7) (k20 := f_Law_say_l20 k7 (j + 1 + N)) hs hl hL2 hb hz tA lA (k := k) (by omega) R
    have es : E4 h (sI h (up2 (hI h) a (k / 4) (iI (pw (sBy cs L) (k / 4) (k % 4 + 1) : Int)))) s := ⟨rfl, rfl, by rw [hI_s]; funext i; rw [up2_n _ _ _ _ _ _ (fun q => sa q.1)], rfl⟩
    have er : E4 h (sI h (up2 (hI h) a (k / 4) (iI (pw (sBy cs L) (k / 4) (k % 4 + 1) : Int)))) (hR h s 0) := ⟨rfl, rfl, by rw [hI_s]; funext i; rw [up2_n _ _ _ _ _ _ (fun q => ra q.1)], rfl⟩
    obtain ⟨F, e2, R2, f2⟩ := ih (h := sI h (up2 (hI h) a (k / 4) (iI (pw (sBy cs L) (k / 4) (k % 4 + 1) : Int)))) (k := k + 1) (N := N) (by omega) sa ra (hs.ext es er) tA lA R1
    refine ⟨F, ?_, R2, fun c i hc => (f2 c i hc).trans (up2_n _ _ _ _ _ _ (fun q => hc q.1))⟩
    rw [show j + 1 + 1 + N = (j + 1 + N) + 1 by omega]
    show f_Law_say_b20 k7 (f_Law_say_l20 k7 (j + 1 + N)) h 200 s (iI (cs.length : Int)) (iI (L : Int)) a (iI (k : Int)) = _
    rw [e1, e2, sI_s]
def Ft (c : Nat) (h h' : AH) : Prop := hN h ≤ hN h' ∧ hN h' ≤ hN h + c ∧ hU h' ≤ hU h + 5 * c ∧ (∀ x, x < hN h → hT h' x = hT h x ∧ hL h' x = hL h x ∧ hR h' x = hR h x ∧ hJ h' x = hJ h x) ∧ ∀ x i, x < hN h → x ≠ 201 → ¬ (x = 200 ∧ i = 1) → hI h' x i = hI h x i
theorem Ft.refl (h : AH) : Ft 0 h h := ⟨Nat.le_refl _, Nat.le_refl _, Nat.le_refl _, fun _ _ => ⟨rfl, rfl, rfl, rfl⟩, fun _ _ _ _ _ => rfl⟩
theorem Ft.trans {c d : Nat} {h h' h'' : AH} (a : Ft c h h') (b : Ft d h' h'') : Ft (c + d) h h'' := by
  obtain ⟨a1, a2, a3, a4, a5⟩ := a
  obtain ⟨b1, b2, b3, b4, b5⟩ := b
  refine ⟨by omega, by omega, by omega, fun x hx => ?_, fun x i hx n1 n2 => ?_⟩
  · obtain ⟨p1, p2, p3, p4⟩ := a4 x hx
    obtain ⟨q1, q2, q3, q4⟩ := b4 x (by omega)
    exact ⟨q1.trans p1, q2.trans p2, q3.trans p3, q4.trans p4⟩
  · exact (b5 x i (by omega) n1 n2).trans (a5 x i hx n1 n2)
theorem Ft.mono {c d : Nat} {h h' : AH} (k : Ft c h h') (hd : c ≤ d) : Ft d h h' := ⟨k.1, by have := k.2.1; omega, by have := k.2.2.1; omega, k.2.2.2⟩
theorem Ft.str {c s : Nat} {cs : List Nat} {h h' : AH} (k : Ft c h h') (hs : Str h s cs) (h1 : s < hN h) (h2 : hR h s 0 < hN h) (h3 : 202 ≤ s) (h4 : 202 ≤ hR h s 0) : Str h' s cs ∧ s < hN h' ∧ hR h' s 0 < hN h' ∧ 202 ≤ hR h' s 0 := by
  obtain ⟨a1, a2, a3, a4, a5⟩ := k
  obtain ⟨p1, p2, p3, -⟩ := a4 s h1
  obtain ⟨q1, q2, q3, -⟩ := a4 (hR h s 0) h2
  have er : hR h' s 0 = hR h s 0 := congrFun p3 0
  refine ⟨hs.ext ⟨p1, p2, ?_, p3⟩ ⟨q1, q2, ?_, q3⟩, by omega, by omega, by omega⟩
  · funext i; exact a5 s i h1 (by omega) (by omega)
  · funext i; exact a5 _ i h2 (by omega) (by omega)
theorem Ft.skq {c : Nat} {h h' : AH} (k : Ft c h h') (hQ : SkQ h) (hn : 202 ≤ hN h) : SkQ h' := by
  obtain ⟨a1, a2, a3, a4, a5⟩ := k
  obtain ⟨p1, p2, p3, -⟩ := a4 200 (by omega)
  obtain ⟨q1, q2, q3, -⟩ := a4 201 (by omega)
  unfold SkQ
  rw [p1, p3, q1, q2]
  exact hQ

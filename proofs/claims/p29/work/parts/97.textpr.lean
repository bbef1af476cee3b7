/-! 97 L3: the text: prices -/
theorem Tx.s2 {h0 h : AH} {a s : Nat} {bs cs : List Nat} (t : Tx h0 a bs h) (k : Str h s cs ∧ s < 200 ∧ hR h s 0 < 200) (h200 : 200 ≤ hN h0) (hl : bs.length + cs.length ≤ 2400) : ∃ h', f_SB_append_s h a s = some (h', a) ∧ Tx h0 a (bs ++ cs) h' ∧ Ux a 1 5000 h h' := by
  have va := t.1.2.2.2.1
  obtain ⟨h', e1, e2, e3⟩ := append_s_E t.1 k.1 (by have := t.2.2.1; omega) (by have := t.2.2.1; omega) (by have := t.2.1; omega) hl
  exact ⟨h', e1, t.ux e3 e2, e3⟩
theorem Tx.i2 {h0 h : AH} {a n : Nat} {bs : List Nat} (t : Tx h0 a bs h) (hd : Dg h) (hn : n < 1000) (hl : bs.length + 3 ≤ 2400) : ∃ h', f_SB_append_I h a (iI (n : Int)) = some (h', a) ∧ Tx h0 a (bs ++ dig n) h' ∧ Ux a 1 5000 h h' := by
  obtain ⟨h', e1, e2, e3⟩ := append_I_E t.1 hd hn hl
  exact ⟨h', e1, t.ux e3 e2, e3⟩
theorem Tx.c2 {h0 h : AH} {a c : Nat} {bs : List Nat} (t : Tx h0 a bs h) (hc : c < 128) (hl : bs.length + 1 ≤ 2400) : ∃ h', f_SB_append_C h a (iI (c : Int)) = some (h', a) ∧ Tx h0 a (bs ++ [c]) h' ∧ Ux a 1 5000 h h' := by
  obtain ⟨h', e1, e2, e3⟩ := append_C_E t.1 hc hl
  exact ⟨h', e1, t.ux e3 e2, e3⟩
-- the row of the first prices
def fP (k : Nat) : Int := if k = 0 then 8 else if k = 1 then 5 else if k = 2 then 3 else 1
def Rx (r a : Nat) (h : AH) : Prop := r < hN h ∧ r ≠ a ∧ r ≠ hR h a 0 ∧ hT h r = 101 ∧ hL h r = 4 ∧ ∀ k, k < 4 → hI h r k = iI (fP k)
theorem Rx.ux {r a c d : Nat} {h h' : AH} (k : Rx r a h) (u : Ux a c d h h') : Rx r a h' := by
  obtain ⟨k1, k2, k3, k4, k5, k6⟩ := k
  obtain ⟨e1, e2, e3, -⟩ := u.2.2.2.2 r k1 k2 k3
  have v := u.2.2.2.1
  refine ⟨Nat.lt_of_lt_of_le k1 u.1, k2, by omega, e1.trans k4, e2.trans k5, fun q hq => by rw [e3]; exact k6 q hq⟩
section
variable {xA n m p b no : Nat} {O : Nat → Nat → Int} {h0 : AH} {g : GM}
theorem txC (hNm : Nm n m p b) (hs0 : Sm xA n m p b no O h0 g) (st0 : St h0) (vQ : IvQ g) {h : AH} {a r : Nat} {bs : List Nat} (t : Tx h0 a bs h) (hr : Rx r a h) (hl : bs.length + 60 ≤ 2400) {i : Nat} (hi : i < 4) (ne : ¬ g (43 + i) 1 = fP i) (K : AH → Nat → Nat → Nat → Int32 → Option (AH × Nat)) :
    ∃ h', f_Sim_text_b408 K h 320 a r (iI (i : Int)) = K h' 320 a r (iI ((i + 1 : Nat) : Int)) ∧ Tx h0 a (bs ++ fl (tkC i (g (43 + i) 1).toNat)) h' ∧ Co 5 h h' ∧ Rx r a h' := by
  have hN' := hNm
  unfold Nm at hN'
  have h200 : 200 ≤ hN h0 := by have := hs0.2.2.2.2.2.1; unfold tp at this; omega
  have hm0 := t.sm hNm hs0
  have v := vQ i hi
  have gl := gS_len i
  have fb : 0 ≤ fP i ∧ fP i ≤ 8 := by unfold fP; split <;> (try split) <;> (try split) <;> omega
  have L24 : s24.length = 1 := rfl
  have L46 : s46.length = 6 := rfl
  have D0 := dig_len (n := (g (43 + i) 1).toNat)
  obtain ⟨h1, e1, t1, u1⟩ := t.s2 (t.st h200 st0).k46 h200 (by (try simp only [List.length_append]); omega)
  obtain ⟨h2, e2, t2, u2⟩ := t1.s2 ((t1.st h200 st0).g hi) h200 (by (try simp only [List.length_append]); omega)
  obtain ⟨h3, e3, t3, u3⟩ := t2.c2 (c := 32) (by omega) (by (try simp only [List.length_append]); omega)
  obtain ⟨h4, e4, t4, u4⟩ := t3.i2 (t3.st h200 st0).1 (n := (g (43 + i) 1).toNat) (by omega) (by (try simp only [List.length_append, List.length_singleton]); omega)
  obtain ⟨h5, e5, t5, u5⟩ := t4.s2 (t4.st h200 st0).k24 h200 (by (try simp only [List.length_append, List.length_singleton]); omega)
  have m3 := t3.sm hNm hs0
  have st1 := t1.st h200 st0
  refine ⟨h5, ?_, ?_, (((((u1.co (by omega)).trans (u2.co (by omega))).trans (u3.co (by omega))).trans (u4.co (by omega))).trans (u5.co (by omega))).mono (by omega), ((((hr.ux u1).ux u2).ux u3).ux u4).ux u5⟩
  · unfold f_Sim_text_b408
    rw [if_neg (by rw [nI_L, iI_le (by omega) (by omega) (by omega) (by omega)]; omega), gd_P hm0.1.t, gd_P (hm0.1.c1 hi), gd_P ⟨hr.2.2.2.1, by rw [hr.2.2.2.2.1]; exact inb_i hi (by omega)⟩, if_neg (by rw [hm0.c3 hi, ix_i (by omega), hr.2.2.2.2.2 i hi, iI_eq (by omega) (by omega) (by omega) (by omega)]; exact ne), gd_P t.1.1, bn_C e1, gd_P ⟨st1.2.1.1, inb_i (by have := st1.2.1.2.1; omega) (by omega)⟩, gd_P t1.1.1, bn_s (by rw [ix_i (by omega)]) e2, gd_P t2.1.1, show nI 32 = iI ((32 : Nat) : Int) from nI_i 32, bn_C e3, gd_P m3.1.t, gd_P (m3.1.c1 hi), gd_P t3.1.1, bn_I ((m3.c3 hi).trans (iI_N (by omega))) e4, gd_P t4.1.1, bn_C e5]
    unfold f_Sim_text_b459
    rw [lq_E, nI_L, iI_add]
    rfl
  · have eB : ((((bs ++ s46) ++ gS i) ++ [32]) ++ dig (g (43 + i) 1).toNat) ++ s24 = bs ++ fl (tkC i (g (43 + i) 1).toNat) := by
      simp only [List.append_assoc, tkC, fl, tbG hi]
      rfl
    rw [← eB]
    exact t5
end

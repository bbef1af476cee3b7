/-! 98zye L3: the sim made, as a model -/
theorem ii_t (x : Int32) : iI x.toInt = x := Int32.ofInt_toInt x
theorem ti_i {v : Int} (h1 : -2147483648 ≤ v) (h2 : v < 2147483648) {x : Int32} (e : x = iI v) : x.toInt = v := by rw [e]; exact iI_toInt h1 h2
theorem Rg.ti {lo hi : Int} {x : Int32} (k : Rg lo hi x) (h1 : -2147483648 ≤ lo) (h2 : hi < 2147483648) : lo ≤ x.toInt ∧ x.toInt ≤ hi := by
  obtain ⟨v, k1, k2, k3⟩ := k
  rw [ti_i (by omega) (by omega) k3]
  exact ⟨k1, k2⟩
theorem sumF_all0 {f : Nat → Int} : ∀ n, (∀ k, k < n → f k = 0) → sumF f n = 0 := by
  intro n
  induction n with
  | zero => intro _; rfl
  | succ n ih =>
    intro h
    unfold sumF
    rw [ih (fun k hk => h k (by omega)), h n (by omega)]
    rfl
def gOf (n m p b no : Nat) (h : AH) : GM := fun c s =>
  if c = 0 then (if s = 6 then (n : Int) else if s = 7 then (m : Int) else if s = 8 then (p : Int) else if s = 9 then (b : Int) else if s = 10 then (no : Int) else (hI h 320 (sS 0 s)).toInt)
  else if 11 ≤ c ∧ c < 31 ∧ s ≠ 0 then 0
  else if 39 ≤ c ∧ c < 43 ∧ s = 5 then -1
  else (hI h (sA n m p c s) (sS c s)).toInt
def oOf (n m p b : Nat) (h : AH) : Nat → Nat → Int := fun i s => (hI h (338 + n + m + p + b + i) s).toInt
section
variable {n m p b no : Nat} {h : AH}
theorem gO_0 {s : Nat} (hs : 11 ≤ s) : gOf n m p b no h 0 s = (hI h 320 (sS 0 s)).toInt := by
  unfold gOf
  rw [if_pos rfl, if_neg (by omega), if_neg (by omega), if_neg (by omega), if_neg (by omega), if_neg (by omega)]
theorem gO_h {s : Nat} : gOf n m p b no h 6 s = (hI h 321 s).toInt := by
  unfold gOf
  rw [if_neg (by omega), if_neg (by omega), if_neg (by omega)]
  rfl
theorem gO_g {i s : Nat} (hi : i < 4) : gOf n m p b no h (7 + i) s = (hI h (333 + i) s).toInt := by
  unfold gOf
  rw [if_neg (by omega), if_neg (by omega), if_neg (by omega), sA_g hi, sS_g hi]
theorem gO_r {k : Nat} (hk : k < 4) : gOf n m p b no h (11 + 5 * k) 0 = (hI h (333 + n) k).toInt := by
  unfold gOf
  rw [if_neg (by omega), if_neg (by omega), if_neg (by omega), sA_h hk, sS_h hk]
theorem gO_z {k s : Nat} (hk : k < 4) (hs : s ≠ 0) : gOf n m p b no h (11 + 5 * k) s = 0 := by
  unfold gOf
  rw [if_neg (by omega), if_pos ⟨by omega, by omega, hs⟩]
theorem gO_p {i s : Nat} (hi : i < 8) : gOf n m p b no h (31 + i) s = (hI h (336 + n + m + i) s).toInt := by
  unfold gOf
  rw [if_neg (by omega), if_neg (by omega), if_neg (by omega), sA_p hi, sS_p hi]
theorem gO_b {i s : Nat} (hi : i < 4) (hs : s ≠ 5) : gOf n m p b no h (39 + i) s = (hI h (337 + n + m + p + i) s).toInt := by
  unfold gOf
  rw [if_neg (by omega), if_neg (by omega), if_neg (fun y => hs y.2.2), sA_b hi, sS_b hi]
theorem gO_5 {i : Nat} (hi : i < 4) : gOf n m p b no h (39 + i) 5 = -1 := by
  unfold gOf
  rw [if_neg (by omega), if_neg (by omega), if_pos ⟨by omega, by omega, rfl⟩]
theorem gO_q {k s : Nat} : gOf n m p b no h (43 + k) s = (hI h (if s = 0 then 323 else if s = 1 then 322 else if s = 2 then 324 else 325) k).toInt := by
  unfold gOf
  rw [if_neg (by omega), if_neg (by omega), if_neg (by omega), sA_q, sS_q]
theorem gO_ct {k : Nat} (hk : k < 4) : mct (gOf n m p b no h) k = 0 := gO_z hk (by decide)
-- numbers of the sim's own fields
theorem gO_sc (s0 : S0 h) : gOf n m p b no h 0 11 = 0 ∧ gOf n m p b no h 0 12 = 50 ∧ (1 ≤ gOf n m p b no h 0 13 ∧ gOf n m p b no h 0 13 ≤ 60) ∧ (0 ≤ gOf n m p b no h 0 14 ∧ gOf n m p b no h 0 14 ≤ 5) ∧ gOf n m p b no h 0 15 = 0 ∧ gOf n m p b no h 0 16 = 0 ∧ gOf n m p b no h 0 17 = 0 := by
  obtain ⟨-, -, -, ⟨d1, d2, d3, d4, d5⟩, -, ⟨f1, f2⟩, -⟩ := s0
  rw [gO_0 (by decide), gO_0 (by decide), gO_0 (by decide), gO_0 (by decide), gO_0 (by decide), gO_0 (by decide), gO_0 (by decide)]
  exact ⟨ti_i (by omega) (by omega) d1, ti_i (by omega) (by omega) d2, f1.ti (by omega) (by omega), f2.ti (by omega) (by omega), ti_i (by omega) (by omega) d3, ti_i (by omega) (by omega) d4, ti_i (by omega) (by omega) d5⟩
theorem gO_gr (s0 : S0 h) {k : Nat} (hk : k < 4) : gOf n m p b no h (43 + k) 0 = 0 ∧ (0 ≤ gOf n m p b no h (43 + k) 1 ∧ gOf n m p b no h (43 + k) 1 ≤ 50) ∧ gOf n m p b no h (43 + k) 2 = 0 ∧ gOf n m p b no h (43 + k) 3 = 0 := by
  obtain ⟨-, -, -, -, e, -, -, g⟩ := s0
  obtain ⟨e1, e2, e3⟩ := e k hk
  rw [gO_q, gO_q, gO_q, gO_q]
  exact ⟨ti_i (by omega) (by omega) e1, (g k hk).ti (by omega) (by omega), ti_i (by omega) (by omega) e2, ti_i (by omega) (by omega) e3⟩
theorem gO_bo (hb : b ≤ 3) (B : Bs4 n m p b h) {i : Nat} (hi : i < b) : (1 ≤ gOf n m p b no h (39 + i) 0 ∧ gOf n m p b no h (39 + i) 0 ≤ 40) ∧ (1 ≤ gOf n m p b no h (39 + i) 1 ∧ gOf n m p b no h (39 + i) 1 ≤ 9) ∧ gOf n m p b no h (39 + i) 2 = 0 ∧ gOf n m p b no h (39 + i) 3 = 0 ∧ gOf n m p b no h (39 + i) 4 = 0 ∧ gOf n m p b no h (39 + i) 5 = -1 ∧ gOf n m p b no h (39 + i) 6 = 0 := by
  obtain ⟨-, -, -, ⟨b1, b2⟩, b3, b4, b5, b6, b7⟩ := B.2.2.2 i hi
  rw [gO_5 (by omega), gO_b (by omega) (by decide), gO_b (by omega) (by decide), gO_b (by omega) (by decide), gO_b (by omega) (by decide), gO_b (by omega) (by decide), gO_b (by omega) (by decide)]
  exact ⟨b1.ti (by omega) (by omega), b2.ti (by omega) (by omega), ti_i (by omega) (by omega) b3, ti_i (by omega) (by omega) b4, ti_i (by omega) (by omega) b5, rfl, ti_i (by omega) (by omega) b7⟩
theorem gO_pe (hn : n ≤ 3) (hm : m ≤ 3) (hp : p ≤ 4) (P : Ps n m p h) {i : Nat} (hi : i < p) : (0 ≤ gOf n m p b no h (31 + i) 0 ∧ gOf n m p b no h (31 + i) 0 < n) ∧ (0 ≤ gOf n m p b no h (31 + i) 1 ∧ gOf n m p b no h (31 + i) 1 < m) ∧ (1 ≤ gOf n m p b no h (31 + i) 2 ∧ gOf n m p b no h (31 + i) 2 ≤ 9) ∧ gOf n m p b no h (31 + i) 3 = 20 ∧ gOf n m p b no h (31 + i) 4 = 0 ∧ gOf n m p b no h (31 + i) 5 = 0 ∧ gOf n m p b no h (31 + i) 6 = 0 := by
  obtain ⟨-, -, -, ⟨b1, b2, b3⟩, b4, b5, b6, b7⟩ := P.2.2.2 i hi
  have q1 := b1.ti (by omega) (by omega)
  have q2 := b2.ti (by omega) (by omega)
  have q3 := b3.ti (by omega) (by omega)
  rw [gO_p (by omega), gO_p (by omega), gO_p (by omega), gO_p (by omega), gO_p (by omega), gO_p (by omega), gO_p (by omega)]
  exact ⟨⟨q1.1, by omega⟩, ⟨q2.1, by omega⟩, q3, ti_i (by omega) (by omega) b4, ti_i (by omega) (by omega) b5, ti_i (by omega) (by omega) b6, ti_i (by omega) (by omega) b7⟩
theorem gO_iv (hNm : Nm n m p b) (M : M3 n m h) (P : Ps n m p h) (B : Bs4 n m p b h) : Iv n m p b 0 99999 0 (gOf n m p b no h) := by
  unfold Nm at hNm
  obtain ⟨s0, G, H, K⟩ := M
  obtain ⟨a1, a2, a3, a4, a5, a6, a7⟩ := gO_sc (n := n) (m := m) (p := p) (b := b) (no := no) s0
  refine ⟨⟨rfl, rfl, rfl, rfl, by omega, by omega, by omega, by omega, a3.1, a3.2, a4.1, a4.2, by omega, by omega⟩, fun s hs => ?_, fun i hi => ?_, fun k hk => ?_, fun i hi => ?_, fun i hi => ?_, fun k hk => ?_, ?_⟩
  · rw [gO_h]
    exact (s0.2.2.2.2.2.2.1 s hs).ti (by omega) (by omega)
  · obtain ⟨-, -, -, g1, g2, g3⟩ := G.2.2.2 i hi
    have q1 := g1.ti (by omega) (by omega)
    have q2 := g2.ti (by omega) (by omega)
    have q3 := g3.ti (by omega) (by omega)
    rw [gO_g (by omega), gO_g (by omega), gO_g (by omega)]
    exact ⟨q1.1, q1.2, q2.1, q2.2, q3.1, q3.2⟩
  · have q := Rg.ti (H.2.2.2 k hk) (by omega) (by omega)
    have c : mct (gOf n m p b no h) k = 0 := gO_ct (by omega)
    have z : gOf n m p b no h (11 + 5 * k) 1 = 0 := gO_z (by omega) (by decide)
    unfold IvR1
    rw [c, z, gO_r (by omega)]
    exact ⟨q.1, q.2, by omega, by omega, by omega, rfl, fun j hj => absurd hj (by omega)⟩
  · obtain ⟨p1, p2, p3, p4, p5, p6, p7⟩ := gO_pe (b := b) (no := no) hNm.1.2 hNm.2.1.2 hNm.2.2.1.2 P hi
    exact ⟨p1.1, p1.2, p2.1, p2.2, p3.1, p3.2, by omega, by omega, Or.inl p7, by omega⟩
  · obtain ⟨b1, b2, b3, b4, b5, b6, b7⟩ := gO_bo (no := no) hNm.2.2.2.2 B hi
    exact ⟨b1.1, b1.2, b2.1, b2.2, by omega, by omega, Or.inl ⟨b4, b3, b5, b6⟩⟩
  · obtain ⟨g1, g2, g3, g4⟩ := gO_gr (n := n) (m := m) (p := p) (b := b) (no := no) s0 hk
    exact ⟨by omega, g2.1, g2.2, by omega, by omega⟩
  · have z1 : sumF (fun k => gOf n m p b no h (11 + 5 * k) 1) m = 0 := sumF_all0 m fun k hk => gO_z (by omega) (by decide)
    have z2 : sumF (fun k => gOf n m p b no h (43 + k) 0) 4 = 0 := sumF_all0 4 fun k hk => (gO_gr s0 hk).1
    have z3 : sumF (fun i => gOf n m p b no h (39 + i) 4) b = 0 := sumF_all0 b fun i hi => (gO_bo hNm.2.2.2.2 B hi).2.2.2.2.1
    have z4 : sumF (fun i => gOf n m p b no h (31 + i) 4) p = 0 := sumF_all0 p fun i hi => (gO_pe hNm.1.2 hNm.2.1.2 hNm.2.2.1.2 P hi).2.2.2.2.1
    have z5 : sumF (fun k => gOf n m p b no h (43 + k) 3) 4 = 0 := sumF_all0 4 fun k hk => (gO_gr s0 hk).2.2.2
    unfold IvE
    rw [z1, z2, z3, z4, z5, a5, a6]
    exact ⟨rfl, rfl, rfl⟩
theorem gO_fr (hNm : Nm n m p b) (M : M3 n m h) (P : Ps n m p h) (B : Bs4 n m p b h) : Fresh m p b no (gOf n m p b no h) := by
  unfold Nm at hNm
  obtain ⟨s0, G, H, K⟩ := M
  obtain ⟨a1, a2, a3, a4, a5, a6, a7⟩ := gO_sc (n := n) (m := m) (p := p) (b := b) (no := no) s0
  refine ⟨⟨rfl, a1, a2, a5, a6, a7⟩, fun k hk => ⟨gO_z (by omega) (by decide), gO_z (by omega) (by decide)⟩, fun i hi => ?_, fun i hi => ?_, fun k hk => ?_⟩
  · exact (gO_pe hNm.1.2 hNm.2.1.2 hNm.2.2.1.2 P hi).2.2.2
  · exact (gO_bo hNm.2.2.2.2 B hi).2.2
  · obtain ⟨g1, g2, g3, g4⟩ := gO_gr (n := n) (m := m) (p := p) (b := b) (no := no) s0 hk
    exact ⟨g1, g3, g4⟩
theorem gO_wk (hNm : Nm n m p b) (O : Os n m p b no h) {i : Nat} (hi : i < no) : Wk n m p b (oOf n m p b h i) := by
  unfold Nm at hNm
  obtain ⟨-, -, -, o1, o2, o3, o4, o5, o6, o7⟩ := O.2.2.2 i hi
  have q2 := o2.ti (by omega) (by omega)
  have q3 := o3.ti (by omega) (by omega)
  have q4 := o4.ti (by omega) (by omega)
  have q5 := o5.ti (by omega) (by omega)
  have q6 := o6.ti (by omega) (by omega)
  have q7 := o7.ti (by omega) (by omega)
  unfold Wk oOf
  refine ⟨?_, ?_, ⟨q2.1, by omega⟩, ⟨q3.1, by omega⟩, ⟨q4.1, by omega⟩, ⟨q5.1, by omega⟩, ⟨q6.1, by omega⟩, q7.1, by omega⟩
  · rcases o1 with ⟨c1, c2⟩ | ⟨d, c0, c1, c2⟩
    · rw [ti_i (by omega) (by omega) c1]; omega
    · rw [ti_i (by omega) (by omega) c1]; omega
  · rcases o1 with ⟨c1, c2⟩ | ⟨d, c0, c1, c2⟩
    · have r := c2.ti (by omega) (by omega)
      rw [ti_i (by omega) (by omega) c1]
      exact ⟨r.1, fun _ => by omega, fun y => absurd rfl y⟩
    · have r := c2.ti (by omega) (by omega)
      rw [ti_i (by omega) (by omega) c1]
      exact ⟨r.1, fun y => by omega, fun _ => by omega⟩
theorem gO_skm (M : M3 n m h) (P : Ps n m p h) (B : Bs4 n m p b h) (O : Os n m p b no h) : SkM n m p b no h := by
  obtain ⟨⟨s1, ⟨s7, s8, s9, s10, s11⟩, ⟨t1, t2, t3, t4, t5, t6, t7, t8, t9, t10⟩, -⟩, ⟨g1, g2, g3, g4⟩, ⟨h1, h2, h3, -⟩, ⟨k1, k2, k3, -⟩⟩ := M
  obtain ⟨p1, p2, p3, p4⟩ := P
  obtain ⟨b1, b2, b3, b4⟩ := B
  obtain ⟨o1, o2, o3, o4⟩ := O
  exact ⟨s1, s7, s8, s9, s10, s11, g1, h1, k1, p1, b1, o1, t1, t2, t3, t4, t5, t6, t7, t8, t9, t10, g2, g3, h2, h3, k2, k3, p2, p3, b2, b3, o2, o3, fun i hi => ⟨(g4 i hi).1, (g4 i hi).2.1, (g4 i hi).2.2.1⟩, fun i hi => ⟨(p4 i hi).1, (p4 i hi).2.1, (p4 i hi).2.2.1⟩, fun i hi => ⟨(b4 i hi).1, (b4 i hi).2.1, (b4 i hi).2.2.1⟩, fun i hi => ⟨(o4 i hi).1, (o4 i hi).2.1, (o4 i hi).2.2.1⟩⟩
theorem gO_ag (hNm : Nm n m p b) (B : Bs4 n m p b h) : AgS n m p b (PL (gOf n m p b no h)) (hI h) (gOf n m p b no h) := by
  intro c s hl hp
  have hN' := hNm
  unfold Nm at hN'
  rcases L0_cases hNm hl with ⟨rfl, h1, h2⟩ | ⟨rfl, h1⟩ | ⟨i, hi, rfl, h1⟩ | ⟨k, hk, rfl, rfl⟩ | ⟨i, hi, rfl, h1⟩ | ⟨i, hi, rfl, h1⟩ | ⟨k, hk, rfl, h1⟩
  · rw [gO_0 h1, sA_0, ii_t]
  · rw [gO_h, sA_6, sS_6, ii_t]
  · rw [gO_g (by omega), sA_g (by omega), sS_g (by omega), ii_t]
  · rw [gO_r (by omega), sA_h (by omega), sS_h (by omega), ii_t]
  · rw [gO_p (by omega), sA_p (by omega), sS_p (by omega), ii_t]
  · by_cases q : s = 5
    · exfalso
      exact hp ⟨by omega, by omega, q, (gO_bo hN'.2.2.2.2 B hi).2.2.2.2.1⟩
    · rw [gO_b (by omega) q, sA_b (by omega), sS_b (by omega), ii_t]
  · rw [gO_q, sA_q, sS_q, ii_t]
theorem gO_sm (hNm : Nm n m p b) (hn : hN h = 338 + n + m + p + b + no) (M : M3 n m h) (P : Ps n m p h) (B : Bs4 n m p b h) (O : Os n m p b no h) : Sm 0 n m p b no (oOf n m p b h) h (gOf n m p b no h) := by
  have hN' := hNm
  unfold Nm at hN'
  refine ⟨gO_skm M P B O, gO_ag hNm B, fun k hk => ?_, fun k k' j j' h1 h2 h3 h4 _ => ?_, fun i hi s hs => ?_, by unfold tp; omega, Or.inl (by omega), fun k hk j hj => ?_⟩
  · obtain ⟨c1, c2, c3⟩ := M.2.2.2.2.2.2 k hk
    have c : mct (gOf n m p b no h) k = 0 := gO_ct (by omega)
    unfold SB1
    rw [c1, c, c2, c3]
    exact ⟨rfl, rfl, by omega, by omega, fun j hj => absurd hj (by omega)⟩
  · rw [gO_ct (by omega)] at h3
    exact absurd h3 (by omega)
  · unfold oOf
    rw [ii_t]
  · rw [gO_ct (by omega)] at hj
    exact absurd hj (by omega)
end

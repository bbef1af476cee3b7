/-! 93 L3: what is there at the start: strings, grades, digits; a text under way (written by l3/gen93.py) -/
def s10 : List Nat := [103, 97, 114, 100, 101, 110, 32, 103]
def s12 : List Nat := [32, 115, 116, 105, 99, 107, 115, 32]
def s14 : List Nat := [32, 103, 114, 111, 119, 115, 32]
def s16 : List Nat := [32, 116, 104, 105, 99, 107, 32]
def s18 : List Nat := [59, 10]
def s20 : List Nat := [114, 97, 99, 107, 32, 114]
def s22 : List Nat := [32, 104, 111, 108, 100, 115, 32]
def s24 : List Nat := [59]
def s26 : List Nat := [112, 101, 101, 108, 101, 114, 32, 112]
def s28 : List Nat := [32, 111, 102, 32, 103]
def s30 : List Nat := [32, 116, 111, 32, 114]
def s32 : List Nat := [32, 115, 107, 105, 108, 108, 32]
def s34 : List Nat := [98, 111, 97, 116, 32, 98]
def s36 : List Nat := [32, 115, 112, 101, 101, 100, 32]
def s38 : List Nat := [114, 105, 118, 101, 114, 32, 55, 32, 99, 117, 114, 114, 101, 110, 116, 32, 53, 59, 114, 105, 118, 101, 114, 32]
def s40 : List Nat := [32, 99, 117, 114, 114, 101, 110, 116, 32]
def s42 : List Nat := [115, 104, 97, 100, 101, 32]
def s44 : List Nat := [32, 105, 115, 32]
def s46 : List Nat := [112, 114, 105, 99, 101, 32]
def s48 : List Nat := [119, 104, 101, 116, 32, 112]
def s50 : List Nat := [108, 111, 97, 100, 32, 98]
def s52 : List Nat := [32, 119, 105, 116, 104, 32]
def s54 : List Nat := [32, 111, 102, 32]
def s56 : List Nat := [114, 101, 115, 116, 32, 112]
def s58 : List Nat := [32, 119, 104, 101, 110, 32]
def s60 : List Nat := [59, 32]
def s62 : List Nat := []
def s64 : List Nat := [115, 116, 111, 114, 101, 32]
def s66 : List Nat := [45]
def s68 : List Nat := [109, 97, 120, 40, 115, 116, 111, 114, 101, 32]
def s70 : List Nat := [47, 50, 44]
def s72 : List Nat := [41]
def s74 : List Nat := [42, 50, 43]
def s76 : List Nat := [32, 112]
def s78 : List Nat := [32, 98]
def s80 : List Nat := [104, 111, 117, 114, 32, 62, 61, 32]
def s82 : List Nat := [101, 100, 103, 101]
def s84 : List Nat := [60]
def s86 : List Nat := [98, 108, 117, 110, 116]
def s88 : List Nat := [110, 111, 116, 32, 97, 102, 108, 111, 97, 116]
def s90 : List Nat := [99, 111, 105, 110, 115, 32, 45, 32, 49, 32, 62, 61, 32]
def s92 : List Nat := [114, 111, 111, 109, 32, 114]
def s94 : List Nat := [32, 62, 32]
def s96 : List Nat := [32, 111, 114, 32, 115, 116, 111, 114, 101, 32]
def s98 : List Nat := [32, 60, 32]
def s100 : List Nat := [91, 110, 111, 116, 32, 115, 116, 105, 99, 107, 115, 32, 103]
def s102 : List Nat := [93, 32, 97, 110, 100, 32, 112, 114, 105, 99, 101, 32]
def s104 : List Nat := [32, 62, 61, 32, 49]
def s106 : List Nat := [109, 105, 108, 101]
def s108 : List Nat := [60, 61]
def s110 : List Nat := [49, 32, 61, 32, 49]
def s112 : List Nat := [103, 97, 114, 100, 101, 110, 32, 115, 116, 105, 99, 107, 115, 32, 103, 114, 111, 119, 115, 32, 116, 104, 105, 99, 107, 32, 114, 97, 99, 107, 32, 104, 111, 108, 100, 115, 32, 112, 101, 101, 108, 101, 114, 32, 111, 102, 32, 116, 111, 32, 115, 107, 105, 108, 108, 32, 98, 111, 97, 116, 32, 115, 112, 101, 101, 100, 32, 114, 105, 118, 101, 114, 32, 99, 117, 114, 114, 101, 110, 116, 32, 115, 104, 97, 100, 101, 32, 105, 115, 32, 112, 114, 105, 99, 101, 32, 102, 105, 114, 115, 116, 32, 115, 101, 99, 111, 110, 100, 32, 116, 104, 105, 114, 100, 32, 102, 111, 117, 114, 116, 104, 32, 119, 104, 101, 116, 32, 108, 111, 97, 100, 32, 119, 105, 116, 104, 32, 114, 101, 115, 116, 32, 119, 104, 101, 110, 32, 104, 111, 117, 114, 32, 99, 111, 105, 110, 115, 32, 101, 100, 103, 101, 32, 114, 111, 111, 109, 32, 115, 116, 111, 114, 101, 32, 109, 105, 108, 101, 32, 97, 102, 108, 111, 97, 116, 32, 98, 108, 117, 110, 116, 32, 110, 111, 116, 32, 97, 110, 100, 32, 111, 114, 32, 109, 105, 110, 32, 109, 97, 120]
def s114 : List Nat := [40, 41, 91, 93, 59, 44, 43, 45, 42, 47, 60, 62, 61]
def s116 : List Nat := [102, 105, 114, 115, 116]
def s118 : List Nat := [115, 101, 99, 111, 110, 100]
def s120 : List Nat := [116, 104, 105, 114, 100]
def s122 : List Nat := [102, 111, 117, 114, 116, 104]
def SKL : List (Nat × List Nat) := [(10, s10), (12, s12), (14, s14), (16, s16), (18, s18), (20, s20), (22, s22), (24, s24), (26, s26), (28, s28), (30, s30), (32, s32), (34, s34), (36, s36), (38, s38), (40, s40), (42, s42), (44, s44), (46, s46), (48, s48), (50, s50), (52, s52), (54, s54), (56, s56), (58, s58), (60, s60), (62, s62), (64, s64), (66, s66), (68, s68), (70, s70), (72, s72), (74, s74), (76, s76), (78, s78), (80, s80), (82, s82), (84, s84), (86, s86), (88, s88), (90, s90), (92, s92), (94, s94), (96, s96), (98, s98), (100, s100), (102, s102), (104, s104), (106, s106), (108, s108), (110, s110), (112, s112), (114, s114), (116, s116), (118, s118), (120, s120), (122, s122)]
def St (h : AH) : Prop := Dg h ∧ (hT h 2 = 111 ∧ 4 ≤ hL h 2 ∧ ∀ k, k < 4 → hR h 2 k = 116 + 2 * k) ∧ ∀ (j : Nat) (q : Nat × List Nat), SKL[j]? = some q → Str h q.1 q.2 ∧ hR h q.1 0 = q.1 + 1
theorem SKL_lt : (SKL.all fun q => decide (q.1 < 199)) = true := by decide +kernel
theorem SKL_b {j : Nat} {q : Nat × List Nat} (h : SKL[j]? = some q) : q.1 < 199 := of_decide_eq_true (List.all_eq_true.mp SKL_lt q (List.mem_of_getElem? h))
theorem St.z {h h' : AH} (k : St h) (e : ∀ a, a < 200 → E4 h h' a) : St h' := by
  obtain ⟨k1, ⟨k2, k3, k4⟩, k5⟩ := k
  have e2 := e 2 (by omega)
  refine ⟨k1.ext (e 3 (by omega)) (e 4 (by omega)), ⟨by rw [e2.1]; exact k2, by rw [e2.2.1]; exact k3, fun i hi => by rw [e2.2.2.2]; exact k4 i hi⟩, fun j q hq => ?_⟩
  obtain ⟨c1, c2⟩ := k5 j q hq
  have b := SKL_b hq
  exact ⟨c1.ext (e _ (by omega)) (by rw [c2]; exact e _ (by omega)), by rw [(e _ (by omega)).2.2.2]; exact c2⟩
theorem St.k10 {h : AH} (k : St h) : Str h 10 s10 ∧ 10 < 200 ∧ hR h 10 0 < 200 := by
  obtain ⟨c1, c2⟩ := k.2.2 0 (10, s10) rfl
  exact ⟨c1, by omega, by rw [c2]; decide⟩
theorem St.k12 {h : AH} (k : St h) : Str h 12 s12 ∧ 12 < 200 ∧ hR h 12 0 < 200 := by
  obtain ⟨c1, c2⟩ := k.2.2 1 (12, s12) rfl
  exact ⟨c1, by omega, by rw [c2]; decide⟩
theorem St.k14 {h : AH} (k : St h) : Str h 14 s14 ∧ 14 < 200 ∧ hR h 14 0 < 200 := by
  obtain ⟨c1, c2⟩ := k.2.2 2 (14, s14) rfl
  exact ⟨c1, by omega, by rw [c2]; decide⟩
theorem St.k16 {h : AH} (k : St h) : Str h 16 s16 ∧ 16 < 200 ∧ hR h 16 0 < 200 := by
  obtain ⟨c1, c2⟩ := k.2.2 3 (16, s16) rfl
  exact ⟨c1, by omega, by rw [c2]; decide⟩
theorem St.k18 {h : AH} (k : St h) : Str h 18 s18 ∧ 18 < 200 ∧ hR h 18 0 < 200 := by
  obtain ⟨c1, c2⟩ := k.2.2 4 (18, s18) rfl
  exact ⟨c1, by omega, by rw [c2]; decide⟩
theorem St.k20 {h : AH} (k : St h) : Str h 20 s20 ∧ 20 < 200 ∧ hR h 20 0 < 200 := by
  obtain ⟨c1, c2⟩ := k.2.2 5 (20, s20) rfl
  exact ⟨c1, by omega, by rw [c2]; decide⟩
theorem St.k22 {h : AH} (k : St h) : Str h 22 s22 ∧ 22 < 200 ∧ hR h 22 0 < 200 := by
  obtain ⟨c1, c2⟩ := k.2.2 6 (22, s22) rfl
  exact ⟨c1, by omega, by rw [c2]; decide⟩
theorem St.k24 {h : AH} (k : St h) : Str h 24 s24 ∧ 24 < 200 ∧ hR h 24 0 < 200 := by
  obtain ⟨c1, c2⟩ := k.2.2 7 (24, s24) rfl
  exact ⟨c1, by omega, by rw [c2]; decide⟩
theorem St.k26 {h : AH} (k : St h) : Str h 26 s26 ∧ 26 < 200 ∧ hR h 26 0 < 200 := by
  obtain ⟨c1, c2⟩ := k.2.2 8 (26, s26) rfl
  exact ⟨c1, by omega, by rw [c2]; decide⟩
theorem St.k28 {h : AH} (k : St h) : Str h 28 s28 ∧ 28 < 200 ∧ hR h 28 0 < 200 := by
  obtain ⟨c1, c2⟩ := k.2.2 9 (28, s28) rfl
  exact ⟨c1, by omega, by rw [c2]; decide⟩
theorem St.k30 {h : AH} (k : St h) : Str h 30 s30 ∧ 30 < 200 ∧ hR h 30 0 < 200 := by
  obtain ⟨c1, c2⟩ := k.2.2 10 (30, s30) rfl
  exact ⟨c1, by omega, by rw [c2]; decide⟩
theorem St.k32 {h : AH} (k : St h) : Str h 32 s32 ∧ 32 < 200 ∧ hR h 32 0 < 200 := by
  obtain ⟨c1, c2⟩ := k.2.2 11 (32, s32) rfl
  exact ⟨c1, by omega, by rw [c2]; decide⟩
theorem St.k34 {h : AH} (k : St h) : Str h 34 s34 ∧ 34 < 200 ∧ hR h 34 0 < 200 := by
  obtain ⟨c1, c2⟩ := k.2.2 12 (34, s34) rfl
  exact ⟨c1, by omega, by rw [c2]; decide⟩
theorem St.k36 {h : AH} (k : St h) : Str h 36 s36 ∧ 36 < 200 ∧ hR h 36 0 < 200 := by
  obtain ⟨c1, c2⟩ := k.2.2 13 (36, s36) rfl
  exact ⟨c1, by omega, by rw [c2]; decide⟩
theorem St.k38 {h : AH} (k : St h) : Str h 38 s38 ∧ 38 < 200 ∧ hR h 38 0 < 200 := by
  obtain ⟨c1, c2⟩ := k.2.2 14 (38, s38) rfl
  exact ⟨c1, by omega, by rw [c2]; decide⟩
theorem St.k40 {h : AH} (k : St h) : Str h 40 s40 ∧ 40 < 200 ∧ hR h 40 0 < 200 := by
  obtain ⟨c1, c2⟩ := k.2.2 15 (40, s40) rfl
  exact ⟨c1, by omega, by rw [c2]; decide⟩
theorem St.k42 {h : AH} (k : St h) : Str h 42 s42 ∧ 42 < 200 ∧ hR h 42 0 < 200 := by
  obtain ⟨c1, c2⟩ := k.2.2 16 (42, s42) rfl
  exact ⟨c1, by omega, by rw [c2]; decide⟩
theorem St.k44 {h : AH} (k : St h) : Str h 44 s44 ∧ 44 < 200 ∧ hR h 44 0 < 200 := by
  obtain ⟨c1, c2⟩ := k.2.2 17 (44, s44) rfl
  exact ⟨c1, by omega, by rw [c2]; decide⟩
theorem St.k46 {h : AH} (k : St h) : Str h 46 s46 ∧ 46 < 200 ∧ hR h 46 0 < 200 := by
  obtain ⟨c1, c2⟩ := k.2.2 18 (46, s46) rfl
  exact ⟨c1, by omega, by rw [c2]; decide⟩
theorem St.k48 {h : AH} (k : St h) : Str h 48 s48 ∧ 48 < 200 ∧ hR h 48 0 < 200 := by
  obtain ⟨c1, c2⟩ := k.2.2 19 (48, s48) rfl
  exact ⟨c1, by omega, by rw [c2]; decide⟩
theorem St.k50 {h : AH} (k : St h) : Str h 50 s50 ∧ 50 < 200 ∧ hR h 50 0 < 200 := by
  obtain ⟨c1, c2⟩ := k.2.2 20 (50, s50) rfl
  exact ⟨c1, by omega, by rw [c2]; decide⟩
theorem St.k52 {h : AH} (k : St h) : Str h 52 s52 ∧ 52 < 200 ∧ hR h 52 0 < 200 := by
  obtain ⟨c1, c2⟩ := k.2.2 21 (52, s52) rfl
  exact ⟨c1, by omega, by rw [c2]; decide⟩
theorem St.k54 {h : AH} (k : St h) : Str h 54 s54 ∧ 54 < 200 ∧ hR h 54 0 < 200 := by
  obtain ⟨c1, c2⟩ := k.2.2 22 (54, s54) rfl
  exact ⟨c1, by omega, by rw [c2]; decide⟩
theorem St.k56 {h : AH} (k : St h) : Str h 56 s56 ∧ 56 < 200 ∧ hR h 56 0 < 200 := by
  obtain ⟨c1, c2⟩ := k.2.2 23 (56, s56) rfl
  exact ⟨c1, by omega, by rw [c2]; decide⟩
theorem St.k58 {h : AH} (k : St h) : Str h 58 s58 ∧ 58 < 200 ∧ hR h 58 0 < 200 := by
  obtain ⟨c1, c2⟩ := k.2.2 24 (58, s58) rfl
  exact ⟨c1, by omega, by rw [c2]; decide⟩
theorem St.k60 {h : AH} (k : St h) : Str h 60 s60 ∧ 60 < 200 ∧ hR h 60 0 < 200 := by
  obtain ⟨c1, c2⟩ := k.2.2 25 (60, s60) rfl
  exact ⟨c1, by omega, by rw [c2]; decide⟩
theorem St.k62 {h : AH} (k : St h) : Str h 62 s62 ∧ 62 < 200 ∧ hR h 62 0 < 200 := by
  obtain ⟨c1, c2⟩ := k.2.2 26 (62, s62) rfl
  exact ⟨c1, by omega, by rw [c2]; decide⟩
theorem St.k64 {h : AH} (k : St h) : Str h 64 s64 ∧ 64 < 200 ∧ hR h 64 0 < 200 := by
  obtain ⟨c1, c2⟩ := k.2.2 27 (64, s64) rfl
  exact ⟨c1, by omega, by rw [c2]; decide⟩
theorem St.k66 {h : AH} (k : St h) : Str h 66 s66 ∧ 66 < 200 ∧ hR h 66 0 < 200 := by
  obtain ⟨c1, c2⟩ := k.2.2 28 (66, s66) rfl
  exact ⟨c1, by omega, by rw [c2]; decide⟩
theorem St.k68 {h : AH} (k : St h) : Str h 68 s68 ∧ 68 < 200 ∧ hR h 68 0 < 200 := by
  obtain ⟨c1, c2⟩ := k.2.2 29 (68, s68) rfl
  exact ⟨c1, by omega, by rw [c2]; decide⟩
theorem St.k70 {h : AH} (k : St h) : Str h 70 s70 ∧ 70 < 200 ∧ hR h 70 0 < 200 := by
  obtain ⟨c1, c2⟩ := k.2.2 30 (70, s70) rfl
  exact ⟨c1, by omega, by rw [c2]; decide⟩
theorem St.k72 {h : AH} (k : St h) : Str h 72 s72 ∧ 72 < 200 ∧ hR h 72 0 < 200 := by
  obtain ⟨c1, c2⟩ := k.2.2 31 (72, s72) rfl
  exact ⟨c1, by omega, by rw [c2]; decide⟩
theorem St.k74 {h : AH} (k : St h) : Str h 74 s74 ∧ 74 < 200 ∧ hR h 74 0 < 200 := by
  obtain ⟨c1, c2⟩ := k.2.2 32 (74, s74) rfl
  exact ⟨c1, by omega, by rw [c2]; decide⟩
theorem St.k76 {h : AH} (k : St h) : Str h 76 s76 ∧ 76 < 200 ∧ hR h 76 0 < 200 := by
  obtain ⟨c1, c2⟩ := k.2.2 33 (76, s76) rfl
  exact ⟨c1, by omega, by rw [c2]; decide⟩
theorem St.k78 {h : AH} (k : St h) : Str h 78 s78 ∧ 78 < 200 ∧ hR h 78 0 < 200 := by
  obtain ⟨c1, c2⟩ := k.2.2 34 (78, s78) rfl
  exact ⟨c1, by omega, by rw [c2]; decide⟩
theorem St.k80 {h : AH} (k : St h) : Str h 80 s80 ∧ 80 < 200 ∧ hR h 80 0 < 200 := by
  obtain ⟨c1, c2⟩ := k.2.2 35 (80, s80) rfl
  exact ⟨c1, by omega, by rw [c2]; decide⟩
theorem St.k82 {h : AH} (k : St h) : Str h 82 s82 ∧ 82 < 200 ∧ hR h 82 0 < 200 := by
  obtain ⟨c1, c2⟩ := k.2.2 36 (82, s82) rfl
  exact ⟨c1, by omega, by rw [c2]; decide⟩
theorem St.k84 {h : AH} (k : St h) : Str h 84 s84 ∧ 84 < 200 ∧ hR h 84 0 < 200 := by
  obtain ⟨c1, c2⟩ := k.2.2 37 (84, s84) rfl
  exact ⟨c1, by omega, by rw [c2]; decide⟩
theorem St.k86 {h : AH} (k : St h) : Str h 86 s86 ∧ 86 < 200 ∧ hR h 86 0 < 200 := by
  obtain ⟨c1, c2⟩ := k.2.2 38 (86, s86) rfl
  exact ⟨c1, by omega, by rw [c2]; decide⟩
theorem St.k88 {h : AH} (k : St h) : Str h 88 s88 ∧ 88 < 200 ∧ hR h 88 0 < 200 := by
  obtain ⟨c1, c2⟩ := k.2.2 39 (88, s88) rfl
  exact ⟨c1, by omega, by rw [c2]; decide⟩
theorem St.k90 {h : AH} (k : St h) : Str h 90 s90 ∧ 90 < 200 ∧ hR h 90 0 < 200 := by
  obtain ⟨c1, c2⟩ := k.2.2 40 (90, s90) rfl
  exact ⟨c1, by omega, by rw [c2]; decide⟩
theorem St.k92 {h : AH} (k : St h) : Str h 92 s92 ∧ 92 < 200 ∧ hR h 92 0 < 200 := by
  obtain ⟨c1, c2⟩ := k.2.2 41 (92, s92) rfl
  exact ⟨c1, by omega, by rw [c2]; decide⟩
theorem St.k94 {h : AH} (k : St h) : Str h 94 s94 ∧ 94 < 200 ∧ hR h 94 0 < 200 := by
  obtain ⟨c1, c2⟩ := k.2.2 42 (94, s94) rfl
  exact ⟨c1, by omega, by rw [c2]; decide⟩
theorem St.k96 {h : AH} (k : St h) : Str h 96 s96 ∧ 96 < 200 ∧ hR h 96 0 < 200 := by
  obtain ⟨c1, c2⟩ := k.2.2 43 (96, s96) rfl
  exact ⟨c1, by omega, by rw [c2]; decide⟩
theorem St.k98 {h : AH} (k : St h) : Str h 98 s98 ∧ 98 < 200 ∧ hR h 98 0 < 200 := by
  obtain ⟨c1, c2⟩ := k.2.2 44 (98, s98) rfl
  exact ⟨c1, by omega, by rw [c2]; decide⟩
theorem St.k100 {h : AH} (k : St h) : Str h 100 s100 ∧ 100 < 200 ∧ hR h 100 0 < 200 := by
  obtain ⟨c1, c2⟩ := k.2.2 45 (100, s100) rfl
  exact ⟨c1, by omega, by rw [c2]; decide⟩
theorem St.k102 {h : AH} (k : St h) : Str h 102 s102 ∧ 102 < 200 ∧ hR h 102 0 < 200 := by
  obtain ⟨c1, c2⟩ := k.2.2 46 (102, s102) rfl
  exact ⟨c1, by omega, by rw [c2]; decide⟩
theorem St.k104 {h : AH} (k : St h) : Str h 104 s104 ∧ 104 < 200 ∧ hR h 104 0 < 200 := by
  obtain ⟨c1, c2⟩ := k.2.2 47 (104, s104) rfl
  exact ⟨c1, by omega, by rw [c2]; decide⟩
theorem St.k106 {h : AH} (k : St h) : Str h 106 s106 ∧ 106 < 200 ∧ hR h 106 0 < 200 := by
  obtain ⟨c1, c2⟩ := k.2.2 48 (106, s106) rfl
  exact ⟨c1, by omega, by rw [c2]; decide⟩
theorem St.k108 {h : AH} (k : St h) : Str h 108 s108 ∧ 108 < 200 ∧ hR h 108 0 < 200 := by
  obtain ⟨c1, c2⟩ := k.2.2 49 (108, s108) rfl
  exact ⟨c1, by omega, by rw [c2]; decide⟩
theorem St.k110 {h : AH} (k : St h) : Str h 110 s110 ∧ 110 < 200 ∧ hR h 110 0 < 200 := by
  obtain ⟨c1, c2⟩ := k.2.2 50 (110, s110) rfl
  exact ⟨c1, by omega, by rw [c2]; decide⟩
theorem St.k112 {h : AH} (k : St h) : Str h 112 s112 ∧ 112 < 200 ∧ hR h 112 0 < 200 := by
  obtain ⟨c1, c2⟩ := k.2.2 51 (112, s112) rfl
  exact ⟨c1, by omega, by rw [c2]; decide⟩
theorem St.k114 {h : AH} (k : St h) : Str h 114 s114 ∧ 114 < 200 ∧ hR h 114 0 < 200 := by
  obtain ⟨c1, c2⟩ := k.2.2 52 (114, s114) rfl
  exact ⟨c1, by omega, by rw [c2]; decide⟩
theorem St.k116 {h : AH} (k : St h) : Str h 116 s116 ∧ 116 < 200 ∧ hR h 116 0 < 200 := by
  obtain ⟨c1, c2⟩ := k.2.2 53 (116, s116) rfl
  exact ⟨c1, by omega, by rw [c2]; decide⟩
theorem St.k118 {h : AH} (k : St h) : Str h 118 s118 ∧ 118 < 200 ∧ hR h 118 0 < 200 := by
  obtain ⟨c1, c2⟩ := k.2.2 54 (118, s118) rfl
  exact ⟨c1, by omega, by rw [c2]; decide⟩
theorem St.k120 {h : AH} (k : St h) : Str h 120 s120 ∧ 120 < 200 ∧ hR h 120 0 < 200 := by
  obtain ⟨c1, c2⟩ := k.2.2 55 (120, s120) rfl
  exact ⟨c1, by omega, by rw [c2]; decide⟩
theorem St.k122 {h : AH} (k : St h) : Str h 122 s122 ∧ 122 < 200 ∧ hR h 122 0 < 200 := by
  obtain ⟨c1, c2⟩ := k.2.2 56 (122, s122) rfl
  exact ⟨c1, by omega, by rw [c2]; decide⟩
-- a text under way at a: all below the place h0 had then stays
def Tx (h0 : AH) (a : Nat) (bs : List Nat) (h : AH) : Prop := Sb h a bs ∧ hN h0 ≤ a ∧ hN h0 ≤ hN h ∧ ∀ x, x < hN h0 → E4 h0 h x
def Co (c : Nat) (h h' : AH) : Prop := hN h ≤ hN h' ∧ hN h' ≤ hN h + c ∧ hU h' ≤ hU h + 5004 * c
theorem Co.refl (h : AH) : Co 0 h h := ⟨Nat.le_refl _, Nat.le_refl _, Nat.le_refl _⟩
theorem Co.trans {c d : Nat} {h h' h'' : AH} (h1 : Co c h h') (h2 : Co d h' h'') : Co (c + d) h h'' := by
  unfold Co at *
  omega
theorem Co.mono {c d : Nat} {h h' : AH} (k : Co c h h') (hd : c ≤ d) : Co d h h' := by
  unfold Co at *
  omega
theorem E4.trans {h h' h'' : AH} {x : Nat} (a : E4 h h' x) (b : E4 h' h'' x) : E4 h h'' x := ⟨b.1.trans a.1, b.2.1.trans a.2.1, b.2.2.1.trans a.2.2.1, b.2.2.2.trans a.2.2.2⟩
theorem E4.symm {h h' : AH} {x : Nat} (a : E4 h h' x) : E4 h' h x := ⟨a.1.symm, a.2.1.symm, a.2.2.1.symm, a.2.2.2.symm⟩
theorem Tx.ux {h0 h h' : AH} {a : Nat} {bs cs : List Nat} (t : Tx h0 a bs h) {d : Nat} (u : Ux a 1 d h h') (hs : Sb h' a cs) : Tx h0 a cs h' := by
  obtain ⟨t1, t2, t3, t4⟩ := t
  have va := t1.2.2.2.1
  exact ⟨hs, t2, Nat.le_trans t3 u.1, fun x hx => (t4 x hx).trans (u.2.2.2.2 x (by omega) (by omega) (by omega))⟩
theorem Ux.co {h h' : AH} {a d : Nat} (u : Ux a 1 d h h') (hd : d ≤ 5004) : Co 1 h h' := ⟨u.1, u.2.1, by have := u.2.2.1; omega⟩
theorem Tx.st {h0 h : AH} {a : Nat} {bs : List Nat} (t : Tx h0 a bs h) (h200 : 200 ≤ hN h0) (k : St h0) : St h := k.z fun x hx => t.2.2.2 x (by omega)
-- a constant, a string made since, a number, a sign
theorem Tx.s {h0 h : AH} {a s : Nat} {bs cs : List Nat} (t : Tx h0 a bs h) (h200 : 200 ≤ hN h0) (k : Str h s cs ∧ s < 200 ∧ hR h s 0 < 200) (hl : bs.length + cs.length ≤ 2400) : ∃ h', f_SB_append_s h a s = some (h', a) ∧ Tx h0 a (bs ++ cs) h' ∧ Co 1 h h' := by
  have va := t.1.2.2.2.1
  obtain ⟨h', e1, e2, e3⟩ := append_s_E t.1 k.1 (by have := t.2.2.1; omega) (by have := t.2.2.1; omega) (by have := t.2.1; omega) hl
  exact ⟨h', e1, t.ux e3 e2, e3.co (by omega)⟩
theorem Tx.d {h0 h : AH} {a s : Nat} {bs cs : List Nat} (t : Tx h0 a bs h) (k : Str h s cs) (h1 : s < hN h) (h2 : hR h s 0 < hN h) (h3 : hR h s 0 ≠ hR h a 0) (hl : bs.length + cs.length ≤ 2400) : ∃ h', f_SB_append_s h a s = some (h', a) ∧ Tx h0 a (bs ++ cs) h' ∧ Co 1 h h' := by
  obtain ⟨h', e1, e2, e3⟩ := append_s_E t.1 k h1 h2 h3 hl
  exact ⟨h', e1, t.ux e3 e2, e3.co (by omega)⟩
theorem Tx.i {h0 h : AH} {a n : Nat} {bs : List Nat} (t : Tx h0 a bs h) (hd : Dg h) (hn : n < 1000) (hl : bs.length + 3 ≤ 2400) : ∃ h', f_SB_append_I h a (iI (n : Int)) = some (h', a) ∧ Tx h0 a (bs ++ dig n) h' ∧ Co 1 h h' := by
  obtain ⟨h', e1, e2, e3⟩ := append_I_E t.1 hd hn hl
  exact ⟨h', e1, t.ux e3 e2, e3.co (by omega)⟩
theorem Tx.c {h0 h : AH} {a c : Nat} {bs : List Nat} (t : Tx h0 a bs h) (hc : c < 128) (hl : bs.length + 1 ≤ 2400) : ∃ h', f_SB_append_C h a (iI (c : Int)) = some (h', a) ∧ Tx h0 a (bs ++ [c]) h' ∧ Co 1 h h' := by
  obtain ⟨h', e1, e2, e3⟩ := append_C_E t.1 hc hl
  exact ⟨h', e1, t.ux e3 e2, e3.co (by omega)⟩
-- more cells, by others
theorem Tx.ext {h0 h h' : AH} {a : Nat} {bs : List Nat} (t : Tx h0 a bs h) (hn : hN h ≤ hN h') (e : ∀ x, x < hN h → E4 h h' x) : Tx h0 a bs h' := by
  obtain ⟨⟨s1, s2, s3, s4, s5, s6, s7, s8, s9, s10, s11⟩, t2, t3, t4⟩ := t
  have ea := e a s2
  have ev := e (hR h a 0) s3
  refine ⟨?_, t2, by omega, fun x hx => (t4 x hx).trans (e x (by omega))⟩
  unfold Sb
  rw [ea.2.2.2, ea.1, ea.2.2.1, ev.1, ev.2.1, ev.2.2.1]
  exact ⟨s1, by omega, by omega, s4, s5, s6, s7, s8, s9, s10, s11⟩
-- begun
theorem Tx.new {h : AH} (h0 : 200 ≤ hN h) : ∃ h', f_SB_init (hA h 14 4) (hN h) = some h' ∧ hT (hA h 14 4) (hN h) = 14 ∧ Tx h (hN h) [] h' ∧ Co 2 h h' := by
  obtain ⟨h', e1, e2, e3, e4⟩ := sbNew_E h0
  exact ⟨h', e1, e2, ⟨e3, Nat.le_refl _, e4.1, e4.2.2.2⟩, e4.1, e4.2.1, by have := e4.2.2.1; omega⟩
theorem bn_I {h h' : AH} {a : Nat} {x : Int32} {n : Nat} {β : Type} {f : AH → Nat → Option β} (hx : x = iI (n : Int)) (e : f_SB_append_I h a (iI (n : Int)) = some (h', a)) : bn (f_SB_append_I h a x) f = f h' a := by rw [hx, e]; rfl
theorem bn_s {h h' : AH} {a x y : Nat} {β : Type} {f : AH → Nat → Option β} (hx : x = y) (e : f_SB_append_s h a y = some (h', a)) : bn (f_SB_append_s h a x) f = f h' a := by rw [hx, e]; rfl

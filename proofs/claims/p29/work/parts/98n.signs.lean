/-! 98n L3: signs; a token behind another -/
theorem slat_E {h : AH} {s : Nat} {cs : List Nat} (k : Str h s cs) : f_String_isLatin1 h s = some (h, iI 1) := by
  unfold f_String_isLatin1
  rw [if_neg (by decide), gd_P k.1, k.2.1, if_neg (fun q => q rfl), nI_L]
theorem u16_E {c : Nat} (h : c < 128) : UInt32.toInt32 (Int32.toUInt32 (iI (c : Int)) % 65536) = iI (c : Int) := by
  have all : ((List.range 128).all fun c => decide (UInt32.toInt32 (Int32.toUInt32 (nI c) % 65536) = nI c)) = true := by decide +kernel
  have q := of_decide_eq_true (List.all_eq_true.mp all c (List.mem_range.mpr h))
  rw [nI_i c] at q
  exact q
theorem i8s_E {c : Nat} (h : c < 128) : Int8.toInt32 (Int32.toInt8 (iI (c : Int))) = iI (c : Int) := by
  have all : ((List.range 128).all fun c => decide (Int8.toInt32 (Int32.toInt8 (nI c)) = nI c)) = true := by decide +kernel
  have q := of_decide_eq_true (List.all_eq_true.mp all c (List.mem_range.mpr h))
  rw [nI_i c] at q
  exact q
theorem idx_l {h : AH} {v c r : Nat} {bs : List Nat} (hv : hT h v = 102) (hl : bs.length ≤ hL h v) (hl2 : bs.length ≤ 1000) (hB : Bs (hI h v) bs) (hb : ∀ i, nth bs i < 128) (hc : c < 128) (hr : r < bs.length) (h1 : ∀ i, i < r → nth bs i ≠ c) (h2 : nth bs r = c) : ∀ (j : Nat) {k N : Nat}, j + k = r → f_Lat_indexOfChar_l7 (j + 1 + N) h v (iI (bs.length : Int)) (iI (c : Int)) (iI (k : Int)) = some (h, iI (r : Int)) := by
  intro j
  induction j with
  | zero =>
    intro k N hj
    obtain rfl : k = r := by omega
    have n0 : ¬ iI (k : Int) < 0 := by rw [z_i, iI_lt (by omega) (by omega) (by omega) (by omega)]; omega
    have ixk : (iI (k : Int)).toNatClampNeg = k := iI_ixn (by omega)
    rw [show 0 + 1 + N = N + 1 by omega]
    show f_Lat_indexOfChar_b7 (f_Lat_indexOfChar_l7 N) h v (iI (bs.length : Int)) (iI (c : Int)) (iI (k : Int)) = _
    unfold f_Lat_indexOfChar_b7
    rw [if_neg (by rw [iI_le (by omega) (by omega) (by omega) (by omega)]; omega), gd_P ⟨hv, n0, by show (iI (k : Int)).toNatClampNeg < _; rw [ixk]; omega⟩, show ix (iI (k : Int)) = k from ixk, hB k hr, h2, if_neg (fun q => q rfl)]
  | succ j ih =>
    intro k N hj
    have q := ih (k := k + 1) (N := N) (by omega)
    have n0 : ¬ iI (k : Int) < 0 := by rw [z_i, iI_lt (by omega) (by omega) (by omega) (by omega)]; omega
    have ixk : (iI (k : Int)).toNatClampNeg = k := iI_ixn (by omega)
    have ek : iI (k : Int) + nI 1 = iI ((k + 1 : Nat) : Int) := by rw [nI_L, iI_add]; rfl
    have ne := h1 k (by omega)
    have bk := hb k
    rw [show j + 1 + 1 + N = (j + 1 + N) + 1 by omega, ← q]
    show f_Lat_indexOfChar_b7 (f_Lat_indexOfChar_l7 (j + 1 + N)) h v (iI (bs.length : Int)) (iI (c : Int)) (iI (k : Int)) = _
    unfold f_Lat_indexOfChar_b7
    rw [if_neg (by rw [iI_le (by omega) (by omega) (by omega) (by omega)]; omega), gd_P ⟨hv, n0, by show (iI (k : Int)).toNatClampNeg < _; rw [ixk]; omega⟩, show ix (iI (k : Int)) = k from ixk, hB k (by omega), if_pos (by rw [iI_eq (by omega) (by omega) (by omega) (by omega)]; omega), ek, lq_E]
theorem idx_E {h : AH} {s c r : Nat} {bs : List Nat} (hs : Str h s bs) (hl2 : bs.length ≤ 1000) (hb : ∀ i, nth bs i < 128) (hc : c < 128) (hr : r < bs.length) (h1 : ∀ i, i < r → nth bs i ≠ c) (h2 : nth bs r = c) : f_String_indexOf_I h s (iI (c : Int)) = some (h, iI (r : Int)) := by
  obtain ⟨k1, k2, k3, k4, k5, k6⟩ := hs
  have hs : Str h s bs := ⟨k1, k2, k3, k4, k5, k6⟩
  obtain ⟨N, hN'⟩ : ∃ N, FU = r + 1 + N := ⟨FU - (r + 1), by unfold FU; omega⟩
  have e1 : f_Lat_canEncode_I h (iI (c : Int)) = some (h, iI 1) := by
    unfold f_Lat_canEncode_I
    rw [if_neg (by rw [z_i, iI_lt (by omega) (by omega) (by omega) (by omega)]; omega), nI_L, if_neg (by rw [iI_lt (by omega) (by omega) (by omega) (by omega)]; omega), nI_L]
  have e2 : f_Lat_indexOfChar h (hR h s 0) (iI (c : Int)) (iI 0) (iI (bs.length : Int)) = some (h, iI (r : Int)) := by
    unfold f_Lat_indexOfChar
    rw [lq_E, i8s_E hc, hN']
    exact idx_l k3 k4 hl2 k6 hb hc hr h1 h2 r (k := 0) (N := N) (by omega)
  have e3 : f_Lat_indexOf h (hR h s 0) (iI (c : Int)) (iI 0) (iI (bs.length : Int)) = some (h, iI (r : Int)) := by
    unfold f_Lat_indexOf
    rw [bn_C e1, if_pos (by decide), nI_L, bn_C (max_E (by omega) (by omega) (by omega) (by omega)), gd_P k3, k5, bn_C (min_E (by omega) (by omega) (by omega) (by omega)), show min (bs.length : Int) (bs.length : Int) = (bs.length : Int) by omega, show max (0 : Int) 0 = 0 from rfl, if_pos (by rw [iI_lt (by omega) (by omega) (by omega) (by omega)]; omega), bn_C e2]
  unfold f_String_indexOf_I
  rw [gd_P k1, nI_L]
  have e4 : f_String_indexOf_II h s (iI (c : Int)) (iI 0) = some (h, iI (r : Int)) := by
    unfold f_String_indexOf_II
    rw [gd_P k1, bn_C (slat_E hs), if_neg (by decide), gd_P k1, bn_C (slen_E hs), bn_C e3]
  rw [bn_C e4]
theorem sign_E {h : AH} (st : St h) {r : Nat} (hr : r < 13) : f_String_indexOf_I h 114 (UInt32.toInt32 (Int32.toUInt32 (iI (nth s114 r : Int)) % 65536)) = some (h, iI (r : Int)) := by
  have all : ((List.range 13).all fun r => decide (nth s114 r < 128) && (List.range r).all fun i => decide (nth s114 i ≠ nth s114 r)) = true := by decide +kernel
  have q := List.all_eq_true.mp all r (List.mem_range.mpr hr)
  rw [Bool.and_eq_true] at q
  have q1 := of_decide_eq_true q.1
  rw [u16_E q1]
  refine idx_E st.k114.1 (by decide) (fun i => ?_) q1 hr (fun i hi => of_decide_eq_true (List.all_eq_true.mp q.2 i (List.mem_range.mpr hi))) rfl
  by_cases c : i < 13
  · have q := List.all_eq_true.mp all i (List.mem_range.mpr c)
    rw [Bool.and_eq_true] at q
    exact of_decide_eq_true q.1
  · rw [nth_z (by show 13 ≤ i; omega)]; decide
def okt (k v : Nat) : Prop := (1 ≤ k ∧ k ≤ 54) ∨ (k = 55 ∧ (v / 16 = 103 ∨ v / 16 = 114 ∨ v / 16 = 112 ∨ v / 16 = 98) ∧ v % 16 < 10) ∨ (k = 56 ∧ v < 1000)
def adj (k f : Nat) : Prop := (k ≤ 39 ∨ 55 ≤ k → ¬ aln f) ∧ (k = 50 ∨ k = 51 → f ≠ 61)
-- what is told of the i-th token
def Tk1 (h : AH) (i k v : Nat) : Prop := hI h 257 i = iI (k : Int) ∧ (k = 56 → hI h 259 i = iI (v : Int)) ∧ (k = 55 → hJ h 260 i = wj (Int64.ofNat 0) (tkb k v))
def kwOk (k : Nat) : Bool := (((KWL[k]?).getD []).all fun c => decide (97 ≤ c ∧ c ≤ 122)) && decide (((KWL[k]?).getD []).length ≤ 10 ∧ 1 ≤ ((KWL[k]?).getD []).length) && (List.range (k - 1)).all fun i => decide (kwj (i + 1) ≠ kwj k)
theorem kwAll : ((List.range 39).all fun k => kwOk (k + 1)) = true := by decide +kernel
def nmOk (l d : Nat) : Bool := (List.range 39).all fun i => decide (kwj (i + 1) ≠ wj (Int64.ofNat 0) [l, 48 + d])
theorem nmAll : ((List.range 10).all fun d => nmOk 103 d && nmOk 114 d && nmOk 112 d && nmOk 98 d) = true := by decide +kernel

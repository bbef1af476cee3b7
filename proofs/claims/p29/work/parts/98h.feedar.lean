/-! 98h L3: four bytes in an int, and out of it -/
theorem iI_bv {a : Nat} (h : a < 2147483648) : (iI (a : Int)).toBitVec.toNat = a := by
  show (BitVec.ofInt 32 (a : Int)).toNat = a
  rw [BitVec.toNat_ofInt]
  omega
theorem slo {a b : Nat} (ha : a < 8388608) (hb : b < 256) : (iI (a : Int) <<< (iI 8 &&& 31)) ||| iI (b : Int) = iI ((a * 256 + b : Nat) : Int) := by
  apply Int32.toBitVec_inj.mp
  apply BitVec.eq_of_toNat_eq
  rw [Int32.toBitVec_or, Int32.toBitVec_shiftLeft, BitVec.toNat_or, BitVec.shiftLeft_eq', BitVec.toNat_shiftLeft, iI_bv (by omega), iI_bv (by omega), iI_bv (by omega), show ((iI 8 &&& 31).toBitVec.smod (32 : BitVec 32)).toNat = 8 by decide]
  have h1 : a <<< 8 % 2 ^ 32 = a <<< 8 := by
    apply Nat.mod_eq_of_lt
    rw [Nat.shiftLeft_eq]
    omega
  rw [h1, ← Nat.shiftLeft_add_eq_or_of_lt (by omega : b < 2 ^ 8), Nat.shiftLeft_eq]
theorem shrI {v : Int32} {s : Int32} {k : Nat} (hs : ((s &&& 31).toBitVec.smod (32 : BitVec 32)).toNat = k) : (v >>> (s &&& 31)).toInt = v.toInt / 2 ^ k := by
  show ((v >>> (s &&& 31)).toBitVec).toInt = _
  rw [Int32.toBitVec_shiftRight, BitVec.sshiftRight_eq', BitVec.toInt_sshiftRight, hs, Int.shiftRight_eq_div_pow]
  rfl
theorem byteOf {x : Int32} {b : Nat} (h : x.toInt % 256 = (b : Int)) (hb : b < 128) : Int8.toInt32 (Int32.toInt8 x) = iI (b : Int) := by
  apply Int32.toInt.inj
  rw [Int8.toInt_toInt32, Int32.toInt_toInt8, iI_toInt (by omega) (by omega), show (2 : Nat) ^ 8 = 256 from rfl, Int.bmod_def]
  rw [show ((256 : Nat) : Int) = 256 from rfl, h, if_pos (by omega)]
-- four bytes
def v4 (a b c d : Nat) : Nat := ((a * 256 + b) * 256 + c) * 256 + d
theorem v4_bytes {a b c d : Nat} (ha : a < 128) (hb : b < 128) (hc : c < 128) (hd : d < 128) :
    Int8.toInt32 (Int32.toInt8 (iI (v4 a b c d : Int) >>> (iI 24 &&& 31))) = iI (a : Int) ∧ Int8.toInt32 (Int32.toInt8 (iI (v4 a b c d : Int) >>> (iI 16 &&& 31))) = iI (b : Int) ∧ Int8.toInt32 (Int32.toInt8 (iI (v4 a b c d : Int) >>> (iI 8 &&& 31))) = iI (c : Int) ∧ Int8.toInt32 (Int32.toInt8 (iI (v4 a b c d : Int) >>> (iI 0 &&& 31))) = iI (d : Int) := by
  have hv : v4 a b c d < 2147483648 := by unfold v4; omega
  have ht : (iI (v4 a b c d : Int)).toInt = (v4 a b c d : Int) := iI_toInt (by omega) (by omega)
  refine ⟨byteOf ?_ ha, byteOf ?_ hb, byteOf ?_ hc, byteOf ?_ hd⟩
  · rw [shrI (k := 24) (by decide), ht]
    unfold v4
    omega
  · rw [shrI (k := 16) (by decide), ht]
    unfold v4
    omega
  · rw [shrI (k := 8) (by decide), ht]
    unfold v4
    omega
  · rw [shrI (k := 0) (by decide), ht]
    unfold v4
    omega
theorem charAt_E {h : AH} {s : Nat} {cs : List Nat} (k : Str h s cs) {i : Nat} (hi : i < cs.length) (hl : cs.length ≤ 100000) (hb : nth cs i < 128) : f_String_charAt h s (iI (i : Int)) = some (h, iI (nth cs i : Int)) := by
  obtain ⟨k1, k2, k3, k4, k5, k6⟩ := k
  have ei := k6 i hi
  have ixi : (iI (i : Int)).toNatClampNeg = i := iI_ixn (by omega)
  have n0 : ¬ iI (i : Int) < 0 := by rw [z_i, iI_lt (by omega) (by omega) (by omega) (by omega)]; omega
  have n1 : iI (i : Int) < iI (cs.length : Int) := by rw [iI_lt (by omega) (by omega) (by omega) (by omega)]; omega
  generalize nth cs i = c at *
  have ch : UInt32.toInt32 (Int32.toUInt32 (iI (c : Int) &&& nI 255) % 65536) = iI (c : Int) := by
    have all : ((List.range 128).all fun c => decide (UInt32.toInt32 (Int32.toUInt32 (nI c &&& nI 255) % 65536) = nI c)) = true := by decide +kernel
    have q := of_decide_eq_true (List.all_eq_true.mp all c (List.mem_range.mpr hb))
    rw [nI_i c] at q
    exact q
  have n5 : nrm 5 (iI (c : Int)) := ⟨fun q => absurd q (by decide), fun q => absurd q (by decide), fun _ => by
    have all : ((List.range 128).all fun c => decide ((nI c).toUInt32.toUInt16.toUInt32.toInt32 = nI c)) = true := by decide +kernel
    have q := of_decide_eq_true (List.all_eq_true.mp all c (List.mem_range.mpr hb))
    rw [nI_i c] at q
    exact q⟩
  have fp : f_Pre_checkIndex h (iI (i : Int)) (iI (cs.length : Int)) 5 = some (h, iI (i : Int)) := by
    unfold f_Pre_checkIndex
    rw [if_neg n0, if_pos n1]
  have fc : f_Lat_charAt h (hR h s 0) (iI (i : Int)) = some (h, iI (c : Int)) := by
    unfold f_Lat_charAt f_String_checkIndex
    rw [gd_P k3, k5, bn_C fp, bv_S, gd_P ⟨k3, n0, by show (iI (i : Int)).toNatClampNeg < _; rw [ixi]; omega⟩]
    show gd (nrm 5 (UInt32.toInt32 (Int32.toUInt32 (hI h (hR h s 0) (iI (i : Int)).toNatClampNeg &&& nI 255) % 65536))) _ = _
    rw [ixi, ei, ch, gd_P n5, show ix (iI (i : Int)) = i from ixi, ei, ch]
  have fl : f_String_isLatin1 h s = some (h, iI 1) := by
    unfold f_String_isLatin1
    rw [if_neg (by decide), gd_P k1, k2, if_neg (fun q => q rfl), nI_L]
  unfold f_String_charAt
  rw [gd_P k1, bn_C fl, if_neg (by decide), gd_P k1, bn_C fc, gd_P n5]

/-! 95 L3: what the text reads of the sim -/
theorem inb_i {k c : Nat} (h : k < c) (hc : k < 2147483648) : inb (iI (k : Int)) c := ⟨by rw [z_i, iI_lt (by omega) (by omega) (by omega) (by omega)]; omega, by rw [iI_ixn hc]; exact h⟩
theorem inb_n {k c : Nat} (h : k < c) (hc : k < 2147483648) : inb (nI k) c := by rw [nI_i]; exact inb_i h hc
theorem ix_i {k : Nat} (hc : k < 2147483648) : ix (iI (k : Int)) = k := iI_ixn hc
theorem ix_n {k : Nat} (hc : k < 2147483648) : ix (nI k) = k := by rw [nI_i]; exact iI_ixn hc
section
variable {xA n m p b no : Nat} {O : Nat → Nat → Int} {h : AH} {g : GM}
theorem SkM.g1 (k : SkM n m p b no h) {i : Nat} (hi : i < n) (h4 : i < 100) : hT h (hR h 320 12) = 109 ∧ inb (iI (i : Int)) (hL h (hR h 320 12)) := by rw [k.r12]; exact ⟨k.tga, by rw [k.lga]; exact inb_i hi (by omega)⟩
theorem SkM.g2 (k : SkM n m p b no h) {i s : Nat} (hi : i < n) (h4 : i < 100) (hs : s < 3) : hT h (hR h (hR h 320 12) (ix (iI (i : Int)))) = 101 ∧ inb (nI s) (hL h (hR h (hR h 320 12) (ix (iI (i : Int))))) := by rw [k.r12, ix_i (by omega), k.gR hi]; exact ⟨k.gT hi, by rw [k.gL hi]; exact inb_n hs (by omega)⟩
theorem Sm.g3 (hs : Sm xA n m p b no O h g) {i s : Nat} (hi : i < n) (h4 : i < 4) (h3 : s < 3) : hI h (hR h (hR h 320 12) (ix (iI (i : Int)))) (ix (nI s)) = iI (g (7 + i) s) := by rw [hs.1.r12, ix_i (by omega), hs.1.gR hi, ix_n (by omega)]; exact hs.ga h4 hi h3
theorem SkM.p1 (k : SkM n m p b no h) {i : Nat} (hi : i < p) (h4 : i < 100) : hT h (hR h 320 15) = 109 ∧ inb (iI (i : Int)) (hL h (hR h 320 15)) := by rw [k.r15]; exact ⟨k.tpe, by rw [k.lpe]; exact inb_i hi (by omega)⟩
theorem SkM.p2 (k : SkM n m p b no h) {i s : Nat} (hi : i < p) (h4 : i < 100) (hs : s < 7) : hT h (hR h (hR h 320 15) (ix (iI (i : Int)))) = 101 ∧ inb (nI s) (hL h (hR h (hR h 320 15) (ix (iI (i : Int))))) := by rw [k.r15, ix_i (by omega), k.pR hi]; exact ⟨k.pT hi, by rw [k.pL hi]; exact inb_n hs (by omega)⟩
theorem Sm.p3 (hs : Sm xA n m p b no O h g) {i s : Nat} (hi : i < p) (h4 : i < 8) (h3 : s < 7) : hI h (hR h (hR h 320 15) (ix (iI (i : Int)))) (ix (nI s)) = iI (g (31 + i) s) := by rw [hs.1.r15, ix_i (by omega), hs.1.pR hi, ix_n (by omega)]; exact hs.pe h4 hi h3
theorem SkM.b1 (k : SkM n m p b no h) {i : Nat} (hi : i < b) (h4 : i < 100) : hT h (hR h 320 16) = 109 ∧ inb (iI (i : Int)) (hL h (hR h 320 16)) := by rw [k.r16]; exact ⟨k.tbo, by rw [k.lbo]; exact inb_i hi (by omega)⟩
theorem SkM.b2 (k : SkM n m p b no h) {i s : Nat} (hi : i < b) (h4 : i < 100) (hs : s < 7) : hT h (hR h (hR h 320 16) (ix (iI (i : Int)))) = 101 ∧ inb (nI s) (hL h (hR h (hR h 320 16) (ix (iI (i : Int))))) := by rw [k.r16, ix_i (by omega), k.bR hi]; exact ⟨k.bT hi, by rw [k.bL hi]; exact inb_n hs (by omega)⟩
theorem Sm.b3 (hs : Sm xA n m p b no O h g) {i s : Nat} (hi : i < b) (h4 : i < 4) (h3 : s < 7) (h5 : s ≠ 5) : hI h (hR h (hR h 320 16) (ix (iI (i : Int)))) (ix (nI s)) = iI (g (39 + i) s) := by rw [hs.1.r16, ix_i (by omega), hs.1.bR hi, ix_n (by omega)]; exact hs.bo h4 hi h3 h5
theorem SkM.o1 (k : SkM n m p b no h) {i : Nat} (hi : i < m) (h4 : i < 100) : hT h (hR h 320 13) = 101 ∧ inb (iI (i : Int)) (hL h (hR h 320 13)) := by rw [k.r13]; exact ⟨k.tho, by rw [k.lho]; exact inb_i hi (by omega)⟩
theorem Sm.o3 (hs : Sm xA n m p b no O h g) {i : Nat} (hi : i < m) (h4 : i < 4) : hI h (hR h 320 13) (ix (iI (i : Int))) = iI (g (11 + 5 * i) 0) := by rw [hs.1.r13, ix_i (by omega)]; exact hs.ho h4 hi
theorem SkM.h1 (k : SkM n m p b no h) {i : Nat} (hi : i < 12) : hT h (hR h 320 7) = 101 ∧ inb (iI (i : Int)) (hL h (hR h 320 7)) := by rw [k.r7]; exact ⟨k.tsh, by rw [k.lsh]; exact inb_i hi (by omega)⟩
theorem Sm.h3 (hs : Sm xA n m p b no O h g) {i : Nat} (hi : i < 12) : hI h (hR h 320 7) (ix (iI (i : Int))) = iI (g 6 i) := by rw [hs.1.r7, ix_i (by omega)]; exact hs.sh hi
theorem SkM.c1 (k : SkM n m p b no h) {i : Nat} (hi : i < 4) : hT h (hR h 320 8) = 101 ∧ inb (iI (i : Int)) (hL h (hR h 320 8)) := by rw [k.r8]; exact ⟨k.tpr, by rw [k.lpr]; exact inb_i hi (by omega)⟩
theorem Sm.c3 (hs : Sm xA n m p b no O h g) {i : Nat} (hi : i < 4) : hI h (hR h 320 8) (ix (iI (i : Int))) = iI (g (43 + i) 1) := by rw [hs.1.r8, ix_i (by omega)]; exact hs.pr hi
-- an order's row
theorem SkM.w2 (k : SkM n m p b no h) {i s : Nat} (hi : i < no) (hs : s < 8) : hT h (338 + n + m + p + b + i) = 101 ∧ inb (nI s) (hL h (338 + n + m + p + b + i)) := ⟨k.oT hi, by rw [k.oL hi]; exact inb_n hs (by omega)⟩
theorem Sm.w3 (hs : Sm xA n m p b no O h g) {i s : Nat} (hi : i < no) (h8 : s < 8) : hI h (338 + n + m + p + b + i) (ix (nI s)) = iI (O i s) := by rw [ix_n (by omega)]; exact hs.orw hi h8
theorem iI_N {x : Int} (h : 0 ≤ x) : iI x = iI (x.toNat : Int) := by rw [Int.toNat_of_nonneg h]
theorem Tx.sm {h0 : AH} {a : Nat} {bs : List Nat} (hNm : Nm n m p b) (t : Tx h0 a bs h) (hs : Sm xA n m p b no O h0 g) : Sm xA n m p b no O h g := hs.ext hNm t.2.2.1 fun x _ hx => t.2.2.2 x hx
end

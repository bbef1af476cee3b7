/-! 98y L3: the whole text read by the grammar -/
theorem Lns.app0 {s t : List Tok} {B B' : Nat} (h1 : Lns s B 0 dN) (h2 : Lns t B' 0 dN) : Lns (s ++ t) (B + B') 0 dN := Lns.app h1 h2
theorem Lns.ln0 {f : Nat → List Tok} {B : Nat} : ∀ {N : Nat}, (∀ i, i < N → Lns (f i) B 0 dN) → Lns (lnS f N) (B * N) 0 dN := by
  intro N
  induction N with
  | zero => intro _; exact Lns.nil
  | succ k ih =>
    intro h
    exact ((ih fun i hi => h i (by omega)).app0 (h k (by omega))).mono (by rw [Nat.mul_succ]; omega) (Nat.le_refl _)
theorem Rd.d0 {hb : AH} {K r r' : List Nat} {ds : List (Nat × Nat)} {ps ps' : Nat} {f : AH → Option (AH × Int32)} (q : Rd hb K f r ds ps r' ds ps') : Rd hb K f r ds ps r' (ds ++ dN ps) ps' := by
  rw [show ds ++ dN ps = ds from List.append_nil ds]
  exact q
theorem len1 {a : Tok} {l : List Tok} : 1 ≤ (a :: l).length := Nat.le_add_left 1 _
theorem lG {k v0 v1 v2 : Nat} : Lns (tkG k v0 v1 v2) 1 0 dN := Lns.line (fun _ => Nat.le_refl _) ⟨nz (by decide), len1⟩ fun _ _ _ _ _ _ => ⟨8, rfl, Rd.d0 lnG⟩
theorem lR {k v : Nat} : Lns (tkR k v) 1 0 dN := Lns.line (fun _ => Nat.le_refl _) ⟨nz (by decide), len1⟩ fun _ _ _ _ _ _ => ⟨4, rfl, Rd.d0 lnR⟩
theorem lP {k a r s : Nat} : Lns (tkP k a r s) 1 0 dN := Lns.line (fun _ => Nat.le_refl _) ⟨nz (by decide), len1⟩ fun _ _ _ _ _ _ => ⟨8, rfl, Rd.d0 lnP⟩
theorem lB {k v s : Nat} : Lns (tkB k v s) 1 0 dN := Lns.line (fun _ => Nat.le_refl _) ⟨nz (by decide), len1⟩ fun _ _ _ _ _ _ => ⟨6, rfl, Rd.d0 lnB⟩
theorem lH {k v : Nat} : Lns (tkH k v) 1 0 dN := Lns.line (fun _ => Nat.le_refl _) ⟨nz (by decide), len1⟩ fun _ _ _ _ _ _ => ⟨4, rfl, Rd.d0 lnH⟩
theorem lC {k v : Nat} (h : k < 4) : Lns (tkC k v) 1 0 dN := Lns.line (fun _ => Nat.le_refl _) ⟨nz (by decide), len1⟩ fun _ _ _ _ _ _ => ⟨3, rfl, Rd.d0 (lnC (gr4 h))⟩
theorem lV1 {r c : Nat} {e : List Nat} : Lns [(13, 0, [32]), (56, r, [32]), (14, 0, [32]), (56, c, []), (44, 0, e)] 1 0 dN := Lns.line (fun _ => Nat.le_refl _) ⟨nz (by decide), len1⟩ fun _ _ _ _ _ _ => ⟨4, rfl, Rd.d0 lnV⟩
theorem lV {r c : Nat} : Lns (tkV r c) 2 0 dN := Lns.app0 (s := [(13, 0, [32]), (56, 7, [32]), (14, 0, [32]), (56, 5, []), (44, 0, [])]) lV1 lV1
theorem lO {n m p b : Nat} {w : Nat → Int} (hW : Wk n m p b w) : Lns (tkO n m p b w) 1 15 (dO n m p b w) := by
  refine Lns.line (dO_len n m p b w) ⟨?_, ?_⟩ fun hb K r ds ps hd => lnO hW (by omega)
  · unfold tkO
    split
    · exact nz (by decide)
    · split
      · exact nz (by decide)
      · exact nz (by decide)
  · unfold tkO
    split
    · rw [List.length_cons]; omega
    · rw [List.length_cons]; omega
def tkPre (n m p b : Nat) (g : GM) : List Tok :=
  lnS (fun i => tkG i (g (7 + i) 0).toNat (g (7 + i) 1).toNat (g (7 + i) 2).toNat) n ++ (lnS (fun i => tkR i (g (11 + 5 * i) 0).toNat) m ++ (lnS (fun i => tkP i (g (31 + i) 0).toNat (g (31 + i) 1).toNat (g (31 + i) 2).toNat) p ++
    (lnS (fun i => tkB i (g (39 + i) 0).toNat (g (39 + i) 1).toNat) b ++ (tkVs g ++ (lnS (tkHs g) 12 ++ lnS (tkCs g) 4)))))
theorem tkAll_pre (n m p b no : Nat) (O : Nat → Nat → Int) (g : GM) : tkAll n m p b no O g = tkPre n m p b g ++ lnS (fun i => tkO n m p b (O i)) no := by
  unfold tkAll tkPre
  simp only [List.append_assoc]
theorem lPre {n m p b : Nat} {g : GM} (hNm : Nm n m p b) : Lns (tkPre n m p b g) 40 0 dN := by
  unfold Nm at hNm
  have a1 := Lns.ln0 (f := fun i => tkG i (g (7 + i) 0).toNat (g (7 + i) 1).toNat (g (7 + i) 2).toNat) (B := 1) (N := n) fun i _ => lG
  have a2 := Lns.ln0 (f := fun i => tkR i (g (11 + 5 * i) 0).toNat) (B := 1) (N := m) fun i _ => lR
  have a3 := Lns.ln0 (f := fun i => tkP i (g (31 + i) 0).toNat (g (31 + i) 1).toNat (g (31 + i) 2).toNat) (B := 1) (N := p) fun i _ => lP
  have a4 := Lns.ln0 (f := fun i => tkB i (g (39 + i) 0).toNat (g (39 + i) 1).toNat) (B := 1) (N := b) fun i _ => lB
  have a5 : Lns (tkVs g) 2 0 dN := by
    unfold tkVs
    split
    · exact Lns.nil.mono (by omega) (Nat.le_refl _)
    · exact lV
  have a6 := Lns.ln0 (f := tkHs g) (B := 1) (N := 12) fun i _ => by
    unfold tkHs
    split
    · exact Lns.nil.mono (by omega) (Nat.le_refl _)
    · exact lH
  have a7 := Lns.ln0 (f := tkCs g) (B := 1) (N := 4) fun i hi => by
    unfold tkCs
    split
    · exact Lns.nil.mono (by omega) (Nat.le_refl _)
    · exact lC hi
  exact (a1.app0 (a2.app0 (a3.app0 (a4.app0 (a5.app0 (a6.app0 a7)))))).mono (by omega) (Nat.le_refl _)
def dAll (n m p b no : Nat) (O : Nat → Nat → Int) (g : GM) : List (Nat × Nat) := dLn (fun i => tkO n m p b (O i)) (fun i => dO n m p b (O i)) no (tkPre n m p b g).length
theorem lAll {n m p b no : Nat} {O : Nat → Nat → Int} {g : GM} (hNm : Nm n m p b) (hno : no ≤ 7) (hW : ∀ i, i < no → Wk n m p b (O i)) : ∃ d, Lns (tkAll n m p b no O g) 47 105 d ∧ d 0 = dAll n m p b no O g := by
  have q := (lPre (g := g) hNm).app (Lns.ln (f := fun i => tkO n m p b (O i)) (d := fun i => dO n m p b (O i)) (B := 1) (D := 15) (N := no) fun i hi => lO (hW i hi))
  rw [tkAll_pre]
  refine ⟨_, q.mono (by omega) (by omega), ?_⟩
  show dN 0 ++ dLn _ _ no (0 + (tkPre n m p b g).length) = _
  rw [Nat.zero_add]
  rfl
theorem readsList_E {ts : List Tok} {d : Nat → List (Nat × Nat)} {h : AH} (L : Lns ts 47 105 d) (S1 : SkG h) (S2 : SkT h) (S3 : Kd (ks ts ++ [57]) h) :
    ∃ h', f_Grammar_readsList h 254 = some (h', iI 1) ∧ GSt h (ks ts ++ [57]) [57] (d 0) ts.length h' := by
  have f1 : Fg h (wI h 254 2 (iI 0)) := Fg.wi (by omega)
  have ek := kindI_E (f1.skt S2) (f1.kd S3) (i := 0) (by rw [List.length_append, List.length_singleton]; omega)
  have f2 : Fg (wI h 254 2 (iI 0)) (wI (wI h 254 2 (iI 0)) 254 3 (iI (nth (ks ts ++ [57]) 0 : Int))) := Fg.wi (by omega)
  have f3 : Fg (wI (wI h 254 2 (iI 0)) 254 3 (iI (nth (ks ts ++ [57]) 0 : Int))) (wI (wI (wI h 254 2 (iI 0)) 254 3 (iI (nth (ks ts ++ [57]) 0 : Int))) 261 2 (iI 0)) := Fg.wi (by omega)
  have g0 : GSt h (ks ts ++ [57]) (ks ts ++ [57]) [] 0 (wI (wI (wI h 254 2 (iI 0)) 254 3 (iI (nth (ks ts ++ [57]) 0 : Int))) 261 2 (iI 0)) := by
    refine ⟨S1, S2, S3, (f1.trans f2).trans f3, At.z _, ?_, ?_, hI_we _ _ _ _, fun i d q => by cases q⟩
    · rw [hI_wn _ _ _ _ _ _ (by omega), hI_wn _ _ _ _ _ _ (by omega), hI_we]; rfl
    · rw [hI_wn _ _ _ _ _ _ (by omega), hI_we]
  obtain ⟨l1, c, hc, q⟩ := L
  obtain ⟨N, hN'⟩ : ∃ N, FU = N + 1 + c := ⟨FU - (c + 1), by unfold FU; omega⟩
  obtain ⟨h', e, g1⟩ := q h (ks ts ++ [57]) [57] [] 0 (N + 1) 0 _ (by rw [List.length_nil]; omega) (by omega) g0
  rw [List.nil_append, Nat.zero_add] at g1
  refine ⟨h', ?_, g1⟩
  obtain ⟨q1, q2, q3, q4, q5, q6, q7, q8, q9, q10⟩ := S1
  have w1 : hT (wI h 254 2 (iI 0)) 254 = 10 := q1
  have w2 : hR (wI h 254 2 (iI 0)) 254 0 = 255 := q2
  have w3 : hT (wI h 254 2 (iI 0)) 255 = 11 := S2.1.1
  have w4 : hT (wI (wI h 254 2 (iI 0)) 254 3 (iI (nth (ks ts ++ [57]) 0 : Int))) 254 = 10 := q1
  have w5 : hR (wI (wI h 254 2 (iI 0)) 254 3 (iI (nth (ks ts ++ [57]) 0 : Int))) 254 1 = 261 := q3
  have w6 : hT (wI (wI h 254 2 (iI 0)) 254 3 (iI (nth (ks ts ++ [57]) 0 : Int))) 261 = 2 := q4
  have ec : f_Orders_clear (wI (wI h 254 2 (iI 0)) 254 3 (iI (nth (ks ts ++ [57]) 0 : Int))) 261 = some (wI (wI (wI h 254 2 (iI 0)) 254 3 (iI (nth (ks ts ++ [57]) 0 : Int))) 261 2 (iI 0)) := by
    unfold f_Orders_clear
    rw [gd_P w6, nI_L, lq_E]
  have ek' : f_Tokens_kindOf_I (wI h 254 2 (iI 0)) 255 (iI 0) = some (wI h 254 2 (iI 0), iI (nth (ks ts ++ [57]) 0 : Int)) := ek
  have e0 : f_Grammar_readsList_l29 FU (wI (wI (wI h 254 2 (iI 0)) 254 3 (iI (nth (ks ts ++ [57]) 0 : Int))) 261 2 (iI 0)) 254 (iI 0) = some (h', iI 1) := by
    rw [hN']
    refine Eq.trans e ?_
    show f_Grammar_readsList_b29 (f_Grammar_readsList_l29 N) h' 254 (iI ((0 + c : Nat) : Int)) = _
    have k57 : hI h' 254 3 = nI 57 := g1.cu
    unfold f_Grammar_readsList_b29
    rw [if_neg (by rw [nI_L, iI_lt (by omega) (by omega) (by omega) (by omega)]; omega), gd_P g1.t, k57, if_neg (by decide)]
    rfl
  unfold f_Grammar_readsList
  rw [gd_P q1, show nI 0 = iI 0 from rfl, lq_E, gd_P w1, w2, gd_P w3, hI_we, bn_C ek', gd_P w1, lq_E, gd_P w4, w5, gd_P w6, ec, bv_S]
  exact e0

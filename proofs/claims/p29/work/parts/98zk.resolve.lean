/-! 98zk L3: the draft resolved and copied -/
-- the draft as steps: each kind with the number at its token
def dst (h : AH) (ds : List (Nat × Nat)) : List (Int32 × Int32) := ds.map fun d => (nI d.1, hI h 259 d.2)
def SkD (h : AH) : Prop := hT h 261 = 2 ∧ hR h 261 0 = 262 ∧ hR h 261 1 = 263 ∧ hT h 262 = 101 ∧ hT h 263 = 101 ∧ hL h 262 = 400 ∧ hL h 263 = 400
theorem resolve_l {h0 : AH} {ds : List (Nat × Nat)} (hl : ds.length ≤ 400) (hp : ∀ (i : Nat) (d : Nat × Nat), ds[i]? = some d → d.2 < 401) : ∀ (j : Nat) {h : AH} {i N : Nat}, j + i = ds.length → SkD h → SkT h → hI h 261 2 = iI (ds.length : Int) → (∀ s, hI h 259 s = hI h0 259 s) → (∀ (q : Nat) (d : Nat × Nat), ds[q]? = some d → i ≤ q → hI h 263 q = iI (d.2 : Int)) → (∀ (q : Nat) (d : Nat × Nat), ds[q]? = some d → q < i → hI h 263 q = hI h0 259 d.2) →
    ∃ F, f_Orders_resolve_l2 (j + 1 + N) h 261 255 (iI (i : Int)) = some (sI h F) ∧ (∀ (q : Nat) (d : Nat × Nat), ds[q]? = some d → F 263 q = hI h0 259 d.2) ∧ ∀ c s, c ≠ 263 → F c s = hI h c s := by
  intro j
  induction j with
  | zero =>
    intro h i N hj S T e2 e9 eA eB
    obtain rfl : i = ds.length := by omega
    obtain ⟨s1, s2, s3, s4, s5, s6, s7⟩ := S
    refine ⟨hI h, ?_, fun q d hd => eB q d hd ?_, fun _ _ _ => rfl⟩
    · rw [show 0 + 1 + N = N + 1 by omega]
      show f_Orders_resolve_b2 (f_Orders_resolve_l2 N) h 261 255 (iI (ds.length : Int)) = _
      unfold f_Orders_resolve_b2
      rw [gd_P s1, e2, if_pos (by rw [iI_le (by omega) (by omega) (by omega) (by omega)]; omega), sI_id]
    · rcases Nat.lt_or_ge q ds.length with c | c
      · exact c
      · rw [List.getElem?_eq_none c] at hd; cases hd
  | succ j ih =>
    intro h i N hj S T e2 e9 eA eB
    have hi : i < ds.length := by omega
    obtain ⟨d, hd⟩ : ∃ d, ds[i]? = some d := ⟨ds[i], List.getElem?_eq_getElem hi⟩
    have hd4 := hp i d hd
    have ev := eA i d hd (Nat.le_refl _)
    have ei : iI (i : Int) + nI 1 = iI ((i + 1 : Nat) : Int) := by rw [nI_L, iI_add]; rfl
    obtain ⟨F, e, f1, f2⟩ := ih (h := wI h 263 i (hI h0 259 d.2)) (i := i + 1) (N := N) (by omega) S T (by rw [hI_wn _ _ _ _ _ _ (by omega)]; exact e2) (fun s => by rw [hI_wn _ _ _ _ _ _ (by omega)]; exact e9 s) (fun q d' hq c => by rw [hI_wn _ _ _ _ _ _ (by omega)]; exact eA q d' hq (by omega)) (fun q d' hq c => by
      by_cases ce : q = i
      · subst ce
        rw [hd] at hq
        obtain rfl := Option.some.inj hq
        exact hI_we _ _ _ _
      · rw [hI_wn _ _ _ _ _ _ (by omega)]; exact eB q d' hq (by omega))
    refine ⟨F, ?_, f1, fun c s n => by rw [f2 c s n, hI_wn _ _ _ _ _ _ (by omega)]⟩
    obtain ⟨s1, s2, s3, s4, s5, s6, s7⟩ := S
    have inb4 : inb (iI (i : Int)) 400 := inb_i (by omega) (by omega)
    rw [show j + 1 + 1 + N = (j + 1 + N) + 1 by omega]
    show f_Orders_resolve_b2 (f_Orders_resolve_l2 (j + 1 + N)) h 261 255 (iI (i : Int)) = _
    unfold f_Orders_resolve_b2
    rw [gd_P s1, e2, if_neg (by rw [iI_le (by omega) (by omega) (by omega) (by omega)]; omega), s3, gd_P s5, s7, if_neg (by rw [nI_L, iI_le (by omega) (by omega) (by omega) (by omega)]; omega), gd_P ⟨s5, inb4⟩, gd_P T.1.1, ix_i (by omega), ev, bn_C (numberOf_T T hd4), s7, gd_P ⟨s5, inb4⟩, e9, ei, lq_E, lq_E]
    exact e
theorem resolve_E {h : AH} {ds : List (Nat × Nat)} (hl : ds.length ≤ 400) (hp : ∀ (i : Nat) (d : Nat × Nat), ds[i]? = some d → d.2 < 401) (S : SkD h) (T : SkT h) (D : Dr ds h) : ∃ F, f_Orders_resolve h 261 255 = some (sI h F) ∧ (∀ (q : Nat) (d : Nat × Nat), ds[q]? = some d → F 263 q = hI h 259 d.2) ∧ ∀ c s, c ≠ 263 → F c s = hI h c s := by
  obtain ⟨N, hN'⟩ : ∃ N, FU = ds.length + 1 + N := ⟨FU - (ds.length + 1), by unfold FU; omega⟩
  have q := resolve_l (h0 := h) hl hp ds.length (h := h) (i := 0) (N := N) (by omega) S T D.1 (fun _ => rfl) (fun q d hq _ => (D.2 q d hq).2) (fun q d _ c => absurd c (Nat.not_lt_zero _))
  unfold f_Orders_resolve
  rw [hN', nI_L]
  exact q
-- 261 copied to 202
theorem copyO_l {h0 : AH} {ds : Nat} (hl : ds ≤ 400) : ∀ (j : Nat) {h : AH} {i N : Nat}, j + i = ds → SkD h → SkO h → hI h 202 2 = iI (ds : Int) → (∀ c s, c = 262 ∨ c = 263 → hI h c s = hI h0 c s) → (∀ q, q < i → hI h 203 q = hI h0 262 q ∧ hI h 204 q = hI h0 263 q) →
    ∃ F, f_Orders_copyFrom_l10 (j + 1 + N) h 202 261 (iI (i : Int)) = some (sI h F) ∧ (∀ q, q < ds → F 203 q = hI h0 262 q ∧ F 204 q = hI h0 263 q) ∧ ∀ c s, c ≠ 203 → c ≠ 204 → F c s = hI h c s := by
  intro j
  induction j with
  | zero =>
    intro h i N hj S O e2 eA eB
    obtain rfl : i = ds := by omega
    refine ⟨hI h, ?_, eB, fun _ _ _ _ => rfl⟩
    rw [show 0 + 1 + N = N + 1 by omega]
    show f_Orders_copyFrom_b10 (f_Orders_copyFrom_l10 N) h 202 261 (iI (i : Int)) = _
    unfold f_Orders_copyFrom_b10
    rw [gd_P O.t, e2, if_pos (by rw [iI_le (by omega) (by omega) (by omega) (by omega)]; omega), sI_id]
  | succ j ih =>
    intro h i N hj S O e2 eA eB
    have ei : iI (i : Int) + nI 1 = iI ((i + 1 : Nat) : Int) := by rw [nI_L, iI_add]; rfl
    obtain ⟨h1, eh1⟩ : ∃ h1, h1 = wI h 203 i (hI h 262 i) := ⟨_, rfl⟩
    have t1 : hT h1 = hT h := by rw [eh1, hT_wi]
    have r1 : hR h1 = hR h := by rw [eh1, hR_wi]
    have l1 : hL h1 = hL h := by rw [eh1]; rfl
    obtain ⟨h2, eh2⟩ : ∃ h2, h2 = wI h1 204 i (hI h1 263 i) := ⟨_, rfl⟩
    have t2 : hT h2 = hT h := by rw [eh2, hT_wi, t1]
    have r2 : hR h2 = hR h := by rw [eh2, hR_wi, r1]
    have l2 : hL h2 = hL h := by rw [eh2]; exact l1
    have oth : ∀ c s, c ≠ 203 → c ≠ 204 → hI h2 c s = hI h c s := fun c s a b => by rw [eh2, hI_wn _ _ _ _ _ _ (by omega), eh1, hI_wn _ _ _ _ _ _ (by omega)]
    obtain ⟨F, e, f1, f2⟩ := ih (h := h2) (i := i + 1) (N := N) (by omega) (by unfold SkD; rw [t2, r2, l2]; exact S) (by unfold SkO; rw [t2, r2, l2]; exact O) (by rw [oth _ _ (by omega) (by omega)]; exact e2) (fun c s a => by rw [oth _ _ (by omega) (by omega)]; exact eA c s a) (fun q c => by
      by_cases ce : q = i
      · subst ce
        refine ⟨?_, ?_⟩
        · rw [eh2, hI_wn _ _ _ _ _ _ (by omega), eh1, hI_we]; exact eA _ _ (by omega)
        · rw [eh2, hI_we, eh1, hI_wn _ _ _ _ _ _ (by omega)]; exact eA _ _ (by omega)
      · obtain ⟨b1, b2⟩ := eB q (by omega)
        refine ⟨?_, ?_⟩
        · rw [eh2, hI_wn _ _ _ _ _ _ (by omega), eh1, hI_wn _ _ _ _ _ _ (by omega)]; exact b1
        · rw [eh2, hI_wn _ _ _ _ _ _ (by omega), eh1, hI_wn _ _ _ _ _ _ (by omega)]; exact b2)
    refine ⟨F, ?_, f1, fun c s a b => by rw [f2 c s a b, oth c s a b]⟩
    obtain ⟨s1, s2, s3, s4, s5, s6, s7⟩ := S
    obtain ⟨o1, o2, o3, o4, o5, o6, o7, o8, o9, o10⟩ := O
    have inb4 : inb (iI (i : Int)) 400 := inb_i (by omega) (by omega)
    have nn : ¬ nI 400 ≤ iI (i : Int) := by rw [nI_L, iI_le (by omega) (by omega) (by omega) (by omega)]; omega
    rw [show j + 1 + 1 + N = (j + 1 + N) + 1 by omega]
    show f_Orders_copyFrom_b10 (f_Orders_copyFrom_l10 (j + 1 + N)) h 202 261 (iI (i : Int)) = _
    unfold f_Orders_copyFrom_b10
    rw [gd_P o1, e2, if_neg (by rw [iI_le (by omega) (by omega) (by omega) (by omega)]; omega), o2, gd_P o5, o6, if_neg nn, o3, gd_P o7, o8, if_neg nn, gd_P s1, s2, s6, gd_P ⟨s4, inb4⟩, gd_P ⟨o5, inb4⟩, ix_i (by omega), lq_E, ← eh1, t1, r1, l1, gd_P o1, gd_P s1, s3, s7, gd_P ⟨s5, inb4⟩, o3, o8, gd_P ⟨o7, inb4⟩, lq_E, ← eh2, ei, lq_E, show sI h F = sI h2 F by rw [eh2, eh1]; rfl]
    exact e

/-! 98zze THE START, V: all that the small machine wants -/
theorem nw_in : NWs.all (fun w => w.onTables && decide (w ∈ tables_1)) = true := by decide +kernel
theorem aov_w {args : Array Value} {s : State} {t : FieldType} (h : (Jvm.Cond.arrayOver t).before args s = true) : AOw t s := by
  unfold AOw
  simp only [Cond.before, Cond.holds, Cond.value] at h ⊢
  exact h
theorem okS_get {i : Nat} (hi : i < 57) : ∃ (q : Nat × String × Nat × String) (y : Nat × List Nat) (st ex : Nat), SKs[i]? = some q ∧ SKL[i]? = some y ∧ q.1 = 10 + 2 * i ∧ y.1 = 10 + 2 * i ∧ y.2.length < 1000 ∧ segOK st (strW (sTm q) y.2) = true ∧ decide (FL[ex]? = some (Jvm.Cond.exactly (sVl (sTm q)) "[B")) = true ∧ Jvm.Cond.stringRef q.2.1 q.2.2.1 q.2.2.2 ∈ tables_1 := by
  have o := okS_all hi
  unfold okS at o
  split at o
  · rename_i q y st ex e1 e2 e3 e4
    simp only [Bool.and_eq_true] at o
    obtain ⟨⟨⟨⟨⟨o1, o2⟩, o3⟩, o4⟩, o5⟩, o6⟩ := o
    exact ⟨q, y, st, ex, e1, e2, of_decide_eq_true o1, of_decide_eq_true o2, of_decide_eq_true o3, o4, o5, of_decide_eq_true o6⟩
  · cases o
theorem SKs_len : SKs.length = 57 := by decide +kernel
theorem SKL_len : SKL.length = 57 := by decide +kernel
section
variable {args : Array Value} {s : State}
theorem strs_all (hf : heapFits s = true) (hF : ∀ c ∈ FL, c.before args s = true) {d dS : ClassId} {iS : Nat → Nat} (hd : s.vm.findClass "[B" = some d) (hK : u_Kn s "java/lang/String" qT15 2 dS iS) : ∃ ad : Nat → Nat × Nat, ∀ i q y, SKs[i]? = some q → SKL[i]? = some y → (sTm q).eval args s none [] s = some (.ref (ad i).1) ∧ SC s dS (iS 0) (iS 1) (ad i).1 (ad i).2 ∧ BC s d (ad i).2 y.2 := by
  have h : ∀ i : Nat, ∃ z : Nat × Nat, ∀ q y, SKs[i]? = some q → SKL[i]? = some y → (sTm q).eval args s none [] s = some (.ref z.1) ∧ SC s dS (iS 0) (iS 1) z.1 z.2 ∧ BC s d z.2 y.2 := by
    intro i
    by_cases hi : i < 57
    · obtain ⟨q, y, st, ex, e1, e2, -, -, hl, o4, o5, -⟩ := okS_get hi
      have hw := seg_w hF o4
      obtain ⟨tt, t1, t2⟩ := bc_of hf (fun c hc => hw c (List.mem_cons_of_mem _ (List.mem_cons_of_mem _ hc))) (get_w hF o5) hd hl
      obtain ⟨a, a1, a2⟩ := sc_of hw t1 hK
      refine ⟨(a, tt), fun q' y' h1 h2 => ?_⟩
      cases e1.symm.trans h1
      cases e2.symm.trans h2
      exact ⟨a1, a2, t2⟩
    · refine ⟨(0, 0), fun q y h1 _ => ?_⟩
      rw [List.getElem?_eq_none_iff.mpr (show SKs.length ≤ i by rw [SKs_len]; omega)] at h1
      cases h1
  exact Classical.axiomOfChoice h
end
def bpF (tO tT : Nat) (ad : Nat → Nat × Nat) (a : Nat) : Nat := if a = 3 then tO else if a = 4 then tT else (ad ((a - 11) / 2)).2
def spF (ad : Nat → Nat × Nat) (a : Nat) : Nat := (ad ((a - 10) / 2)).1
theorem start_all {p : Program} {s : State} {m : MethodId} {meth : Method} {c : Code} {b L : Nat} {xs : Nat → Int32} (C0 : lw_At p s m meth c b L xs) (hf : heapFits s = true) (hL : L ≤ 260) : ∃ (g : Nat → Value) (dC : Nat → ClassId) (dI : Nat → Nat → Nat) (dA : Nat → ClassId) (h0 : AH), gok s.heap.size g ∧ KF s.heap.size g dC dI dA s.heap s ∧ HR s.heap.size g dC dI dA s.heap h0 s.heap ∧ hN h0 = 200 ∧ hU h0 = 0 ∧ St h0 ∧ Scr 1 h0 ∧ g 1 = .ref b ∧ ∀ w ∈ TWg, w.before #[Value.ref b] s = true := by
  obtain ⟨-, -, -, -, -, hts, hX, hbl, -, hgv⟩ := C0
  have tb := tb_words hts
  have TW' := TWg_words hts
  have hF := lw_FL hgv
  obtain ⟨dC, dI, hK⟩ := kn_all TW'
  have hKs : u_Kn s "java/lang/String" qT15 2 (dC 14) (dI 14) := hK 14 _ rfl
  obtain ⟨dB, kB, compB, -, -, hdB⟩ := af_c tb (t := .byte) (by decide)
  have hdB' : s.vm.findClass "[B" = some dB := hdB
  obtain ⟨ad, had⟩ := strs_all hf hF hdB' hKs
  have oO := okO
  have oT := okT
  have oZ := okZ
  rw [Bool.and_eq_true] at oO oT oZ
  obtain ⟨tO, tO1, tO2⟩ := bc_of hf (seg_w hF oO.1) (get_w hF oO.2) hdB' (by rw [dg_len.1]; decide)
  obtain ⟨tT, tT1, tT2⟩ := bc_of hf (seg_w hF oT.1) (get_w hF oT.2) hdB' (by rw [dg_len.2]; decide)
  obtain ⟨tG, tG1, tG2⟩ := gc_of (ad := fun k => (ad k).1) (seg_w hF okG) (had 53 _ _ rfl rfl).1 (had 54 _ _ rfl rfl).1 (had 55 _ _ rfl rfl).1 (had 56 _ _ rfl rfl).1
  obtain ⟨v5, v51, v52⟩ := isR_of (get_w hF oZ.2)
  have z1 := va_eqi (get_w hF oZ.1)
  obtain ⟨cG, g1, g2, g3, g4, g5⟩ := tG2
  obtain ⟨cS, x1, ⟨xn, kS, xk, compS, xkind⟩, x3, x4, x5⟩ := hX
  obtain ⟨dA, hA, dA10, dA11⟩ := af_all tb (dG := cG.cls) (dS := cS.cls) g4 ⟨kS, compS, xk, xkind⟩
  obtain ⟨-, -, -, -, a3, -⟩ := hA 1 .byte rfl
  have dA1 : dB = dA 1 := Option.some.inj (hdB.symm.trans (a3 (by decide)))
  rw [dA1] at tO2 tT2
  have had' : ∀ i q y, SKs[i]? = some q → SKL[i]? = some y → (sTm q).eval #[Value.ref b] s none [] s = some (.ref (ad i).1) ∧ SC s (dC 14) (dI 14 0) (dI 14 1) (ad i).1 (ad i).2 ∧ BC s (dA 1) (ad i).2 y.2 := fun i q y h1 h2 => by
    rw [← dA1]
    exact had i q y h1 h2
  have b3 : bpF tO tT ad 3 = tO := rfl
  have b4 : bpF tO tT ad 4 = tT := rfl
  have bB : ∀ i, bpF tO tT ad (11 + 2 * i) = (ad i).2 := fun i => by
    unfold bpF
    rw [if_neg (by omega), if_neg (by omega), show (11 + 2 * i - 11) / 2 = i by omega]
  have sS : ∀ i, spF ad (10 + 2 * i) = (ad i).1 := fun i => by
    unfold spF
    rw [show (10 + 2 * i - 10) / 2 = i by omega]
  have hHR : HR s.heap.size (gSt s.heap.size b tG v5 (bpF tO tT ad) (spF ad)) dC dI dA s.heap (hSt s L xs (bpF tO tT ad)) s.heap := by
    refine HR_start rfl ⟨cS, x1, ⟨xn, kS, xk, compS, xkind⟩, x3, x4, x5⟩ (fun cell hc => ?_) (fun cell hc => ?_) ⟨cG, g1, g2, g3, g4, g5.1, g5.2.1, fun j hj => ?_⟩ (fun a ha => ?_) (fun a ha => ?_)
    · cases x1.symm.trans hc
      exact dA11.symm
    · cases g1.symm.trans hc
      exact dA10.symm
    · show cG.slots[j]? = some (Value.ref (spF ad (10 + 2 * (53 + j))))
      rw [sS]
      exact g5.2.2 j hj
    · rcases ha with rfl | rfl | ⟨h1, h2, h3⟩
      · exact ⟨dgO, by rw [b3]; exact tO2⟩
      · exact ⟨dgT, by rw [b4]; exact tT2⟩
      · obtain ⟨i, rfl⟩ : ∃ i, a = 11 + 2 * i := ⟨(a - 11) / 2, by omega⟩
        obtain ⟨q, y, st, ex, e1, e2, -⟩ := okS_get (i := i) (by omega)
        exact ⟨y.2, by rw [bB]; exact (had' i q y e1 e2).2.2⟩
    · obtain ⟨h1, h2, h3⟩ := ha
      obtain ⟨i, rfl⟩ : ∃ i, a = 10 + 2 * i := ⟨(a - 10) / 2, by omega⟩
      obtain ⟨q, y, st, ex, e1, e2, -⟩ := okS_get (i := i) (by omega)
      rw [sS, show 10 + 2 * i + 1 = 11 + 2 * i by omega, bB]
      exact (had' i q y e1 e2).2.1
  have hKF : KF s.heap.size (gSt s.heap.size b tG v5 (bpF tO tT ad) (spF ad)) dC dI dA s.heap s := by
    refine ⟨hK, hA, fun q hq => ?_, fun q hq => ?_, fun w hw => ?_, fun t ht => aov_w (tb _ (of_decide_eq_true (List.all_eq_true.mp aov_in t ht)))⟩
    · obtain ⟨i, hi⟩ := List.getElem?_of_mem hq
      have hi2 : i < 57 := by
        have := (List.getElem?_eq_some_iff.mp hi).1
        rw [SKs_len] at this
        exact this
      obtain ⟨q', y, st, ex, e1, e2, r1, -, -, -, -, r6⟩ := okS_get hi2
      cases hi.symm.trans e1
      refine ⟨(ad i).1, ?_, vk_R.of (tb _ r6) (had' i q y hi e2).1⟩
      rw [r1, g_S (by unfold isS; omega), sS]
    · unfold STs at hq
      simp only [List.mem_cons, List.not_mem_nil, or_false] at hq
      rcases hq with rfl | rfl | rfl | rfl | rfl
      · exact ⟨.ref 2, rfl, st_Z tb (by decide) tG1⟩
      · exact ⟨.ref 3, rfl, st_Z tb (by decide) tO1⟩
      · exact ⟨.ref 4, rfl, st_Z tb (by decide) tT1⟩
      · exact ⟨.ref 5, rfl, st_Z tb (by decide) v51⟩
      · exact ⟨.int (nI 1), rfl, st_Z tb (by decide) z1⟩
    · have q := List.all_eq_true.mp nw_in w hw
      rw [Bool.and_eq_true] at q
      exact va_Nw.of q.1 (tb _ (of_decide_eq_true q.2))
  refine ⟨_, dC, dI, dA, _, g_ok v52, hKF, hHR, rfl, rfl, St_start (d := dA 1) tO2 tT2 (fun i q hq => ?_), ⟨rfl, by show L ≤ 100000; omega⟩, rfl, TW'⟩
  have hi2 : i < 57 := by
    have := (List.getElem?_eq_some_iff.mp hq).1
    rw [SKL_len] at this
    exact this
  obtain ⟨q', y, st, ex, e1, e2, -, r2, -⟩ := okS_get hi2
  cases hq.symm.trans e2
  refine ⟨r2, hi2, ?_⟩
  rw [bB]
  exact (had' i q' q e1 hq).2.2

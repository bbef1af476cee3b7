/-! 98p L3: all tokens -/
def okTs : List Tok → Prop
  | [] => True
  | t :: ts => okt t.1 t.2.1 ∧ (∀ w ∈ t.2.2, w = 32 ∨ w = 10) ∧ adj t.1 (nth (t.2.2 ++ fl ts) 0) ∧ okTs ts
theorem hd54 : ((List.range 54).all fun j => decide (nth ((KWL[j + 1]?).getD []) 0 ≠ 32 ∧ nth ((KWL[j + 1]?).getD []) 0 ≠ 10 ∧ (40 ≤ j + 1 → ¬ (97 ≤ nth ((KWL[j + 1]?).getD []) 0 ∧ nth ((KWL[j + 1]?).getD []) 0 ≤ 122) ∧ ¬ (48 ≤ nth ((KWL[j + 1]?).getD []) 0 ∧ nth ((KWL[j + 1]?).getD []) 0 ≤ 57)) ∧ (j + 1 ≠ 52 → nth ((KWL[j + 1]?).getD []) 0 ≠ 61) ∧ 1 ≤ ((KWL[j + 1]?).getD []).length) && ((KWL[j + 1]?).getD []).all fun c => decide (c < 128)) = true := by decide +kernel
theorem hd_ok {k v : Nat} (o : okt k v) : nth (tkb k v) 0 ≠ 32 ∧ nth (tkb k v) 0 ≠ 10 ∧ (40 ≤ k ∧ k ≤ 54 → ¬ aln (nth (tkb k v) 0)) ∧ (k ≠ 52 → nth (tkb k v) 0 ≠ 61) ∧ 1 ≤ (tkb k v).length ∧ ∀ c ∈ tkb k v, c < 128 := by
  rcases o with o | ⟨rfl, o1, o2⟩ | ⟨rfl, o1⟩
  · have q := List.all_eq_true.mp hd54 (k - 1) (List.mem_range.mpr (by omega))
    rw [show k - 1 + 1 = k by omega, Bool.and_eq_true] at q
    obtain ⟨q1, q2, q3, q4, q5⟩ := of_decide_eq_true q.1
    rw [tkb_k o.2]
    refine ⟨q1, q2, fun r => ?_, q4, q5, fun c hc => of_decide_eq_true (List.all_eq_true.mp q.2 c hc)⟩
    have := q3 r.1
    unfold aln
    omega
  · rw [show tkb 55 v = [v / 16, 48 + v % 16] from rfl]
    refine ⟨?_, ?_, fun r => by omega, fun _ => ?_, ?_, fun c hc => ?_⟩
    · show v / 16 ≠ 32; omega
    · show v / 16 ≠ 10; omega
    · show v / 16 ≠ 61; omega
    · show 1 ≤ 2; omega
    · rw [List.mem_cons, List.mem_singleton] at hc; omega
  · rw [show tkb 56 v = dig v from rfl]
    obtain ⟨d1, d2⟩ := dig_b o1
    obtain ⟨d3, d4⟩ := dig_len (n := v)
    generalize dig v = w at *
    obtain ⟨c, l, rfl⟩ := cons_of d3
    obtain ⟨c1, c2⟩ := d1 c (List.mem_cons_self ..)
    refine ⟨?_, ?_, fun r => by omega, fun _ => ?_, d3, fun x hx => ?_⟩
    · show c ≠ 32; omega
    · show c ≠ 10; omega
    · show c ≠ 61; omega
    · have := d1 x hx; omega
theorem fl_hd {t : Tok} {ts : List Tok} (o : okt t.1 t.2.1) : nth (fl (t :: ts)) 0 = nth (tkb t.1 t.2.1) 0 := nth_l (hd_ok o).2.2.2.2.1
theorem fl_128 : ∀ {ts : List Tok}, okTs ts → ∀ c ∈ fl ts, c < 128 := by
  intro ts
  induction ts with
  | nil => intro _ c hc; exact absurd hc (by intro q; cases q)
  | cons t ts ih =>
    intro o c hc
    obtain ⟨o1, o2, o3, o4⟩ := o
    rw [show fl (t :: ts) = tkb t.1 t.2.1 ++ (t.2.2 ++ fl ts) from rfl, List.mem_append, List.mem_append] at hc
    rcases hc with hc | hc | hc
    · exact (hd_ok o1).2.2.2.2.2 c hc
    · have := o2 c hc; omega
    · exact ih o4 c hc
theorem nth_128 : ∀ {l : List Nat}, (∀ c ∈ l, c < 128) → ∀ i, nth l i < 128 := by
  intro l
  induction l with
  | nil => intro _ i; show 0 < 128; omega
  | cons a l ih =>
    intro h i
    cases i with
    | zero => exact h a (List.mem_cons_self ..)
    | succ i => exact ih (fun c hc => h c (List.mem_cons_of_mem _ hc)) i
def sfe (t : Tok) : Bool := !t.2.2.isEmpty || ((decide (40 ≤ t.1) && decide (t.1 ≤ 49)) || (decide (52 ≤ t.1) && decide (t.1 ≤ 54)))
def nxt (k u : Nat) : Bool := if k ≤ 39 ∨ 55 ≤ k then decide (40 ≤ u) && decide (u ≤ 54) else decide (u ≠ 52)
def blk (l : List Nat) : Bool := l.all fun w => w == 32 || w == 10
def shp : List Tok → Bool
  | [] => true
  | t :: ts => blk t.2.2 && (sfe t || (match ts with | [] => false | u :: _ => nxt t.1 u.1)) && shp ts
theorem shp_ok : ∀ {ts : List Tok}, shp ts = true → (∀ t ∈ ts, okt t.1 t.2.1) → okTs ts := by
  intro ts
  induction ts with
  | nil => intro _ _; trivial
  | cons t ts ih =>
    intro s o
    unfold shp at s
    rw [Bool.and_eq_true, Bool.and_eq_true, Bool.or_eq_true] at s
    obtain ⟨⟨s1, s2⟩, s3⟩ := s
    have ot := o t (List.mem_cons_self ..)
    have bw : ∀ w ∈ t.2.2, w = 32 ∨ w = 10 := fun w hw => by
      have := List.all_eq_true.mp s1 w hw
      rw [Bool.or_eq_true] at this
      rcases this with q | q
      · exact Or.inl (eq_of_beq q)
      · exact Or.inr (eq_of_beq q)
    refine ⟨ot, bw, ?_, ih s3 fun t ht => o t (List.mem_cons_of_mem _ ht)⟩
    obtain ⟨k, v, bs⟩ := t
    cases bs with
    | cons w ws =>
      have hw := bw w (List.mem_cons_self ..)
      have e : nth ((w :: ws) ++ fl ts) 0 = w := rfl
      show adj k (nth ((w :: ws) ++ fl ts) 0)
      rw [e]
      unfold adj aln
      omega
    | nil =>
      show adj k (nth (fl ts) 0)
      rcases s2 with s2 | s2
      · unfold sfe at s2
        rw [Bool.or_eq_true, Bool.or_eq_true, Bool.and_eq_true, Bool.and_eq_true] at s2
        rcases s2 with q | ⟨q1, q2⟩ | ⟨q1, q2⟩
        · exact absurd (show false = true from q) (by decide)
        · have r1 := of_decide_eq_true q1
          have r2 := of_decide_eq_true q2
          have r1' : 40 ≤ k := r1
          have r2' : k ≤ 49 := r2
          exact ⟨fun q => by omega, fun q => by omega⟩
        · have r1' : 52 ≤ k := of_decide_eq_true q1
          have r2' : k ≤ 54 := of_decide_eq_true q2
          exact ⟨fun q => by omega, fun q => by omega⟩
      · cases ts with
        | nil => exact absurd (show false = true from s2) (by decide)
        | cons u us =>
          have ou := o u (List.mem_cons_of_mem _ (List.mem_cons_self ..))
          obtain ⟨h1, h2, h3, h4, h5, h6⟩ := hd_ok ou
          rw [fl_hd ou]
          have s2' : nxt k u.1 = true := s2
          unfold nxt at s2'
          split at s2'
          · rename_i ck
            rw [Bool.and_eq_true] at s2'
            have r1 := of_decide_eq_true s2'.1
            have r2 := of_decide_eq_true s2'.2
            exact ⟨fun _ => h3 ⟨r1, r2⟩, fun q => by omega⟩
          · rename_i ck
            have r1 := of_decide_eq_true s2'
            exact ⟨fun q => by omega, fun _ => h4 r1⟩
theorem hI_we (h : AH) (a k : Nat) (v : Int32) : hI (wI h a k v) a k = v := up2_e _ _ _ _
theorem hI_wn (h : AH) (a k : Nat) (v : Int32) (b j : Nat) (n : ¬ (b = a ∧ j = k)) : hI (wI h a k v) b j = hI h b j := up2_n _ _ _ _ _ _ n
theorem St.fk {i : Nat} {h h' : AH} (st : St h) (k : Fk i h h') : St h' := st.z fun a ha => ⟨congrFun k.1.2.2.1 a, congrFun k.1.2.2.2.1 a, by funext s; exact k.2.1 a s (by omega) (by omega), congrFun k.1.2.2.2.2 a⟩
theorem split_l {cs : List Nat} : ∀ (ts : List Tok) {h : AH} {ws : List Nat} {p j N : Nat}, okTs ts → (∀ w ∈ ws, w = 32 ∨ w = 10) → At cs p (ws ++ fl ts) → j + ts.length ≤ 399 → SkT h → Tp cs h → St h → hI h 255 5 = iI (j : Int) →
    ∃ h', f_Tokens_split_l18 (ts.length + 1 + N) h 255 201 (iI (cs.length : Int)) (iI (p : Int)) (iI (j : Int)) = some h' ∧ Fk j h h' ∧ (∀ (i : Nat) (t : Tok), ts[i]? = some t → Tk1 h' (j + i) t.1 t.2.1) ∧ hI h' 257 (j + ts.length) = iI 57 ∧ hI h' 255 5 = iI ((j + ts.length : Nat) : Int) := by
  intro ts
  induction ts with
  | nil =>
    intro h ws p j N _ hw a hj S T st e5
    have hl := T.2.2.1
    have al := a.le
    rw [List.length_nil, Nat.add_zero] at hj
    have aend := a.skip.1
    rw [show fl [] = [] from rfl, List.length_nil, Nat.add_zero] at aend
    obtain ⟨N', hN'⟩ : ∃ N', FU = ws.length + 1 + N' := ⟨FU - (ws.length + 1), by unfold FU; omega⟩
    have eb : f_Tokens_behindBlanks h 201 (iI (cs.length : Int)) (iI (p : Int)) = some (h, iI ((p + ws.length : Nat) : Int)) := by
      unfold f_Tokens_behindBlanks
      rw [hN']
      exact blanks_E T (r := fl []) ⟨by decide, by decide⟩ ws hw (Nat.le_refl _) a
    have f1 : Fk j h (wI h 258 j (iI ((p + ws.length : Nat) : Int))) := Fk.wi (by omega)
    have S1 := f1.skt S
    have T1 := f1.tp T
    have f2 : Fk j (wI h 258 j (iI ((p + ws.length : Nat) : Int))) (wI (wI h 258 j (iI ((p + ws.length : Nat) : Int))) 257 j (iI 57)) := Fk.wi (by omega)
    have n0 : ¬ iI (j : Int) < 0 := by rw [z_i, iI_lt (by omega) (by omega) (by omega) (by omega)]; omega
    have ixj : (iI (j : Int)).toNatClampNeg = j := iI_ixn (by omega)
    obtain ⟨⟨a1, a2, a3, a4, a5, a6⟩, ⟨b1, b2, b3, b4, b5, b6, b7, b8, b9, b10⟩, c⟩ := S
    have eT : f_Tokens_behindToken (wI h 258 j (iI ((p + ws.length : Nat) : Int))) 255 201 (iI (cs.length : Int)) (iI ((p + ws.length : Nat) : Int)) (iI (j : Int)) = some (wI (wI h 258 j (iI ((p + ws.length : Nat) : Int))) 257 j (iI 57), iI ((p + ws.length : Nat) : Int)) := by
      unfold f_Tokens_behindToken
      rw [bn_C (signAt_E T1 (by omega)), if_neg (by rw [iI_lt (by omega) (by omega) (by omega) (by omega)]; omega), gd_P S1.1.1, nI_L, put_E S1 (by omega), bv_S]
    refine ⟨_, ?_, f1.trans f2, fun i t q => absurd q (by rw [List.getElem?_nil]; intro q; cases q), ?_, ?_⟩
    · rw [List.length_nil, show 0 + 1 + N = N + 1 by omega]
      show f_Tokens_split_b18 (f_Tokens_split_l18 N) h 255 201 (iI (cs.length : Int)) (iI (p : Int)) (iI (j : Int)) = _
      unfold f_Tokens_split_b18
      rw [gd_P a1, a3, gd_P b3, b4, if_neg (by rw [nI_L, iI_le (by omega) (by omega) (by omega) (by omega)]; omega), bn_C eb, gd_P a1, a4, gd_P ⟨b5, n0, by show (iI (j : Int)).toNatClampNeg < hL h 258; rw [ixj, b6]; omega⟩, show ix (iI (j : Int)) = j from ixj, lq_E, if_neg (by rw [nI_L, iI_le (by omega) (by omega) (by omega) (by omega)]; omega), gd_P S1.1.1, bn_C eT]
      unfold f_Tokens_split_b76
      have e1 : hR (wI (wI h 258 j (iI ((p + ws.length : Nat) : Int))) 257 j (iI 57)) 255 1 = 257 := a3
      have e2 : hI (wI (wI h 258 j (iI ((p + ws.length : Nat) : Int))) 257 j (iI 57)) 257 j = iI 57 := up2_e _ _ _ _
      have g1 : hT (wI (wI h 258 j (iI ((p + ws.length : Nat) : Int))) 257 j (iI 57)) 255 = 11 := a1
      have g3 : hT (wI (wI h 258 j (iI ((p + ws.length : Nat) : Int))) 257 j (iI 57)) 257 = 101 := b3
      rw [gd_P g1, e1, gd_P ⟨g3, n0, by show (iI (j : Int)).toNatClampNeg < hL h 257; rw [ixj, b4]; omega⟩, show ix (iI (j : Int)) = j from ixj, e2, if_pos (by decide)]
    · rw [List.length_nil, Nat.add_zero]
      exact hI_we _ _ _ _
    · rw [List.length_nil, Nat.add_zero, ← e5]
      rw [hI_wn _ _ _ _ _ _ (by omega), hI_wn _ _ _ _ _ _ (by omega)]
  | cons t ts ih =>
    intro h ws p j N o hw a hj S T st e5
    obtain ⟨o1, o2, o3, o4⟩ := o
    have hl := T.2.2.1
    have al := a.le
    rw [List.length_cons] at hj
    have aend := a.skip
    rw [show fl (t :: ts) = tkb t.1 t.2.1 ++ (t.2.2 ++ fl ts) from rfl] at aend
    obtain ⟨h1, h2, h3, h4, h5, h6⟩ := hd_ok o1
    obtain ⟨N', hN'⟩ : ∃ N', FU = ws.length + 1 + N' := ⟨FU - (ws.length + 1), by unfold FU; have := a.skip.le; omega⟩
    have eb : f_Tokens_behindBlanks h 201 (iI (cs.length : Int)) (iI (p : Int)) = some (h, iI ((p + ws.length : Nat) : Int)) := by
      unfold f_Tokens_behindBlanks
      rw [hN']
      exact blanks_E T (r := fl (t :: ts)) (by rw [fl_hd o1]; exact ⟨h1, h2⟩) ws hw (Nat.le_refl _) a
    have f1 : Fk j h (wI h 258 j (iI ((p + ws.length : Nat) : Int))) := Fk.wi (by omega)
    have S1 := f1.skt S
    have T1 := f1.tp T
    have n0 : ¬ iI (j : Int) < 0 := by rw [z_i, iI_lt (by omega) (by omega) (by omega) (by omega)]; omega
    have ixj : (iI (j : Int)).toNatClampNeg = j := iI_ixn (by omega)
    have st1 : St (wI h 258 j (iI ((p + ws.length : Nat) : Int))) := st.fk f1
    obtain ⟨h', eT, fT, kT⟩ := tok_E T1 S1 st1 o1 o3 (i := j) (by omega) aend
    have S2 := fT.skt S1
    have T2 := fT.tp T1
    have st2 := st1.fk fT
    have ep : iI (j : Int) + nI 1 = iI ((j + 1 : Nat) : Int) := by rw [nI_L, iI_add]; rfl
    have f3 : Fk (j + 1) h' (wI h' 255 5 (iI ((j + 1 : Nat) : Int))) := Fk.wi (by omega)
    have S3 := f3.skt S2
    have T3 := f3.tp T2
    have st3 := st2.fk f3
    obtain ⟨h'', eI, fI, kI, eI57, eI5⟩ := ih (h := wI h' 255 5 (iI ((j + 1 : Nat) : Int))) (j := j + 1) (N := N) o4 o2 aend.skip (by omega) S3 T3 st3 (hI_we _ _ _ _)
    refine ⟨h'', ?_, ((f1.trans fT).trans (f3.mono (by omega))).trans (fI.mono (by omega)), fun i u q => ?_, ?_, ?_⟩
    · rw [List.length_cons, show ts.length + 1 + 1 + N = (ts.length + 1 + N) + 1 by omega, ← eI]
      show f_Tokens_split_b18 (f_Tokens_split_l18 (ts.length + 1 + N)) h 255 201 (iI (cs.length : Int)) (iI (p : Int)) (iI (j : Int)) = _
      obtain ⟨⟨a1, a2, a3, a4, a5, a6⟩, ⟨b1, b2, b3, b4, b5, b6, b7, b8, b9, b10⟩, c⟩ := S
      obtain ⟨⟨a1', a2', a3', a4', a5', a6'⟩, ⟨b1', b2', b3', b4', b5', b6', b7', b8', b9', b10'⟩, c'⟩ := S2
      have n57 : ¬ iI (t.1 : Int) = nI 57 := by
        rw [nI_L, iI_eq (by unfold okt at o1; omega) (by unfold okt at o1; omega) (by omega) (by omega)]
        unfold okt at o1
        intro q
        have q' : (t.1 : Int) = 57 := q
        omega
      have n58 : ¬ iI (t.1 : Int) = nI 58 := by
        rw [nI_L, iI_eq (by unfold okt at o1; omega) (by unfold okt at o1; omega) (by omega) (by omega)]
        unfold okt at o1
        intro q
        have q' : (t.1 : Int) = 58 := q
        omega
      unfold f_Tokens_split_b18
      rw [gd_P a1, a3, gd_P b3, b4, if_neg (by rw [nI_L, iI_le (by omega) (by omega) (by omega) (by omega)]; omega), bn_C eb, gd_P a1, a4, gd_P ⟨b5, n0, by show (iI (j : Int)).toNatClampNeg < hL h 258; rw [ixj, b6]; omega⟩, show ix (iI (j : Int)) = j from ixj, lq_E, if_neg (by rw [nI_L, iI_le (by omega) (by omega) (by omega) (by omega)]; omega), gd_P S1.1.1, bn_C eT]
      unfold f_Tokens_split_b76
      rw [gd_P a1', a3', gd_P ⟨b3', n0, by show (iI (j : Int)).toNatClampNeg < hL h' 257; rw [ixj, b4']; omega⟩, show ix (iI (j : Int)) = j from ixj, kT.1, if_neg n57, if_pos n58, ep, lq_E, lq_E]
    · cases i with
      | zero =>
        rw [List.getElem?_cons_zero] at q
        obtain rfl : t = u := Option.some.inj q
        obtain ⟨k1, k2, k3⟩ := kT
        refine ⟨?_, fun r => ?_, fun r => ?_⟩
        · rw [fI.2.1 _ _ (by omega) (by omega)]
          exact (hI_wn _ _ _ _ _ _ (by omega)).trans k1
        · rw [fI.2.1 _ _ (by omega) (by omega)]
          exact (hI_wn _ _ _ _ _ _ (by omega)).trans (k2 r)
        · rw [fI.2.2 _ _ (by omega)]
          exact k3 r
      | succ i =>
        rw [List.getElem?_cons_succ] at q
        have := kI i u q
        rw [show j + 1 + i = j + (i + 1) by omega] at this
        exact this
    · rw [List.length_cons, show j + (ts.length + 1) = j + 1 + ts.length by omega]
      exact eI57
    · rw [List.length_cons, show j + (ts.length + 1) = j + 1 + ts.length by omega]
      exact eI5

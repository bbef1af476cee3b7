/-! 01 THE SMALL MACHINE: a heap of typed rows, one instruction, a run, a call (a relation, by depth). -/
-- a heap: next free place, slots used, tags, lengths, ints, references (0: null), longs
abbrev AH : Type := Nat × Nat × (Nat → Nat) × (Nat → Nat) × (Nat → Nat → Int32) × (Nat → Nat → Nat) × (Nat → Nat → Int64)
def hN (h : AH) : Nat := h.1
def hU (h : AH) : Nat := h.2.1
def hT (h : AH) : Nat → Nat := h.2.2.1
def hL (h : AH) : Nat → Nat := h.2.2.2.1
def hI (h : AH) : Nat → Nat → Int32 := h.2.2.2.2.1
def hR (h : AH) : Nat → Nat → Nat := h.2.2.2.2.2.1
def hJ (h : AH) : Nat → Nat → Int64 := h.2.2.2.2.2.2
def up2 {α : Type} (f : Nat → Nat → α) (a k : Nat) (v : α) : Nat → Nat → α := fun b j => if b = a ∧ j = k then v else f b j
def up1 {α : Type} (f : Nat → α) (a : Nat) (v : α) : Nat → α := fun b => if b = a then v else f b
def wI (h : AH) (a k : Nat) (v : Int32) : AH := (hN h, hU h, hT h, hL h, up2 (hI h) a k v, hR h, hJ h)
def wR (h : AH) (a k : Nat) (v : Nat) : AH := (hN h, hU h, hT h, hL h, hI h, up2 (hR h) a k v, hJ h)
def wJ (h : AH) (a k : Nat) (v : Int64) : AH := (hN h, hU h, hT h, hL h, hI h, hR h, up2 (hJ h) a k v)
-- a new cell of tag t and n slots, all 0
def hA (h : AH) (t n : Nat) : AH := (hN h + 1, hU h + n, up1 (hT h) (hN h) t, up1 (hL h) (hN h) n, up1 (hI h) (hN h) (fun _ => 0), up1 (hR h) (hN h) (fun _ => 0), up1 (hJ h) (hN h) (fun _ => 0))
-- n ints of a from sp on into b from dp on
def wCp (h : AH) (a sp b dp n : Nat) : AH := (hN h, hU h, hT h, hL h, up1 (hI h) b (fun k => if dp ≤ k ∧ k < dp + n then hI h a (sp + (k - dp)) else hI h b k), hR h, hJ h)
-- a copy of the ints of a
def hCl (h : AH) (a : Nat) : AH := (hN h + 1, hU h + hL h a, up1 (hT h) (hN h) (hT h a), up1 (hL h) (hN h) (hL h a), up1 (hI h) (hN h) (hI h a), up1 (hR h) (hN h) (fun _ => 0), up1 (hJ h) (hN h) (fun _ => 0))
-- n rows of length 0 (tag t2) in a new row (tag t1)
def hMA (h : AH) (t1 t2 n : Nat) : AH := (hN h + 1 + n, hU h + n, (fun b => if b = hN h then t1 else if hN h < b ∧ b < hN h + 1 + n then t2 else hT h b), (fun b => if b = hN h then n else if hN h < b ∧ b < hN h + 1 + n then 0 else hL h b),
  (fun b j => if hN h ≤ b ∧ b < hN h + 1 + n then 0 else hI h b j), (fun b j => if b = hN h then hN h + 1 + j else if hN h < b ∧ b < hN h + 1 + n then 0 else hR h b j), (fun b j => if hN h ≤ b ∧ b < hN h + 1 + n then 0 else hJ h b j))
def KK : Nat := 200
abbrev ix (j : Int32) : Nat := j.toNatClampNeg
abbrev inb (j : Int32) (n : Nat) : Prop := ¬ j < 0 ∧ j.toNatClampNeg < n
def gd {α : Type} (p : Prop) [Decidable p] (x : Option α) : Option α := if p then x else none
abbrev Fr : Type := Nat × List Value × List Value × AH
abbrev Act : Type := Fr ⊕ (Nat × List Value × List Value) ⊕ Option Value
def go (pc : Nat) (L st : List Value) (h : AH) : Option Act := some (.inl (pc, L, st, h))
def ldI (L : List Value) (i pc : Nat) (st : List Value) (h : AH) : Option Act := match L[i]? with
  | some (.int x) => go pc L (.int x :: st) h
  | _ => none
def ldR (L : List Value) (i pc : Nat) (st : List Value) (h : AH) : Option Act := match L[i]? with
  | some (.ref x) => go pc L (.ref x :: st) h
  | _ => none
def ldJ (L : List Value) (i pc : Nat) (st : List Value) (h : AH) : Option Act := match L[i]?, L[i + 1]? with
  | some (.long x), some (.retAddr _) => go pc L (.long x :: st) h
  | _, _ => none
def ltL : Nat → List Value → Bool
  | 0, _ :: _ => true
  | n + 1, _ :: l => ltL n l
  | _, [] => false
def leL : Nat → List Value → Bool
  | 0, _ => true
  | n + 1, _ :: l => leL n l
  | _ + 1, [] => false
def stV (L : List Value) (i pc : Nat) (v : Value) (st : List Value) (h : AH) : Option Act := cond (ltL i L) (go pc (L.set i v) st h) none
def stJ (L : List Value) (i pc : Nat) (v : Value) (st : List Value) (h : AH) : Option Act := cond (ltL (i + 1) L) (go pc ((L.set i v).set (i + 1) (.retAddr 0)) st h) none
def cst : List Nat → Option Value
  | [v] => some (.int (nI v))
  | [v, 1] => some (.int (-nI v))
  | _ => none
def psh (v : Option Value) (pc : Nat) (L st : List Value) (h : AH) : Option Act := match v with
  | some v => go pc L (v :: st) h
  | none => none
-- a constant: 0 :: v an int, 1 :: a a place
def kst : List Nat → Option Value
  | 0 :: v :: _ => some (.int (nI v))
  | 1 :: a :: _ => some (.ref a)
  | _ => none
def fv (h : AH) (kd a k : Nat) : Value := match kd with
  | 1 => .ref (hR h a k)
  | 2 => .long (hJ h a k)
  | _ => .int (hI h a k)
def cat1 : Value → Bool
  | .int _ => true
  | .ref _ => true
  | _ => false
def fitN : List Value → Nat → Bool
  | [], _ => true
  | .int _ :: l, n + 1 => fitN l n
  | .ref _ :: l, n + 1 => fitN l n
  | .long _ :: l, n + 2 => fitN l n
  | .double _ :: l, n + 2 => fitN l n
  | _, _ => false
def fit8 (l : List Value) : Bool := fitN l 8
def putF (c k kd pc : Nat) (L : List Value) (v : Value) (a : Nat) (st : List Value) (h : AH) : Option Act := match kd, v with
  | 0, .int x => gd (hT h a = c) (go pc L st (wI h a k x))
  | 3, .int x => gd (hT h a = c ∧ (x = 0 ∨ x = 1)) (go pc L st (wI h a k x))
  | 4, .int x => gd (hT h a = c ∧ KK ≤ a ∧ x.toInt8.toInt32 = x) (go pc L st (wI h a k x))
  | 1, .ref x => gd (hT h a = c) (go pc L st (wR h a k x))
  | 5, .ref x => gd (hT h a = c ∧ KK ≤ a) (go pc L st (wR h a k x))
  | 2, .long x => gd (hT h a = c) (go pc L st (wJ h a k x))
  | _, _ => none
def brI (c : Prop) [Decidable c] (pc len : Nat) (aux : List Nat) (L st : List Value) (h : AH) : Option Act := match aux with
  | t :: _ => if c then go t L st h else go (pc + len) L st h
  | _ => none
def ifC (c : Jvm.ClassFile.Cond) (x : Int32) (pc len : Nat) (aux : List Nat) (L st : List Value) (h : AH) : Option Act := match c with
  | .eq => brI (x = 0) pc len aux L st h
  | .ne => brI (¬ x = 0) pc len aux L st h
  | .lt => brI (x < 0) pc len aux L st h
  | .ge => brI (0 ≤ x) pc len aux L st h
  | .gt => brI (0 < x) pc len aux L st h
  | .le => brI (x ≤ 0) pc len aux L st h
def icC (c : Jvm.ClassFile.Cond) (x y : Int32) (pc len : Nat) (aux : List Nat) (L st : List Value) (h : AH) : Option Act := match c with
  | .eq => brI (x = y) pc len aux L st h
  | .ne => brI (¬ x = y) pc len aux L st h
  | .lt => brI (x < y) pc len aux L st h
  | .ge => brI (y ≤ x) pc len aux L st h
  | .gt => brI (y < x) pc len aux L st h
  | .le => brI (x ≤ y) pc len aux L st h
-- tableswitch: aux = default's target :: targets; the first case is lo
def tsw (lo : Int) (x : Int32) : List Nat → Nat
  | d :: ts => if x.toInt < lo ∨ lo + ts.length ≤ x.toInt then d else ts.getD (x.toInt - lo).toNat d
  | [] => 0
def lsw (ps : List (Int × Int)) (x : Int32) : List Nat → Nat
  | d :: ts => match ps, ts with
    | (k, _) :: ps, t :: ts => if x.toInt = k then t else lsw ps x (d :: ts)
    | _, _ => d
  | [] => 0
abbrev nrm (k : Nat) (x : Int32) : Prop := (k = 3 → x = 0 ∨ x = 1) ∧ (k = 4 → x.toInt8.toInt32 = x) ∧ (k = 5 → x.toUInt32.toUInt16.toUInt32.toInt32 = x)
def call (aux : List Nat) (pc len : Nat) (L st : List Value) (h : AH) : Option Act := match aux, st with
  | 0 :: j :: n :: 0 :: _, st => cond (leL n st && fit8 (st.drop n)) (some (.inr (.inl (j, (st.take n).reverse, st.drop n)))) none
  | 0 :: j :: n :: c :: _, st => match (st.take n).reverse with
    | .ref a :: As => cond (leL n st && fit8 (st.drop n)) (gd (hT h a = c) (some (.inr (.inl (j, .ref a :: As, st.drop n))))) none
    | _ => none
  | 1 :: _ :: c :: _, .ref a :: st => cond (fit8 st) (gd (hT h a = c) (go (pc + len) L st h)) none
  | 2 :: _, .int n :: .int dp :: .ref b :: .int sp :: .ref a :: st => cond (fit8 st) (gd (hT h a = 102 ∧ hT h b = 102 ∧ KK ≤ b ∧ ¬ sp < 0 ∧ ¬ dp < 0 ∧ ¬ n < 0 ∧ ix sp + ix n ≤ hL h a ∧ ix dp + ix n ≤ hL h b) (go (pc + len) L st (wCp h a (ix sp) b (ix dp) (ix n)))) none
  | 3 :: _, .ref a :: st => cond (fit8 st) (gd (hT h a = 102) (go (pc + len) L (.ref (hN h) :: st) (hCl h a))) none
  | _, _ => none
def step1 (ins : Instr) (len : Nat) (aux : List Nat) (pc : Nat) (L st : List Value) (h : AH) : Option Act := match ins with
  | .aload_n k => ldR L k.val (pc + len) st h
  | .aload i => ldR L i (pc + len) st h
  | .iload_n k => ldI L k.val (pc + len) st h
  | .iload i => ldI L i (pc + len) st h
  | .lload_n k => ldJ L k.val (pc + len) st h
  | .lload i => ldJ L i (pc + len) st h
  | .iconst _ => psh (cst aux) (pc + len) L st h
  | .bipush _ => psh (cst aux) (pc + len) L st h
  | .sipush _ => psh (cst aux) (pc + len) L st h
  | .ldc _ => psh (kst aux) (pc + len) L st h
  | .ldc_w _ => psh (kst aux) (pc + len) L st h
  | .getstatic _ => psh (kst aux) (pc + len) L st h
  | .lconst k => go (pc + len) L (.long (Int64.ofNat k.val) :: st) h
  | .dconst k => match k with
    | 0 => go (pc + len) L (.double FP.dconst0 :: st) h
    | _ => none
  | .aconst_null => go (pc + len) L (.ref 0 :: st) h
  | .istore_n k => match st with
    | .int x :: st => stV L k.val (pc + len) (.int x) st h
    | _ => none
  | .istore i => match st with
    | .int x :: st => stV L i (pc + len) (.int x) st h
    | _ => none
  | .astore_n k => match st with
    | .ref x :: st => stV L k.val (pc + len) (.ref x) st h
    | _ => none
  | .astore i => match st with
    | .ref x :: st => stV L i (pc + len) (.ref x) st h
    | _ => none
  | .lstore_n k => match st with
    | .long x :: st => stJ L k.val (pc + len) (.long x) st h
    | _ => none
  | .lstore i => match st with
    | .long x :: st => stJ L i (pc + len) (.long x) st h
    | _ => none
  | .iinc i _ => match L[i]?, cst aux with
    | some (.int x), some (.int n) => stV L i (pc + len) (.int (x + n)) st h
    | _, _ => none
  | .dup => match st with
    | v :: st => cond (cat1 v) (go (pc + len) L (v :: v :: st) h) none
    | _ => none
  | .dup2 => match st with
    | v :: w :: st => cond (cat1 v && cat1 w) (go (pc + len) L (v :: w :: v :: w :: st) h) none
    | _ => none
  | .dup_x1 => match st with
    | v :: w :: st => cond (cat1 v && cat1 w) (go (pc + len) L (v :: w :: v :: st) h) none
    | _ => none
  | .pop => match st with
    | v :: st => cond (cat1 v) (go (pc + len) L st h) none
    | _ => none
  | .iadd => match st with
    | .int y :: .int x :: st => go (pc + len) L (.int (x + y) :: st) h
    | _ => none
  | .isub => match st with
    | .int y :: .int x :: st => go (pc + len) L (.int (x - y) :: st) h
    | _ => none
  | .imul => match st with
    | .int y :: .int x :: st => go (pc + len) L (.int (x * y) :: st) h
    | _ => none
  | .idiv => match st with
    | .int y :: .int x :: st => gd (¬ y = 0) (go (pc + len) L (.int (x / y) :: st) h)
    | _ => none
  | .irem => match st with
    | .int y :: .int x :: st => gd (¬ y = 0) (go (pc + len) L (.int (x - x / y * y) :: st) h)
    | _ => none
  | .ineg => match st with
    | .int x :: st => go (pc + len) L (.int (-x) :: st) h
    | _ => none
  | .iand => match st with
    | .int y :: .int x :: st => go (pc + len) L (.int (x &&& y) :: st) h
    | _ => none
  | .ior => match st with
    | .int y :: .int x :: st => go (pc + len) L (.int (x ||| y) :: st) h
    | _ => none
  | .ixor => match st with
    | .int y :: .int x :: st => go (pc + len) L (.int (x ^^^ y) :: st) h
    | _ => none
  | .ishl => match st with
    | .int y :: .int x :: st => go (pc + len) L (.int (x <<< (y &&& 31)) :: st) h
    | _ => none
  | .ishr => match st with
    | .int y :: .int x :: st => go (pc + len) L (.int (x >>> (y &&& 31)) :: st) h
    | _ => none
  | .i2b => match st with
    | .int x :: st => go (pc + len) L (.int x.toInt8.toInt32 :: st) h
    | _ => none
  | .i2c => match st with
    | .int x :: st => go (pc + len) L (.int (x.toUInt32 % 65536).toInt32 :: st) h
    | _ => none
  | .i2l => match st with
    | .int x :: st => go (pc + len) L (.long x.toInt64 :: st) h
    | _ => none
  | .i2d => match st with
    | .int x :: st => go (pc + len) L (.double (FP.i2d x) :: st) h
    | _ => none
  | .ladd => match st with
    | .long y :: .long x :: st => go (pc + len) L (.long (x + y) :: st) h
    | _ => none
  | .lshl => match st with
    | .int y :: .long x :: st => go (pc + len) L (.long (x <<< (y.toInt64 &&& 63)) :: st) h
    | _ => none
  | .lcmp => match st with
    | .long y :: .long x :: st => go (pc + len) L (.int (if x < y then -1 else if x = y then 0 else 1) :: st) h
    | _ => none
  | .ddiv => match st with
    | .double y :: .double x :: st => gd (FP.ddiv x y &&& 0x7fffffffffffffff ≤ 0x7ff0000000000000) (go (pc + len) L (.double (FP.ddiv x y) :: st) h)
    | _ => none
  | .dcmp op => match st with
    | .double y :: .double x :: st => go (pc + len) L (.int (Op.cmpValue (FP.dcmp x y) op) :: st) h
    | _ => none
  | .ifCond c _ => match st with
    | .int x :: st => ifC c x pc len aux L st h
    | _ => none
  | .if_icmp c _ => match st with
    | .int y :: .int x :: st => icC c x y pc len aux L st h
    | _ => none
  | .ifnonnull _ => match aux, st with
    | t :: _, .ref x :: st => gd (¬ hT h x = 0) (go t L st h)
    | _, _ => none
  | .goto _ => match aux with
    | t :: _ => go t L st h
    | _ => none
  | .tableswitch _ lo _ _ => match st with
    | .int x :: st => go (tsw lo x aux) L st h
    | _ => none
  | .lookupswitch _ ps => match st with
    | .int x :: st => go (lsw ps.toList x aux) L st h
    | _ => none
  | .getfield _ => match aux, st with
    | c :: k :: kd :: _, .ref a :: st => gd (hT h a = c) (go (pc + len) L (fv h kd a k :: st) h)
    | _, _ => none
  | .putfield _ => match aux, st with
    | c :: k :: kd :: _, v :: .ref a :: st => putF c k kd (pc + len) L v a st h
    | _, _ => none
  | .iaload => match aux, st with
    | t :: _, .int j :: .ref a :: st => gd (hT h a = t ∧ inb j (hL h a)) (go (pc + len) L (.int (hI h a (ix j)) :: st) h)
    | _, _ => none
  | .baload => match aux, st with
    | t :: _, .int j :: .ref a :: st => gd (hT h a = t ∧ inb j (hL h a)) (go (pc + len) L (.int (hI h a (ix j)) :: st) h)
    | _, _ => none
  | .laload => match aux, st with
    | t :: _, .int j :: .ref a :: st => gd (hT h a = t ∧ inb j (hL h a)) (go (pc + len) L (.long (hJ h a (ix j)) :: st) h)
    | _, _ => none
  | .aaload => match aux, st with
    | t :: _, .int j :: .ref a :: st => gd (hT h a = t ∧ inb j (hL h a)) (go (pc + len) L (.ref (hR h a (ix j)) :: st) h)
    | _, _ => none
  | .iastore => match aux, st with
    | t :: _, .int x :: .int j :: .ref a :: st => gd (hT h a = t ∧ inb j (hL h a)) (go (pc + len) L st (wI h a (ix j) x))
    | _, _ => none
  | .bastore => match aux, st with
    | t :: _, .int x :: .int j :: .ref a :: st => gd (hT h a = t ∧ KK ≤ a ∧ inb j (hL h a)) (go (pc + len) L st (wI h a (ix j) x.toInt8.toInt32))
    | _, _ => none
  | .lastore => match aux, st with
    | t :: _, .long x :: .int j :: .ref a :: st => gd (hT h a = t ∧ inb j (hL h a)) (go (pc + len) L st (wJ h a (ix j) x))
    | _, _ => none
  | .aastore => match aux, st with
    | t :: u :: _, .ref x :: .int j :: .ref a :: st => gd (hT h a = t ∧ inb j (hL h a) ∧ hT h x = u) (go (pc + len) L st (wR h a (ix j) x))
    | _, _ => none
  | .arraylength => match aux, st with
    | t :: _, .ref a :: st => gd (hT h a = t) (go (pc + len) L (.int (nI (hL h a)) :: st) h)
    | _, _ => none
  | .new _ => match aux with
    | t :: n :: _ => go (pc + len) L (.ref (hN h) :: st) (hA h t n)
    | _ => none
  | .newarray _ => match aux, st with
    | t :: _, .int n :: st => gd (¬ n < 0 ∧ ix n ≤ 65536) (go (pc + len) L (.ref (hN h) :: st) (hA h t (ix n)))
    | _, _ => none
  | .anewarray _ => match aux, st with
    | t :: _, .int n :: st => gd (¬ n < 0 ∧ ix n ≤ 65536) (go (pc + len) L (.ref (hN h) :: st) (hA h t (ix n)))
    | _, _ => none
  | .multianewarray _ _ => match aux, st with
    | t :: u :: _, .int k :: .int n :: st => gd (k = 0 ∧ ¬ n < 0 ∧ ix n ≤ 64) (go (pc + len) L (.ref (hN h) :: st) (hMA h t u (ix n)))
    | _, _ => none
  | .checkcast _ => match aux, st with
    | t :: _, .ref a :: st => gd (hT h a = t) (go (pc + len) L (.ref a :: st) h)
    | _, _ => none
  | .invokevirtual _ => call aux pc len L st h
  | .invokespecial _ => call aux pc len L st h
  | .invokestatic _ => call aux pc len L st h
  | .ireturn => match aux, st with
    | k :: _, .int x :: [] => gd (nrm k x) (some (.inr (.inr (some (.int x)))))
    | _, _ => none
  | .areturn => match st with
    | .ref x :: [] => some (.inr (.inr (some (.ref x))))
    | _ => none
  | .lreturn => match st with
    | .long x :: [] => some (.inr (.inr (some (.long x))))
    | _ => none
  | .dreturn => match st with
    | .double x :: [] => some (.inr (.inr (some (.double x))))
    | _ => none
  | .return_ => match st with
    | [] => some (.inr (.inr none))
    | _ => none
  | _ => none
-- ===== tables of a program: methods by number; rows of a method in buckets of 32 =====
abbrev Row : Type := Instr × Nat × List Nat
def lkR (pc : Nat) : List (Nat × Row) → Option Row
  | [] => none
  | (k, r) :: q => cond (Nat.beq k pc) (some r) (lkR pc q)
def tbR (T : List (List (Nat × Row))) (pc : Nat) : Option Row := match T[pc / 32]? with
  | some b => lkR pc b
  | none => none
-- a run: n steps at most; C: what a call may do
def Rn (P : Nat → Nat → Option Row) (C : Nat → List Value → AH → AH → Option Value → Prop) : Nat → Nat → Nat → List Value → List Value → AH → AH → Option Value → Prop
  | 0, _, _, _, _, _, _, _ => False
  | n + 1, i, pc, L, st, h, h', r => match P i pc with
    | none => False
    | some (ins, len, aux) => match step1 ins len aux pc L st h with
      | none => False
      | some (.inl (pc', L', st', h1)) => Rn P C n i pc' L' st' h1 h' r
      | some (.inr (.inl (j, vs, rest))) => ∃ (h1 : AH) (v : Option Value), C j vs h h1 v ∧ Rn P C n i (pc + 3) L (v.toList ++ rest) h1 h' r
      | some (.inr (.inr v)) => h' = h ∧ r = v
def ent1 : List Value → List Value
  | [] => []
  | .long x :: l => .long x :: .retAddr 0 :: ent1 l
  | .double x :: l => .double x :: .retAddr 0 :: ent1 l
  | v :: l => v :: ent1 l
def entL (vs : List Value) (n : Nat) : List Value := ent1 vs ++ List.replicate (n - (ent1 vs).length) (.retAddr 0)
def Ev (P : Nat → Nat → Option Row) (mL : Nat → Nat) : Nat → Nat → List Value → AH → AH → Option Value → Prop
  | 0, _, _, _, _, _ => False
  | d + 1, i, vs, h, h', r => (ent1 vs).length ≤ mL i ∧ ∃ n, Rn P (Ev P mL d) n i 0 (entL vs (mL i)) [] h h' r

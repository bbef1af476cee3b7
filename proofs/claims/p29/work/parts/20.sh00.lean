/-! SHALLOW FUNCTIONS (written by wip/p29/gen_sh.py) -/
def f_Orders_init (h : AH) (a0 : Nat) : Option AH :=
  gd (hT h a0 = 2) <|
  lq (hA h 101 (ix (nI 400))) fun h2 =>
  gd (hT h2 a0 = 2) <|
  lq (wR h2 a0 0 (hN h)) fun h4 =>
  lq (hA h4 101 (ix (nI 400))) fun h5 =>
  gd (hT h5 a0 = 2) <|
  lq (wR h5 a0 1 (hN h4)) fun h7 =>
  gd (hT h7 a0 = 2) <|
  lq (wI h7 a0 2 (nI 0)) fun h9 =>
  lq (hA h9 101 (ix (nI 400))) fun h10 =>
  gd (hT h10 a0 = 2) <|
  lq (wR h10 a0 3 (hN h9)) fun h12 =>
  gd (hT h12 a0 = 2) <|
  lq (wI h12 a0 4 (nI 0)) fun h14 =>
  some h14
def f_Garden_init (h : AH) (a0 : Nat) : Option AH :=
  gd (hT h a0 = 4) <|
  lq (wI h a0 0 (nI 0)) fun h2 =>
  gd (hT h2 a0 = 4) <|
  lq (wI h2 a0 1 (nI 0)) fun h4 =>
  gd (hT h4 a0 = 4) <|
  lq (wI h4 a0 2 (nI 1)) fun h6 =>
  some h6
def f_Rack_init (h : AH) (a0 : Nat) : Option AH :=
  gd (hT h a0 = 5) <|
  lq (wI h a0 0 (nI 0)) fun h2 =>
  gd (hT h2 a0 = 5) <|
  lq (wI h2 a0 1 (nI 0)) fun h4 =>
  gd (hT h4 a0 = 5) <|
  lq (wI h4 a0 2 (nI 0)) fun h6 =>
  lq (hA h6 101 (ix (nI 60))) fun h7 =>
  gd (hT h7 a0 = 5) <|
  lq (wR h7 a0 3 (hN h6)) fun h9 =>
  lq (hA h9 101 (ix (nI 60))) fun h10 =>
  gd (hT h10 a0 = 5) <|
  lq (wR h10 a0 4 (hN h9)) fun h12 =>
  lq (hA h12 101 (ix (nI 60))) fun h13 =>
  gd (hT h13 a0 = 5) <|
  lq (wR h13 a0 5 (hN h12)) fun h15 =>
  lq (hA h15 101 (ix (nI 60))) fun h16 =>
  gd (hT h16 a0 = 5) <|
  lq (wR h16 a0 6 (hN h15)) fun h18 =>
  some h18
def f_Peeler_init (h : AH) (a0 : Nat) : Option AH :=
  gd (hT h a0 = 6) <|
  lq (wI h a0 0 (nI 0)) fun h2 =>
  gd (hT h2 a0 = 6) <|
  lq (wI h2 a0 1 (nI 0)) fun h4 =>
  gd (hT h4 a0 = 6) <|
  lq (wI h4 a0 2 (nI 0)) fun h6 =>
  gd (hT h6 a0 = 6) <|
  lq (wI h6 a0 3 (nI 20)) fun h8 =>
  gd (hT h8 a0 = 6) <|
  lq (wI h8 a0 4 (nI 0)) fun h10 =>
  gd (hT h10 a0 = 6) <|
  lq (wI h10 a0 5 (nI 0)) fun h12 =>
  gd (hT h12 a0 = 6 ∧ ((nI 0) = 0 ∨ (nI 0) = 1)) <|
  lq (wI h12 a0 6 (nI 0)) fun h14 =>
  some h14
def f_Boat_init (h : AH) (a0 : Nat) : Option AH :=
  gd (hT h a0 = 7) <|
  lq (wI h a0 0 (nI 0)) fun h2 =>
  gd (hT h2 a0 = 7) <|
  lq (wI h2 a0 1 (nI 0)) fun h4 =>
  gd (hT h4 a0 = 7) <|
  lq (wI h4 a0 2 (nI 0)) fun h6 =>
  gd (hT h6 a0 = 7) <|
  lq (wI h6 a0 3 (nI 0)) fun h8 =>
  gd (hT h8 a0 = 7) <|
  lq (wI h8 a0 4 (nI 0)) fun h10 =>
  gd (hT h10 a0 = 7) <|
  lq (wI h10 a0 5 (-nI 1)) fun h12 =>
  gd (hT h12 a0 = 7) <|
  lq (wI h12 a0 6 (nI 0)) fun h14 =>
  some h14
def f_Grade_init (h : AH) (a0 : Nat) : Option AH :=
  gd (hT h a0 = 8) <|
  lq (wI h a0 0 (nI 0)) fun h2 =>
  gd (hT h2 a0 = 8) <|
  lq (wI h2 a0 1 (nI 0)) fun h4 =>
  gd (hT h4 a0 = 8) <|
  lq (wI h4 a0 2 (nI 0)) fun h6 =>
  gd (hT h6 a0 = 8) <|
  lq (wI h6 a0 3 (nI 0)) fun h8 =>
  some h8
def f_Grade_clear (h : AH) (a0 : Nat) (a1 : Int32) : Option AH :=
  gd (hT h a0 = 8) <|
  lq (wI h a0 0 (nI 0)) fun h2 =>
  gd (hT h2 a0 = 8) <|
  lq (wI h2 a0 1 a1) fun h4 =>
  gd (hT h4 a0 = 8) <|
  lq (wI h4 a0 2 (nI 0)) fun h6 =>
  gd (hT h6 a0 = 8) <|
  lq (wI h6 a0 3 (nI 0)) fun h8 =>
  some h8
def f_River_beginAnew_b59 (k59 : AH → Nat → Int32 → Option AH) (h : AH) (a0 : Nat) (a1 : Int32)  : Option AH :=
  if (nI 12) ≤ a1 then
    gd (hT h a0 = 3) <|
    gd (hT h (hR h a0 4) = 108 ∧ inb (nI 0) (hL h (hR h a0 4))) <|
    gd (hT h (hR h (hR h a0 4) (ix (nI 0))) = 8) <|
    bv (f_Grade_clear h (hR h (hR h a0 4) (ix (nI 0))) (nI 8)) fun h5 =>
    gd (hT h5 a0 = 3) <|
    gd (hT h5 (hR h5 a0 4) = 108 ∧ inb (nI 1) (hL h5 (hR h5 a0 4))) <|
    gd (hT h5 (hR h5 (hR h5 a0 4) (ix (nI 1))) = 8) <|
    bv (f_Grade_clear h5 (hR h5 (hR h5 a0 4) (ix (nI 1))) (nI 5)) fun h9 =>
    gd (hT h9 a0 = 3) <|
    gd (hT h9 (hR h9 a0 4) = 108 ∧ inb (nI 2) (hL h9 (hR h9 a0 4))) <|
    gd (hT h9 (hR h9 (hR h9 a0 4) (ix (nI 2))) = 8) <|
    bv (f_Grade_clear h9 (hR h9 (hR h9 a0 4) (ix (nI 2))) (nI 3)) fun h13 =>
    gd (hT h13 a0 = 3) <|
    gd (hT h13 (hR h13 a0 4) = 108 ∧ inb (nI 3) (hL h13 (hR h13 a0 4))) <|
    gd (hT h13 (hR h13 (hR h13 a0 4) (ix (nI 3))) = 8) <|
    bv (f_Grade_clear h13 (hR h13 (hR h13 a0 4) (ix (nI 3))) (nI 1)) fun h17 =>
    some h17
  else
    gd (hT h a0 = 3) <|
    gd (hT h (hR h a0 5) = 101 ∧ inb a1 (hL h (hR h a0 5))) <|
    lq (wI h (hR h a0 5) (ix a1) (nI 1)) fun h20 =>
    lq (a1 + (nI 1)) fun x21 =>
    k59 h20 a0 x21
def f_River_beginAnew_l59 : Nat → AH → Nat → Int32 → Option AH
  | 0, _, _, _ => none
  | n + 1, h, a0, a1 => f_River_beginAnew_b59 (f_River_beginAnew_l59  n) h a0 a1
def f_River_beginAnew (h : AH) (a0 : Nat) : Option AH :=
  gd (hT h a0 = 3) <|
  lq (wI h a0 6 (nI 0)) fun h2 =>
  gd (hT h2 a0 = 3) <|
  lq (wI h2 a0 7 (nI 0)) fun h4 =>
  gd (hT h4 a0 = 3) <|
  lq (wI h4 a0 8 (nI 0)) fun h6 =>
  gd (hT h6 a0 = 3) <|
  lq (wI h6 a0 9 (nI 0)) fun h8 =>
  gd (hT h8 a0 = 3) <|
  lq (wI h8 a0 10 (nI 0)) fun h10 =>
  gd (hT h10 a0 = 3) <|
  lq (wI h10 a0 12 (nI 50)) fun h12 =>
  gd (hT h12 a0 = 3) <|
  lq (wI h12 a0 13 (nI 20)) fun h14 =>
  gd (hT h14 a0 = 3) <|
  lq (wI h14 a0 14 (nI 1)) fun h16 =>
  gd (hT h16 a0 = 3) <|
  lq (wI h16 a0 15 (nI 0)) fun h18 =>
  gd (hT h18 a0 = 3) <|
  lq (wI h18 a0 16 (nI 0)) fun h20 =>
  gd (hT h20 a0 = 3) <|
  lq (wI h20 a0 17 (nI 0)) fun h22 =>
  f_River_beginAnew_l59  FU h22 a0 (nI 0)
def f_River_init_b220 (k220 : AH → Nat → Int32 → Option AH) (h : AH) (a0 : Nat) (a1 : Int32)  : Option AH :=
  if (nI 4) ≤ a1 then
    gd (hT h a0 = 3) <|
    bv (f_River_beginAnew h a0) fun h3 =>
    some h3
  else
    gd (hT h a0 = 3) <|
    lq (hA h 8 4) fun h5 =>
    gd (hT h5 (hN h) = 8) <|
    bv (f_Grade_init h5 (hN h)) fun h7 =>
    gd (hT h7 (hR h a0 4) = 108 ∧ inb a1 (hL h7 (hR h a0 4)) ∧ hT h7 (hN h) = 8) <|
    lq (wR h7 (hR h a0 4) (ix a1) (hN h)) fun h9 =>
    lq (a1 + (nI 1)) fun x10 =>
    k220 h9 a0 x10
def f_River_init_l220 : Nat → AH → Nat → Int32 → Option AH
  | 0, _, _, _ => none
  | n + 1, h, a0, a1 => f_River_init_b220 (f_River_init_l220  n) h a0 a1
def f_River_init_b194 (k194 : AH → Nat → Int32 → Option AH) (h : AH) (a0 : Nat) (a1 : Int32)  : Option AH :=
  if (nI 4) ≤ a1 then
    f_River_init_l220  FU h a0 (nI 0)
  else
    gd (hT h a0 = 3) <|
    lq (hA h 7 7) fun h3 =>
    gd (hT h3 (hN h) = 7) <|
    bv (f_Boat_init h3 (hN h)) fun h5 =>
    gd (hT h5 (hR h a0 3) = 107 ∧ inb a1 (hL h5 (hR h a0 3)) ∧ hT h5 (hN h) = 7) <|
    lq (wR h5 (hR h a0 3) (ix a1) (hN h)) fun h7 =>
    lq (a1 + (nI 1)) fun x8 =>
    k194 h7 a0 x8
def f_River_init_l194 : Nat → AH → Nat → Int32 → Option AH
  | 0, _, _, _ => none
  | n + 1, h, a0, a1 => f_River_init_b194 (f_River_init_l194  n) h a0 a1
def f_River_init_b167 (k167 : AH → Nat → Int32 → Option AH) (h : AH) (a0 : Nat) (a1 : Int32)  : Option AH :=
  if (nI 8) ≤ a1 then
    f_River_init_l194  FU h a0 (nI 0)
  else
    gd (hT h a0 = 3) <|
    lq (hA h 6 7) fun h3 =>
    gd (hT h3 (hN h) = 6) <|
    bv (f_Peeler_init h3 (hN h)) fun h5 =>
    gd (hT h5 (hR h a0 2) = 106 ∧ inb a1 (hL h5 (hR h a0 2)) ∧ hT h5 (hN h) = 6) <|
    lq (wR h5 (hR h a0 2) (ix a1) (hN h)) fun h7 =>
    lq (a1 + (nI 1)) fun x8 =>
    k167 h7 a0 x8
def f_River_init_l167 : Nat → AH → Nat → Int32 → Option AH
  | 0, _, _, _ => none
  | n + 1, h, a0, a1 => f_River_init_b167 (f_River_init_l167  n) h a0 a1
def f_River_init_b141 (k141 : AH → Nat → Int32 → Option AH) (h : AH) (a0 : Nat) (a1 : Int32)  : Option AH :=
  if (nI 4) ≤ a1 then
    f_River_init_l167  FU h a0 (nI 0)
  else
    gd (hT h a0 = 3) <|
    lq (hA h 5 7) fun h3 =>
    gd (hT h3 (hN h) = 5) <|
    bv (f_Rack_init h3 (hN h)) fun h5 =>
    gd (hT h5 (hR h a0 1) = 105 ∧ inb a1 (hL h5 (hR h a0 1)) ∧ hT h5 (hN h) = 5) <|
    lq (wR h5 (hR h a0 1) (ix a1) (hN h)) fun h7 =>
    lq (a1 + (nI 1)) fun x8 =>
    k141 h7 a0 x8
def f_River_init_l141 : Nat → AH → Nat → Int32 → Option AH
  | 0, _, _, _ => none
  | n + 1, h, a0, a1 => f_River_init_b141 (f_River_init_l141  n) h a0 a1
def f_River_init_b115 (k115 : AH → Nat → Int32 → Option AH) (h : AH) (a0 : Nat) (a1 : Int32)  : Option AH :=
  if (nI 4) ≤ a1 then
    f_River_init_l141  FU h a0 (nI 0)
  else
    gd (hT h a0 = 3) <|
    lq (hA h 4 3) fun h3 =>
    gd (hT h3 (hN h) = 4) <|
    bv (f_Garden_init h3 (hN h)) fun h5 =>
    gd (hT h5 (hR h a0 0) = 104 ∧ inb a1 (hL h5 (hR h a0 0)) ∧ hT h5 (hN h) = 4) <|
    lq (wR h5 (hR h a0 0) (ix a1) (hN h)) fun h7 =>
    lq (a1 + (nI 1)) fun x8 =>
    k115 h7 a0 x8
def f_River_init_l115 : Nat → AH → Nat → Int32 → Option AH
  | 0, _, _, _ => none
  | n + 1, h, a0, a1 => f_River_init_b115 (f_River_init_l115  n) h a0 a1
def f_River_init (h : AH) (a0 : Nat) : Option AH :=
  gd (hT h a0 = 3) <|
  lq (hA h 104 (ix (nI 4))) fun h2 =>
  gd (hT h2 a0 = 3) <|
  lq (wR h2 a0 0 (hN h)) fun h4 =>
  lq (hA h4 105 (ix (nI 4))) fun h5 =>
  gd (hT h5 a0 = 3) <|
  lq (wR h5 a0 1 (hN h4)) fun h7 =>
  lq (hA h7 106 (ix (nI 8))) fun h8 =>
  gd (hT h8 a0 = 3) <|
  lq (wR h8 a0 2 (hN h7)) fun h10 =>
  lq (hA h10 107 (ix (nI 4))) fun h11 =>
  gd (hT h11 a0 = 3) <|
  lq (wR h11 a0 3 (hN h10)) fun h13 =>
  lq (hA h13 108 (ix (nI 4))) fun h14 =>
  gd (hT h14 a0 = 3) <|
  lq (wR h14 a0 4 (hN h13)) fun h16 =>
  lq (hA h16 101 (ix (nI 12))) fun h17 =>
  gd (hT h17 a0 = 3) <|
  lq (wR h17 a0 5 (hN h16)) fun h19 =>
  gd (hT h19 a0 = 3) <|
  lq (wI h19 a0 6 (nI 0)) fun h21 =>
  gd (hT h21 a0 = 3) <|
  lq (wI h21 a0 7 (nI 0)) fun h23 =>
  gd (hT h23 a0 = 3) <|
  lq (wI h23 a0 8 (nI 0)) fun h25 =>
  gd (hT h25 a0 = 3) <|
  lq (wI h25 a0 9 (nI 0)) fun h27 =>
  gd (hT h27 a0 = 3) <|
  lq (wI h27 a0 10 (nI 0)) fun h29 =>
  gd (hT h29 a0 = 3) <|
  lq (wI h29 a0 11 (nI 0)) fun h31 =>
  gd (hT h31 a0 = 3) <|
  lq (wI h31 a0 12 (nI 0)) fun h33 =>
  gd (hT h33 a0 = 3) <|
  lq (wI h33 a0 13 (nI 0)) fun h35 =>
  gd (hT h35 a0 = 3) <|
  lq (wI h35 a0 14 (nI 0)) fun h37 =>
  gd (hT h37 a0 = 3) <|
  lq (wI h37 a0 15 (nI 0)) fun h39 =>
  gd (hT h39 a0 = 3) <|
  lq (wI h39 a0 16 (nI 0)) fun h41 =>
  gd (hT h41 a0 = 3) <|
  lq (wI h41 a0 17 (nI 0)) fun h43 =>
  f_River_init_l115  FU h43 a0 (nI 0)
def f_String_coder (h : AH) (a0 : Nat) : Option (AH × Int32) :=
  if (nI 1) = 0 then
    gd (nrm 4 (nI 1)) <|
    some (h, (nI 1))
  else
    gd (hT h a0 = 15) <|
    gd (nrm 4 (hI h a0 1)) <|
    some (h, (hI h a0 1))
def f_String_length (h : AH) (a0 : Nat) : Option (AH × Int32) :=
  gd (hT h a0 = 15) <|
  gd (hT h (hR h a0 0) = 102) <|
  bn (f_String_coder h a0) fun h3 r4 =>
  some (h3, ((nI (hL h (hR h a0 0))) >>> (r4 &&& 31)))
def f_String_isLatin1 (h : AH) (a0 : Nat) : Option (AH × Int32) :=
  if (nI 1) = 0 then
    some (h, (nI 0))
  else
    gd (hT h a0 = 15) <|
    if ¬ (hI h a0 1) = 0 then
      some (h, (nI 0))
    else
      some (h, (nI 1))
def f_Pre_checkIndex_b9 (h : AH) (a0 : Int32) (a1 : Int32) (a2 : Nat)  : Option (AH × Int32) :=
  none
def f_Pre_checkIndex (h : AH) (a0 : Int32) (a1 : Int32) (a2 : Nat) : Option (AH × Int32) :=
  if a0 < 0 then
    f_Pre_checkIndex_b9  h a0 a1 a2
  else
    if a0 < a1 then
      some (h, a0)
    else
      f_Pre_checkIndex_b9  h a0 a1 a2
def f_String_checkIndex (h : AH) (a0 : Int32) (a1 : Int32) : Option AH :=
  bn (f_Pre_checkIndex h a0 a1 5) fun h1 r2 =>
  some h1
def f_Lat_charAt (h : AH) (a0 : Nat) (a1 : Int32) : Option (AH × Int32) :=
  gd (hT h a0 = 102) <|
  bv (f_String_checkIndex h a1 (nI (hL h a0))) fun h2 =>
  gd (hT h2 a0 = 102 ∧ inb a1 (hL h2 a0)) <|
  gd (nrm 5 (UInt32.toInt32 (Int32.toUInt32 ((hI h2 a0 (ix a1)) &&& (nI 255)) % 65536))) <|
  some (h2, (UInt32.toInt32 (Int32.toUInt32 ((hI h2 a0 (ix a1)) &&& (nI 255)) % 65536)))
def f_String_charAt (h : AH) (a0 : Nat) (a1 : Int32) : Option (AH × Int32) :=
  gd (hT h a0 = 15) <|
  bn (f_String_isLatin1 h a0) fun h2 r3 =>
  if r3 = 0 then
    gd (hT h2 a0 = 15) <|
    none
  else
    gd (hT h2 a0 = 15) <|
    bn (f_Lat_charAt h2 (hR h2 a0 0) a1) fun h7 r8 =>
    gd (nrm 5 r8) <|
    some (h7, r8)
def f_Tokens_isDigit (h : AH) (a0 : Int32) : Option (AH × Int32) :=
  if a0 < (nI 48) then
    some (h, (nI 0))
  else
    if (nI 57) < a0 then
      some (h, (nI 0))
    else
      some (h, (nI 1))
def f_Tokens_joined_b27 (h : AH)  (s0 : Int64) (s1 : Int32) : Option (AH × Int64) :=
  some (h, (s0 + (Int32.toInt64 s1)))
def f_Tokens_joined (h : AH) (a0 : Int64) (a1 : Int32) : Option (AH × Int64) :=
  bn (f_Tokens_isDigit h a1) fun h1 r2 =>
  if r2 = 0 then
    f_Tokens_joined_b27  h1 (a0 <<< (Int32.toInt64 (nI 6) &&& 63)) ((a1 - (nI 97)) + (nI 1))
  else
    f_Tokens_joined_b27  h1 (a0 <<< (Int32.toInt64 (nI 6) &&& 63)) ((a1 - (nI 48)) + (nI 27))
def f_Tokens_init_b137 (k60 : AH → Nat → Int32 → Int64 → Int32 → Option AH) (h : AH) (a0 : Nat) (a1 : Int32) (a2 : Int64) (a4 : Int32)  : Option AH :=
  lq (a4 + (nI 1)) fun x1 =>
  k60 h a0 a1 a2 x1
def f_Tokens_init_b120 (k60 : AH → Nat → Int32 → Int64 → Int32 → Option AH) (h : AH) (a0 : Nat) (a2 : Int64) (a4 : Int32) (s0 : Int32) : Option AH :=
  gd (hT h a0 = 11) <|
  gd (hT h (hR h a0 0) = 103) <|
  if (nI (hL h (hR h a0 0))) ≤ s0 then
    f_Tokens_init_b137 k60 h a0 s0 a2 a4
  else
    gd (hT h (hR h a0 0) = 103 ∧ inb s0 (hL h (hR h a0 0))) <|
    lq (wJ h (hR h a0 0) (ix s0) a2) fun h5 =>
    f_Tokens_init_b137 k60 h5 a0 s0 a2 a4
def f_Tokens_init_b105 (k60 : AH → Nat → Int32 → Int64 → Int32 → Option AH) (h : AH) (a0 : Nat) (a1 : Int32) (a4 : Int32) (a5 : Int32) (s0 : Int64) : Option AH :=
  if ¬ a5 = (nI 32) then
    f_Tokens_init_b120 k60 h a0 s0 a4 a1
  else
    f_Tokens_init_b120 k60 h a0 s0 a4 (a1 + (nI 1))
def f_Tokens_init_b60 (k60 : AH → Nat → Int32 → Int64 → Int32 → Option AH) (h : AH) (a0 : Nat) (a1 : Int32) (a2 : Int64) (a4 : Int32)  : Option AH :=
  gd (hT h 112 = 15) <|
  bn (f_String_length h 112) fun h2 r3 =>
  if r3 ≤ a4 then
    some h2
  else
    gd (hT h2 a0 = 11) <|
    gd (hT h2 (hR h2 a0 0) = 103) <|
    if (nI (hL h2 (hR h2 a0 0))) ≤ a1 then
      some h2
    else
      gd (hT h2 112 = 15) <|
      bn (f_String_charAt h2 112 a4) fun h9 r10 =>
      if ¬ r10 = (nI 32) then
        bn (f_Tokens_joined h9 a2 r10) fun h12 r13 =>
        f_Tokens_init_b105 k60 h12 a0 a1 a4 r10 r13
      else
        f_Tokens_init_b105 k60 h9 a0 a1 a4 r10 (Int64.ofNat 0)
def f_Tokens_init_l60 : Nat → AH → Nat → Int32 → Int64 → Int32 → Option AH
  | 0, _, _, _, _, _ => none
  | n + 1, h, a0, a1, a2, a4 => f_Tokens_init_b60 (f_Tokens_init_l60  n) h a0 a1 a2 a4
def f_Tokens_init (h : AH) (a0 : Nat) : Option AH :=
  gd (hT h a0 = 11) <|
  lq (hA h 103 (ix (nI 39))) fun h2 =>
  gd (hT h2 a0 = 11) <|
  lq (wR h2 a0 0 (hN h)) fun h4 =>
  lq (hA h4 101 (ix (nI 401))) fun h5 =>
  gd (hT h5 a0 = 11) <|
  lq (wR h5 a0 1 (hN h4)) fun h7 =>
  lq (hA h7 101 (ix (nI 401))) fun h8 =>
  gd (hT h8 a0 = 11) <|
  lq (wR h8 a0 2 (hN h7)) fun h10 =>
  lq (hA h10 101 (ix (nI 401))) fun h11 =>
  gd (hT h11 a0 = 11) <|
  lq (wR h11 a0 3 (hN h10)) fun h13 =>
  lq (hA h13 103 (ix (nI 401))) fun h14 =>
  gd (hT h14 a0 = 11) <|
  lq (wR h14 a0 4 (hN h13)) fun h16 =>
  gd (hT h16 a0 = 11) <|
  lq (wI h16 a0 5 (nI 0)) fun h18 =>
  lq (Int64.ofNat 0) fun x19 =>
  f_Tokens_init_l60  FU h18 a0 (nI 0) x19 (nI 0)
def f_Grammar_init (h : AH) (a0 : Nat) : Option AH :=
  gd (hT h a0 = 10) <|
  lq (hA h 11 6) fun h2 =>
  gd (hT h2 (hN h) = 11) <|
  bv (f_Tokens_init h2 (hN h)) fun h4 =>
  gd (hT h4 a0 = 10) <|
  lq (wR h4 a0 0 (hN h)) fun h6 =>
  lq (hA h6 2 5) fun h7 =>
  gd (hT h7 (hN h6) = 2) <|
  bv (f_Orders_init h7 (hN h6)) fun h9 =>
  gd (hT h9 a0 = 10) <|
  lq (wR h9 a0 1 (hN h6)) fun h11 =>
  gd (hT h11 a0 = 10) <|
  lq (wI h11 a0 2 (nI 0)) fun h13 =>
  gd (hT h13 a0 = 10) <|
  lq (wI h13 a0 3 (nI 57)) fun h15 =>
  some h15
def f_Math_max (h : AH) (a0 : Int32) (a1 : Int32) : Option (AH × Int32) :=
  if a0 < a1 then
    some (h, a1)
  else
    some (h, a0)
def f_Roll_init (h : AH) (a0 : Nat) (a1 : Int32) : Option AH :=
  gd (hT h a0 = 12) <|
  lq (wI h a0 1 (nI 0)) fun h2 =>
  bn (f_Math_max h2 (nI 0) a1) fun h3 r4 =>
  gd (¬ r4 < 0 ∧ ix r4 ≤ 65536) <|
  lq (hA h3 103 (ix r4)) fun h6 =>
  gd (hT h6 a0 = 12) <|
  lq (wR h6 a0 0 (hN h3)) fun h8 =>
  some h8
def f_Names_init (h : AH) (a0 : Nat) : Option AH :=
  gd (hT h a0 = 9) <|
  lq (hA h 10 4) fun h2 =>
  gd (hT h2 (hN h) = 10) <|
  bv (f_Grammar_init h2 (hN h)) fun h4 =>
  gd (hT h4 a0 = 9) <|
  lq (wR h4 a0 0 (hN h)) fun h6 =>
  gd (hT h6 a0 = 9) <|
  gd (hT h6 (hR h6 a0 0) = 10) <|
  lq (wR h6 a0 1 (hR h6 (hR h6 a0 0) 0)) fun h9 =>
  lq (hA h9 3 18) fun h10 =>
  gd (hT h10 (hN h9) = 3) <|
  bv (f_River_init h10 (hN h9)) fun h12 =>
  gd (hT h12 a0 = 9) <|
  lq (wR h12 a0 2 (hN h9)) fun h14 =>
  lq (hA h14 12 2) fun h15 =>
  gd (hT h15 (hN h14) = 12) <|
  bv (f_Roll_init h15 (hN h14) (nI 4)) fun h17 =>
  gd (hT h17 a0 = 9) <|
  lq (wR h17 a0 3 (hN h14)) fun h19 =>
  lq (hA h19 12 2) fun h20 =>
  gd (hT h20 (hN h19) = 12) <|
  bv (f_Roll_init h20 (hN h19) (nI 4)) fun h22 =>
  gd (hT h22 a0 = 9) <|
  lq (wR h22 a0 4 (hN h19)) fun h24 =>
  lq (hA h24 12 2) fun h25 =>
  gd (hT h25 (hN h24) = 12) <|
  bv (f_Roll_init h25 (hN h24) (nI 8)) fun h27 =>
  gd (hT h27 a0 = 9) <|
  lq (wR h27 a0 5 (hN h24)) fun h29 =>
  lq (hA h29 12 2) fun h30 =>
  gd (hT h30 (hN h29) = 12) <|
  bv (f_Roll_init h30 (hN h29) (nI 4)) fun h32 =>
  gd (hT h32 a0 = 9) <|
  lq (wR h32 a0 6 (hN h29)) fun h34 =>
  gd (hT h34 a0 = 9) <|
  lq (wI h34 a0 7 (nI 0)) fun h36 =>
  some h36
def f_QuillBoats_init (h : AH) (a0 : Nat) : Option AH :=
  gd (hT h a0 = 1) <|
  lq (hA h 102 (ix (nI 2000))) fun h2 =>
  gd (hT h2 a0 = 1) <|
  lq (wR h2 a0 0 (hN h)) fun h4 =>
  gd (hT h4 a0 = 1) <|
  lq (wI h4 a0 1 (nI 0)) fun h6 =>
  gd (hT h6 a0 = 1) <|
  lq (wI h6 a0 2 (-nI 1)) fun h8 =>
  lq (hA h8 2 5) fun h9 =>
  gd (hT h9 (hN h8) = 2) <|
  bv (f_Orders_init h9 (hN h8)) fun h11 =>
  gd (hT h11 a0 = 1) <|
  lq (wR h11 a0 3 (hN h8)) fun h13 =>
  lq (hA h13 3 18) fun h14 =>
  gd (hT h14 (hN h13) = 3) <|
  bv (f_River_init h14 (hN h13)) fun h16 =>
  gd (hT h16 a0 = 1) <|
  lq (wR h16 a0 4 (hN h13)) fun h18 =>
  lq (hA h18 9 8) fun h19 =>
  gd (hT h19 (hN h18) = 9) <|
  bv (f_Names_init h19 (hN h18)) fun h21 =>
  gd (hT h21 a0 = 1) <|
  lq (wR h21 a0 5 (hN h18)) fun h23 =>
  gd (hT h23 a0 = 1) <|
  gd (hT h23 (hR h23 a0 5) = 9) <|
  lq (wR h23 a0 6 (hR h23 (hR h23 a0 5) 0)) fun h26 =>
  gd (hT h26 a0 = 1) <|
  gd (hT h26 (hR h26 a0 6) = 10) <|
  lq (wR h26 a0 7 (hR h26 (hR h26 a0 6) 0)) fun h29 =>
  gd (hT h29 a0 = 1) <|
  gd (hT h29 (hR h29 a0 6) = 10) <|
  lq (wR h29 a0 8 (hR h29 (hR h29 a0 6) 1)) fun h32 =>
  gd (hT h32 a0 = 1) <|
  gd (hT h32 (hR h32 a0 5) = 9) <|
  lq (wR h32 a0 9 (hR h32 (hR h32 a0 5) 2)) fun h35 =>
  some h35
def f_Sim_init (h : AH) (a0 : Nat) : Option AH :=
  gd (hT h a0 = 13) <|
  lq (wI h a0 1 (nI 50)) fun h2 =>
  gd (hT h2 a0 = 13) <|
  lq (wI h2 a0 5 (nI 20)) fun h4 =>
  gd (hT h4 a0 = 13) <|
  lq (wI h4 a0 6 (nI 1)) fun h6 =>
  lq (hA h6 101 (ix (nI 12))) fun h7 =>
  gd (hT h7 (hN h6) = 101 ∧ inb (nI 0) (hL h7 (hN h6))) <|
  lq (wI h7 (hN h6) (ix (nI 0)) (nI 1)) fun h9 =>
  gd (hT h9 (hN h6) = 101 ∧ inb (nI 1) (hL h9 (hN h6))) <|
  lq (wI h9 (hN h6) (ix (nI 1)) (nI 1)) fun h11 =>
  gd (hT h11 (hN h6) = 101 ∧ inb (nI 2) (hL h11 (hN h6))) <|
  lq (wI h11 (hN h6) (ix (nI 2)) (nI 1)) fun h13 =>
  gd (hT h13 (hN h6) = 101 ∧ inb (nI 3) (hL h13 (hN h6))) <|
  lq (wI h13 (hN h6) (ix (nI 3)) (nI 1)) fun h15 =>
  gd (hT h15 (hN h6) = 101 ∧ inb (nI 4) (hL h15 (hN h6))) <|
  lq (wI h15 (hN h6) (ix (nI 4)) (nI 1)) fun h17 =>
  gd (hT h17 (hN h6) = 101 ∧ inb (nI 5) (hL h17 (hN h6))) <|
  lq (wI h17 (hN h6) (ix (nI 5)) (nI 1)) fun h19 =>
  gd (hT h19 (hN h6) = 101 ∧ inb (nI 6) (hL h19 (hN h6))) <|
  lq (wI h19 (hN h6) (ix (nI 6)) (nI 1)) fun h21 =>
  gd (hT h21 (hN h6) = 101 ∧ inb (nI 7) (hL h21 (hN h6))) <|
  lq (wI h21 (hN h6) (ix (nI 7)) (nI 1)) fun h23 =>
  gd (hT h23 (hN h6) = 101 ∧ inb (nI 8) (hL h23 (hN h6))) <|
  lq (wI h23 (hN h6) (ix (nI 8)) (nI 1)) fun h25 =>
  gd (hT h25 (hN h6) = 101 ∧ inb (nI 9) (hL h25 (hN h6))) <|
  lq (wI h25 (hN h6) (ix (nI 9)) (nI 1)) fun h27 =>
  gd (hT h27 (hN h6) = 101 ∧ inb (nI 10) (hL h27 (hN h6))) <|
  lq (wI h27 (hN h6) (ix (nI 10)) (nI 1)) fun h29 =>
  gd (hT h29 (hN h6) = 101 ∧ inb (nI 11) (hL h29 (hN h6))) <|
  lq (wI h29 (hN h6) (ix (nI 11)) (nI 1)) fun h31 =>
  gd (hT h31 a0 = 13) <|
  lq (wR h31 a0 7 (hN h6)) fun h33 =>
  lq (hA h33 101 (ix (nI 4))) fun h34 =>
  gd (hT h34 (hN h33) = 101 ∧ inb (nI 0) (hL h34 (hN h33))) <|
  lq (wI h34 (hN h33) (ix (nI 0)) (nI 8)) fun h36 =>
  gd (hT h36 (hN h33) = 101 ∧ inb (nI 1) (hL h36 (hN h33))) <|
  lq (wI h36 (hN h33) (ix (nI 1)) (nI 5)) fun h38 =>
  gd (hT h38 (hN h33) = 101 ∧ inb (nI 2) (hL h38 (hN h33))) <|
  lq (wI h38 (hN h33) (ix (nI 2)) (nI 3)) fun h40 =>
  gd (hT h40 (hN h33) = 101 ∧ inb (nI 3) (hL h40 (hN h33))) <|
  lq (wI h40 (hN h33) (ix (nI 3)) (nI 1)) fun h42 =>
  gd (hT h42 a0 = 13) <|
  lq (wR h42 a0 8 (hN h33)) fun h44 =>
  lq (hA h44 101 (ix (nI 4))) fun h45 =>
  gd (hT h45 a0 = 13) <|
  lq (wR h45 a0 9 (hN h44)) fun h47 =>
  lq (hA h47 101 (ix (nI 4))) fun h48 =>
  gd (hT h48 a0 = 13) <|
  lq (wR h48 a0 10 (hN h47)) fun h50 =>
  lq (hA h50 101 (ix (nI 4))) fun h51 =>
  gd (hT h51 a0 = 13) <|
  lq (wR h51 a0 11 (hN h50)) fun h53 =>
  lq (hA h53 109 (ix (nI 0))) fun h54 =>
  gd (hT h54 a0 = 13) <|
  lq (wR h54 a0 12 (hN h53)) fun h56 =>
  lq (hA h56 101 (ix (nI 0))) fun h57 =>
  gd (hT h57 a0 = 13) <|
  lq (wR h57 a0 13 (hN h56)) fun h59 =>
  lq (hA h59 110 (ix (nI 0))) fun h60 =>
  gd (hT h60 a0 = 13) <|
  lq (wR h60 a0 14 (hN h59)) fun h62 =>
  lq (hA h62 109 (ix (nI 0))) fun h63 =>
  gd (hT h63 a0 = 13) <|
  lq (wR h63 a0 15 (hN h62)) fun h65 =>
  lq (hA h65 109 (ix (nI 0))) fun h66 =>
  gd (hT h66 a0 = 13) <|
  lq (wR h66 a0 16 (hN h65)) fun h68 =>
  lq (hA h68 109 (ix (nI 0))) fun h69 =>
  gd (hT h69 a0 = 13) <|
  lq (wR h69 a0 17 (hN h68)) fun h71 =>
  some h71
def f_Law_cell (h : AH) (a0 : Nat) (a1 : Int32) : Option (AH × Int32) :=
  gd (hT h a0 = 112) <|
  if (nI (hL h a0)) ≤ a1 then
    some (h, ((nI 790386105) * (a1 + (nI 3))))
  else
    gd (hT h a0 = 112 ∧ inb a1 (hL h a0)) <|
    some (h, (hI h a0 (ix a1)))
def f_Law_below (h : AH) (a0 : Int32) (a1 : Int32) : Option (AH × Int32) :=
  gd (¬ a1 = 0) <|
  some (h, ((a0 &&& (nI 2147483647)) - (a0 &&& (nI 2147483647)) / a1 * a1))
def f_Law_chosen_b669 (k591 : AH → Nat → Nat → Int32 → Int32 → Int32 → Int32 → Option (AH × Nat)) (h : AH) (a0 : Nat) (a1 : Nat) (a4 : Int32) (a5 : Int32) (a6 : Int32) (a7 : Int32) (a8 : Int32) (s0 : Nat) (s1 : Int32) (s2 : Nat) (s3 : Nat) (s4 : Int32) (s5 : Int32) : Option (AH × Nat) :=
  gd (hT h s3 = 101 ∧ inb s4 (hL h s3)) <|
  lq (wI h s3 (ix s4) s5) fun h2 =>
  bn (f_Law_below h2 (a8 >>> ((nI 3) &&& 31)) (nI 4)) fun h3 r4 =>
  gd (hT h3 s2 = 101 ∧ inb (nI 2) (hL h3 s2)) <|
  lq (wI h3 s2 (ix (nI 2)) r4) fun h6 =>
  bn (f_Law_below h6 (a8 >>> ((nI 4) &&& 31)) (nI 4)) fun h7 r8 =>
  gd (hT h7 s2 = 101 ∧ inb (nI 3) (hL h7 s2)) <|
  lq (wI h7 s2 (ix (nI 3)) r8) fun h10 =>
  bn (f_Law_below h10 (a8 >>> ((nI 5) &&& 31)) (nI 400)) fun h11 r12 =>
  gd (hT h11 s2 = 101 ∧ inb (nI 4) (hL h11 s2)) <|
  lq (wI h11 s2 (ix (nI 4)) r12) fun h14 =>
  bn (f_Law_below h14 (a8 >>> ((nI 6) &&& 31)) (nI 9)) fun h15 r16 =>
  gd (hT h15 s2 = 101 ∧ inb (nI 5) (hL h15 s2)) <|
  lq (wI h15 s2 (ix (nI 5)) r16) fun h18 =>
  bn (f_Law_below h18 (a8 >>> ((nI 1) &&& 31)) (nI 60)) fun h19 r20 =>
  gd (hT h19 s2 = 101 ∧ inb (nI 6) (hL h19 s2)) <|
  lq (wI h19 s2 (ix (nI 6)) r20) fun h22 =>
  bn (f_Law_below h22 (a8 >>> ((nI 7) &&& 31)) (nI 400)) fun h23 r24 =>
  gd (hT h23 s2 = 101 ∧ inb (nI 7) (hL h23 s2)) <|
  lq (wI h23 s2 (ix (nI 7)) r24) fun h26 =>
  gd (hT h26 s0 = 109 ∧ inb s1 (hL h26 s0) ∧ hT h26 s2 = 101) <|
  lq (wR h26 s0 (ix s1) s2) fun h28 =>
  lq (a7 + (nI 1)) fun x29 =>
  k591 h28 a0 a1 a4 a5 a6 x29
def f_Law_chosen_b591 (k591 : AH → Nat → Nat → Int32 → Int32 → Int32 → Int32 → Option (AH × Nat)) (h : AH) (a0 : Nat) (a1 : Nat) (a4 : Int32) (a5 : Int32) (a6 : Int32) (a7 : Int32)  : Option (AH × Nat) :=
  if a6 ≤ a7 then
    some (h, a1)
  else
    bn (f_Law_cell h a0 ((nI 6) + a7)) fun h2 r3 =>
    lq (r3 + ((nI 113) * a7)) fun x4 =>
    bn (f_Law_below h2 x4 (nI 4)) fun h5 r6 =>
    lq (r6 - r6 / (nI 3) * (nI 3)) fun x7 =>
    gd (hT h5 a1 = 13) <|
    lq (hA h5 101 (ix (nI 8))) fun h9 =>
    gd (hT h9 (hN h5) = 101 ∧ inb (nI 0) (hL h9 (hN h5))) <|
    lq (wI h9 (hN h5) (ix (nI 0)) x7) fun h11 =>
    if ¬ x7 = (nI 1) then
      bn (f_Law_below h11 (x4 >>> ((nI 2) &&& 31)) a4) fun h13 r14 =>
      f_Law_chosen_b669 k591 h13 a0 a1 a4 a5 a6 a7 x4 (hR h5 a1 17) a7 (hN h5) (hN h5) (nI 1) r14
    else
      bn (f_Law_below h11 (x4 >>> ((nI 2) &&& 31)) a5) fun h15 r16 =>
      f_Law_chosen_b669 k591 h15 a0 a1 a4 a5 a6 a7 x4 (hR h5 a1 17) a7 (hN h5) (hN h5) (nI 1) r16
def f_Law_chosen_l591 : Nat → AH → Nat → Nat → Int32 → Int32 → Int32 → Int32 → Option (AH × Nat)
  | 0, _, _, _, _, _, _, _ => none
  | n + 1, h, a0, a1, a4, a5, a6, a7 => f_Law_chosen_b591 (f_Law_chosen_l591  n) h a0 a1 a4 a5 a6 a7
def f_Law_chosen_b560 (k518 : AH → Nat → Nat → Int32 → Int32 → Int32 → Option (AH × Nat)) (h : AH) (a0 : Nat) (a1 : Nat) (a4 : Int32) (a5 : Int32) (a6 : Int32)  : Option (AH × Nat) :=
  lq (a6 + (nI 1)) fun x1 =>
  k518 h a0 a1 a4 a5 x1
def f_Law_chosen_b518 (k518 : AH → Nat → Nat → Int32 → Int32 → Int32 → Option (AH × Nat)) (h : AH) (a0 : Nat) (a1 : Nat) (a4 : Int32) (a5 : Int32) (a6 : Int32)  : Option (AH × Nat) :=
  if (nI 4) ≤ a6 then
    bn (f_Law_cell h a0 (nI 7)) fun h2 r3 =>
    bn (f_Law_below h2 r3 (nI 8)) fun h4 r5 =>
    gd (¬ r5 < 0 ∧ ix r5 ≤ 65536) <|
    lq (hA h4 109 (ix r5)) fun h7 =>
    gd (hT h7 a1 = 13) <|
    lq (wR h7 a1 17 (hN h4)) fun h9 =>
    f_Law_chosen_l591  FU h9 a0 a1 a4 a5 r5 (nI 0)
  else
    bn (f_Law_cell h a0 a6) fun h10 r11 =>
    bn (f_Law_below h10 (r11 >>> ((nI 6) &&& 31)) (nI 3)) fun h12 r13 =>
    if ¬ r13 = 0 then
      f_Law_chosen_b560 k518 h12 a0 a1 a4 a5 a6
    else
      gd (hT h12 a1 = 13) <|
      bn (f_Law_cell h12 a0 a6) fun h16 r17 =>
      bn (f_Law_below h16 (r17 >>> ((nI 1) &&& 31)) (nI 51)) fun h18 r19 =>
      gd (hT h18 (hR h12 a1 8) = 101 ∧ inb a6 (hL h18 (hR h12 a1 8))) <|
      lq (wI h18 (hR h12 a1 8) (ix a6) r19) fun h21 =>
      f_Law_chosen_b560 k518 h21 a0 a1 a4 a5 a6
def f_Law_chosen_l518 : Nat → AH → Nat → Nat → Int32 → Int32 → Int32 → Option (AH × Nat)
  | 0, _, _, _, _, _, _ => none
  | n + 1, h, a0, a1, a4, a5, a6 => f_Law_chosen_b518 (f_Law_chosen_l518  n) h a0 a1 a4 a5 a6
def f_Law_chosen_b509 (k468 : AH → Nat → Nat → Int32 → Int32 → Int32 → Option (AH × Nat)) (h : AH) (a0 : Nat) (a1 : Nat) (a4 : Int32) (a5 : Int32) (a6 : Int32)  : Option (AH × Nat) :=
  lq (a6 + (nI 1)) fun x1 =>
  k468 h a0 a1 a4 a5 x1
def f_Law_chosen_b468 (k468 : AH → Nat → Nat → Int32 → Int32 → Int32 → Option (AH × Nat)) (h : AH) (a0 : Nat) (a1 : Nat) (a4 : Int32) (a5 : Int32) (a6 : Int32)  : Option (AH × Nat) :=
  if (nI 12) ≤ a6 then
    f_Law_chosen_l518  FU h a0 a1 a4 a5 (nI 0)
  else
    bn (f_Law_cell h a0 a6) fun h2 r3 =>
    bn (f_Law_below h2 (r3 >>> ((nI 5) &&& 31)) (nI 3)) fun h4 r5 =>
    if ¬ r5 = 0 then
      f_Law_chosen_b509 k468 h4 a0 a1 a4 a5 a6
    else
      gd (hT h4 a1 = 13) <|
      bn (f_Law_cell h4 a0 a6) fun h8 r9 =>
      bn (f_Law_below h8 (r9 >>> ((nI 3) &&& 31)) (nI 4)) fun h10 r11 =>
      gd (hT h10 (hR h4 a1 7) = 101 ∧ inb a6 (hL h10 (hR h4 a1 7))) <|
      lq (wI h10 (hR h4 a1 7) (ix a6) r11) fun h13 =>
      f_Law_chosen_b509 k468 h13 a0 a1 a4 a5 a6
def f_Law_chosen_l468 : Nat → AH → Nat → Nat → Int32 → Int32 → Int32 → Option (AH × Nat)
  | 0, _, _, _, _, _, _ => none
  | n + 1, h, a0, a1, a4, a5, a6 => f_Law_chosen_b468 (f_Law_chosen_l468  n) h a0 a1 a4 a5 a6
def f_Law_chosen_b465 (h : AH) (a0 : Nat) (a1 : Nat) (a4 : Int32) (a5 : Int32)  : Option (AH × Nat) :=
  f_Law_chosen_l468  FU h a0 a1 a4 a5 (nI 0)
def f_Law_chosen_b332 (k332 : AH → Nat → Nat → Int32 → Int32 → Int32 → Option (AH × Nat)) (h : AH) (a0 : Nat) (a1 : Nat) (a4 : Int32) (a5 : Int32) (a6 : Int32)  : Option (AH × Nat) :=
  if a5 ≤ a6 then
    bn (f_Law_cell h a0 (nI 3)) fun h2 r3 =>
    bn (f_Law_below h2 r3 (nI 3)) fun h4 r5 =>
    if r5 ≤ 0 then
      f_Law_chosen_b465  h4 a0 a1 a4 a5
    else
      bn (f_Law_cell h4 a0 (nI 3)) fun h7 r8 =>
      bn (f_Law_below h7 (r8 >>> ((nI 2) &&& 31)) (nI 60)) fun h9 r10 =>
      gd (hT h9 a1 = 13) <|
      lq (wI h9 a1 5 ((nI 1) + r10)) fun h12 =>
      bn (f_Law_cell h12 a0 (nI 4)) fun h13 r14 =>
      bn (f_Law_below h13 (r14 >>> ((nI 2) &&& 31)) (nI 6)) fun h15 r16 =>
      gd (hT h15 a1 = 13) <|
      lq (wI h15 a1 6 r16) fun h18 =>
      f_Law_chosen_b465  h18 a0 a1 a4 a5
  else
    gd (hT h a1 = 13) <|
    lq (hA h 101 (ix (nI 7))) fun h20 =>
    bn (f_Law_cell h20 a0 (nI 14)) fun h21 r22 =>
    bn (f_Law_below h21 (r22 >>> (((nI 2) * a6) &&& 31)) (nI 40)) fun h23 r24 =>
    gd (hT h23 (hN h) = 101 ∧ inb (nI 0) (hL h23 (hN h))) <|
    lq (wI h23 (hN h) (ix (nI 0)) ((nI 1) + r24)) fun h26 =>
    bn (f_Law_cell h26 a0 (nI 15)) fun h27 r28 =>
    bn (f_Law_below h27 (r28 >>> (((nI 2) * a6) &&& 31)) (nI 9)) fun h29 r30 =>
    gd (hT h29 (hN h) = 101 ∧ inb (nI 1) (hL h29 (hN h))) <|
    lq (wI h29 (hN h) (ix (nI 1)) ((nI 1) + r30)) fun h32 =>
    gd (hT h32 (hN h) = 101 ∧ inb (nI 2) (hL h32 (hN h))) <|
    lq (wI h32 (hN h) (ix (nI 2)) (nI 0)) fun h34 =>
    gd (hT h34 (hN h) = 101 ∧ inb (nI 3) (hL h34 (hN h))) <|
    lq (wI h34 (hN h) (ix (nI 3)) (nI 0)) fun h36 =>
    gd (hT h36 (hN h) = 101 ∧ inb (nI 4) (hL h36 (hN h))) <|
    lq (wI h36 (hN h) (ix (nI 4)) (nI 0)) fun h38 =>
    gd (hT h38 (hN h) = 101 ∧ inb (nI 5) (hL h38 (hN h))) <|
    lq (wI h38 (hN h) (ix (nI 5)) (nI 0)) fun h40 =>
    gd (hT h40 (hN h) = 101 ∧ inb (nI 6) (hL h40 (hN h))) <|
    lq (wI h40 (hN h) (ix (nI 6)) (nI 0)) fun h42 =>
    gd (hT h42 (hR h a1 16) = 109 ∧ inb a6 (hL h42 (hR h a1 16)) ∧ hT h42 (hN h) = 101) <|
    lq (wR h42 (hR h a1 16) (ix a6) (hN h)) fun h44 =>
    lq (a6 + (nI 1)) fun x45 =>
    k332 h44 a0 a1 a4 a5 x45
def f_Law_chosen_l332 : Nat → AH → Nat → Nat → Int32 → Int32 → Int32 → Option (AH × Nat)
  | 0, _, _, _, _, _, _ => none
  | n + 1, h, a0, a1, a4, a5, a6 => f_Law_chosen_b332 (f_Law_chosen_l332  n) h a0 a1 a4 a5 a6
def f_Law_chosen_b209 (k209 : AH → Nat → Nat → Int32 → Int32 → Int32 → Int32 → Option (AH × Nat)) (h : AH) (a0 : Nat) (a1 : Nat) (a2 : Int32) (a3 : Int32) (a4 : Int32) (a5 : Int32)  : Option (AH × Nat) :=
  if a4 ≤ a5 then
    bn (f_Law_cell h a0 (nI 13)) fun h2 r3 =>
    bn (f_Law_below h2 r3 (nI 3)) fun h4 r5 =>
    lq ((nI 1) + r5) fun x6 =>
    gd (¬ x6 < 0 ∧ ix x6 ≤ 65536) <|
    lq (hA h4 109 (ix x6)) fun h8 =>
    gd (hT h8 a1 = 13) <|
    lq (wR h8 a1 16 (hN h4)) fun h10 =>
    f_Law_chosen_l332  FU h10 a0 a1 a4 x6 (nI 0)
  else
    gd (hT h a1 = 13) <|
    lq (hA h 101 (ix (nI 7))) fun h12 =>
    bn (f_Law_cell h12 a0 ((nI 9) + a5)) fun h13 r14 =>
    bn (f_Law_below h13 r14 a2) fun h15 r16 =>
    gd (hT h15 (hN h) = 101 ∧ inb (nI 0) (hL h15 (hN h))) <|
    lq (wI h15 (hN h) (ix (nI 0)) r16) fun h18 =>
    bn (f_Law_cell h18 a0 ((nI 9) + a5)) fun h19 r20 =>
    bn (f_Law_below h19 (r20 >>> ((nI 2) &&& 31)) a3) fun h21 r22 =>
    gd (hT h21 (hN h) = 101 ∧ inb (nI 1) (hL h21 (hN h))) <|
    lq (wI h21 (hN h) (ix (nI 1)) r22) fun h24 =>
    bn (f_Law_cell h24 a0 ((nI 9) + a5)) fun h25 r26 =>
    bn (f_Law_below h25 (r26 >>> ((nI 3) &&& 31)) (nI 9)) fun h27 r28 =>
    gd (hT h27 (hN h) = 101 ∧ inb (nI 2) (hL h27 (hN h))) <|
    lq (wI h27 (hN h) (ix (nI 2)) ((nI 1) + r28)) fun h30 =>
    gd (hT h30 (hN h) = 101 ∧ inb (nI 3) (hL h30 (hN h))) <|
    lq (wI h30 (hN h) (ix (nI 3)) (nI 20)) fun h32 =>
    gd (hT h32 (hN h) = 101 ∧ inb (nI 4) (hL h32 (hN h))) <|
    lq (wI h32 (hN h) (ix (nI 4)) (nI 0)) fun h34 =>
    gd (hT h34 (hN h) = 101 ∧ inb (nI 5) (hL h34 (hN h))) <|
    lq (wI h34 (hN h) (ix (nI 5)) (nI 0)) fun h36 =>
    gd (hT h36 (hN h) = 101 ∧ inb (nI 6) (hL h36 (hN h))) <|
    lq (wI h36 (hN h) (ix (nI 6)) (nI 0)) fun h38 =>
    gd (hT h38 (hR h a1 15) = 109 ∧ inb a5 (hL h38 (hR h a1 15)) ∧ hT h38 (hN h) = 101) <|
    lq (wR h38 (hR h a1 15) (ix a5) (hN h)) fun h40 =>
    lq (a5 + (nI 1)) fun x41 =>
    k209 h40 a0 a1 a2 a3 a4 x41
def f_Law_chosen_l209 : Nat → AH → Nat → Nat → Int32 → Int32 → Int32 → Int32 → Option (AH × Nat)
  | 0, _, _, _, _, _, _, _ => none
  | n + 1, h, a0, a1, a2, a3, a4, a5 => f_Law_chosen_b209 (f_Law_chosen_l209  n) h a0 a1 a2 a3 a4 a5
def f_Law_chosen_b149 (k149 : AH → Nat → Nat → Int32 → Int32 → Int32 → Option (AH × Nat)) (h : AH) (a0 : Nat) (a1 : Nat) (a2 : Int32) (a3 : Int32) (a4 : Int32)  : Option (AH × Nat) :=
  if a3 ≤ a4 then
    bn (f_Law_cell h a0 (nI 8)) fun h2 r3 =>
    bn (f_Law_below h2 r3 (nI 4)) fun h4 r5 =>
    lq ((nI 1) + r5) fun x6 =>
    gd (¬ x6 < 0 ∧ ix x6 ≤ 65536) <|
    lq (hA h4 109 (ix x6)) fun h8 =>
    gd (hT h8 a1 = 13) <|
    lq (wR h8 a1 15 (hN h4)) fun h10 =>
    f_Law_chosen_l209  FU h10 a0 a1 a2 a3 x6 (nI 0)
  else
    gd (hT h a1 = 13) <|
    bn (f_Law_cell h a0 ((nI 5) + a4)) fun h12 r13 =>
    bn (f_Law_below h12 r13 (nI 60)) fun h14 r15 =>
    gd (hT h14 (hR h a1 13) = 101 ∧ inb a4 (hL h14 (hR h a1 13))) <|
    lq (wI h14 (hR h a1 13) (ix a4) ((nI 1) + r15)) fun h17 =>
    lq (a4 + (nI 1)) fun x18 =>
    k149 h17 a0 a1 a2 a3 x18
def f_Law_chosen_l149 : Nat → AH → Nat → Nat → Int32 → Int32 → Int32 → Option (AH × Nat)
  | 0, _, _, _, _, _, _ => none
  | n + 1, h, a0, a1, a2, a3, a4 => f_Law_chosen_b149 (f_Law_chosen_l149  n) h a0 a1 a2 a3 a4
def f_Law_chosen_b105 (k30 : AH → Nat → Nat → Int32 → Int32 → Option (AH × Nat)) (h : AH) (a0 : Nat) (a1 : Nat) (a2 : Int32) (a3 : Int32) (s0 : Nat) (s1 : Int32) (s2 : Nat) (s3 : Nat) (s4 : Int32) (s5 : Int32) (s6 : Int32) (s7 : Int32) : Option (AH × Nat) :=
  bn (f_Law_below h s6 s7) fun h1 r2 =>
  gd (hT h1 s3 = 101 ∧ inb s4 (hL h1 s3)) <|
  lq (wI h1 s3 (ix s4) (s5 + r2)) fun h4 =>
  gd (hT h4 s0 = 109 ∧ inb s1 (hL h4 s0) ∧ hT h4 s2 = 101) <|
  lq (wR h4 s0 (ix s1) s2) fun h6 =>
  lq (a3 + (nI 1)) fun x7 =>
  k30 h6 a0 a1 a2 x7
def f_Law_chosen_b30 (k30 : AH → Nat → Nat → Int32 → Int32 → Option (AH × Nat)) (h : AH) (a0 : Nat) (a1 : Nat) (a2 : Int32) (a3 : Int32)  : Option (AH × Nat) :=
  if a2 ≤ a3 then
    bn (f_Law_cell h a0 (nI 4)) fun h2 r3 =>
    bn (f_Law_below h2 r3 (nI 3)) fun h4 r5 =>
    lq ((nI 1) + r5) fun x6 =>
    gd (¬ x6 < 0 ∧ ix x6 ≤ 65536) <|
    lq (hA h4 101 (ix x6)) fun h8 =>
    gd (hT h8 a1 = 13) <|
    lq (wR h8 a1 13 (hN h4)) fun h10 =>
    gd ((nI 0) = 0 ∧ ¬ x6 < 0 ∧ ix x6 ≤ 64) <|
    lq (hMA h10 110 109 (ix x6)) fun h12 =>
    gd (hT h12 a1 = 13) <|
    lq (wR h12 a1 14 (hN h10)) fun h14 =>
    f_Law_chosen_l149  FU h14 a0 a1 a2 x6 (nI 0)
  else
    gd (hT h a1 = 13) <|
    lq (hA h 101 (ix (nI 3))) fun h16 =>
    bn (f_Law_cell h16 a0 ((nI 1) + a3)) fun h17 r18 =>
    bn (f_Law_below h17 r18 (nI 100)) fun h19 r20 =>
    gd (hT h19 (hN h) = 101 ∧ inb (nI 0) (hL h19 (hN h))) <|
    lq (wI h19 (hN h) (ix (nI 0)) r20) fun h22 =>
    bn (f_Law_cell h22 a0 ((nI 1) + a3)) fun h23 r24 =>
    bn (f_Law_below h23 (r24 >>> ((nI 2) &&& 31)) (nI 21)) fun h25 r26 =>
    gd (hT h25 (hN h) = 101 ∧ inb (nI 1) (hL h25 (hN h))) <|
    lq (wI h25 (hN h) (ix (nI 1)) r26) fun h28 =>
    bn (f_Law_cell h28 a0 ((nI 1) + a3)) fun h29 r30 =>
    bn (f_Law_cell h29 a0 (nI 2)) fun h31 r32 =>
    bn (f_Law_below h31 r32 (nI 2)) fun h33 r34 =>
    if ¬ r34 = 0 then
      f_Law_chosen_b105 k30 h33 a0 a1 a2 a3 (hR h a1 12) a3 (hN h) (hN h) (nI 2) (nI 1) (r30 >>> ((nI 4) &&& 31)) (nI 3)
    else
      f_Law_chosen_b105 k30 h33 a0 a1 a2 a3 (hR h a1 12) a3 (hN h) (hN h) (nI 2) (nI 1) (r30 >>> ((nI 4) &&& 31)) (nI 9)
def f_Law_chosen_l30 : Nat → AH → Nat → Nat → Int32 → Int32 → Option (AH × Nat)
  | 0, _, _, _, _, _ => none
  | n + 1, h, a0, a1, a2, a3 => f_Law_chosen_b30 (f_Law_chosen_l30  n) h a0 a1 a2 a3
def f_Law_chosen (h : AH) (a0 : Nat) : Option (AH × Nat) :=
  lq (hA h 13 18) fun h1 =>
  gd (hT h1 (hN h) = 13) <|
  bv (f_Sim_init h1 (hN h)) fun h3 =>
  lq (hN h) fun x4 =>
  bn (f_Law_cell h3 a0 (nI 0)) fun h5 r6 =>
  bn (f_Law_below h5 r6 (nI 3)) fun h7 r8 =>
  lq ((nI 1) + r8) fun x9 =>
  gd (¬ x9 < 0 ∧ ix x9 ≤ 65536) <|
  lq (hA h7 109 (ix x9)) fun h11 =>
  gd (hT h11 x4 = 13) <|
  lq (wR h11 x4 12 (hN h7)) fun h13 =>
  f_Law_chosen_l30  FU h13 a0 x4 x9 (nI 0)
def f_ASB_init (h : AH) (a0 : Nat) (a1 : Int32) : Option AH :=
  gd (hT h a0 = 14) <|
  if (nI 1) = 0 then
    none
  else
    gd (¬ a1 < 0 ∧ ix a1 ≤ 65536) <|
    lq (hA h 102 (ix a1)) fun h4 =>
    gd (hT h4 a0 = 14) <|
    lq (wR h4 a0 0 (hN h)) fun h6 =>
    gd (hT h6 a0 = 14 ∧ KK ≤ a0 ∧ Int8.toInt32 (Int32.toInt8 (nI 0)) = (nI 0)) <|
    lq (wI h6 a0 1 (nI 0)) fun h8 =>
    some h8
def f_SB_init (h : AH) (a0 : Nat) : Option AH :=
  gd (hT h a0 = 14) <|
  bv (f_ASB_init h a0 (nI 16)) fun h2 =>
  some h2
def f_ArS_newLength_b21 (h : AH) (a0 : Int32) (a1 : Int32)  : Option (AH × Int32) :=
  none
def f_ArS_newLength (h : AH) (a0 : Int32) (a1 : Int32) (a2 : Int32) : Option (AH × Int32) :=
  bn (f_Math_max h a1 a2) fun h1 r2 =>
  lq (a0 + r2) fun x3 =>
  if x3 ≤ (nI 0) then
    f_ArS_newLength_b21  h1 a0 a1
  else
    if (nI 2147483639) < x3 then
      f_ArS_newLength_b21  h1 a0 a1
    else
      some (h1, x3)
def f_ASB_newCapacity (h : AH) (a0 : Nat) (a1 : Int32) : Option (AH × Int32) :=
  gd (hT h a0 = 14) <|
  gd (hT h (hR h a0 0) = 102) <|
  lq (nI (hL h (hR h a0 0))) fun x3 =>
  lq (a1 <<< ((hI h a0 1) &&& 31)) fun x4 =>
  lq (x4 - x3) fun x5 =>
  bn (f_ArS_newLength h x3 x5 (x3 + ((nI 2) <<< ((hI h a0 1) &&& 31)))) fun h6 r7 =>
  if ¬ r7 = (nI 2147483647) then
    gd (hT h6 a0 = 14) <|
    some (h6, (r7 >>> ((hI h6 a0 1) &&& 31)))
  else
    none
def f_Math_min (h : AH) (a0 : Int32) (a1 : Int32) : Option (AH × Int32) :=
  if a1 < a0 then
    some (h, a1)
  else
    some (h, a0)
def f_Arrays_copyOf (h : AH) (a0 : Nat) (a1 : Int32) : Option (AH × Nat) :=
  gd (hT h a0 = 102) <|
  if ¬ a1 = (nI (hL h a0)) then
    gd (¬ a1 < 0 ∧ ix a1 ≤ 65536) <|
    lq (hA h 102 (ix a1)) fun h4 =>
    lq (hN h) fun x5 =>
    gd (hT h4 a0 = 102) <|
    bn (f_Math_min h4 (nI (hL h4 a0)) a1) fun h7 r8 =>
    gd (hT h7 a0 = 102 ∧ hT h7 x5 = 102 ∧ KK ≤ x5 ∧ ¬ (nI 0) < 0 ∧ ¬ (nI 0) < 0 ∧ ¬ r8 < 0 ∧ ix (nI 0) + ix r8 ≤ hL h7 a0 ∧ ix (nI 0) + ix r8 ≤ hL h7 x5) <|
    lq (wCp h7 a0 (ix (nI 0)) x5 (ix (nI 0)) (ix r8)) fun h10 =>
    some (h10, x5)
  else
    lq (hCl h a0) fun h11 =>
    gd (hT h11 (hN h) = 102) <|
    some (h11, (hN h))
def f_ASB_ensureCapacityInternal (h : AH) (a0 : Nat) (a1 : Int32) : Option AH :=
  gd (hT h a0 = 14) <|
  gd (hT h (hR h a0 0) = 102) <|
  lq ((nI (hL h (hR h a0 0))) >>> ((hI h a0 1) &&& 31)) fun x3 =>
  if (a1 - x3) ≤ 0 then
    some h
  else
    bn (f_ASB_newCapacity h a0 a1) fun h5 r6 =>
    gd (hT h5 a0 = 14) <|
    bn (f_Arrays_copyOf h5 (hR h a0 0) (r6 <<< ((hI h5 a0 1) &&& 31))) fun h8 r9 =>
    gd (hT h8 a0 = 14) <|
    lq (wR h8 a0 0 r9) fun h11 =>
    some h11
def f_ASB_inflateIfNeededFor (h : AH) (a0 : Nat) (a1 : Nat) : Option AH :=
  if (nI 1) = 0 then
    some h
  else
    gd (hT h a0 = 14) <|
    gd (hT h a1 = 15) <|
    bn (f_String_coder h a1) fun h4 r5 =>
    if (hI h a0 1) = r5 then
      some h4
    else
      none
def f_Lat_inflate (h : AH) (a0 : Nat) (a1 : Int32) (a2 : Nat) (a3 : Int32) (a4 : Int32) : Option AH :=
  none
def f_String_getBytes (h : AH) (a0 : Nat) (a1 : Nat) (a2 : Int32) (a3 : Int32) : Option AH :=
  gd (hT h a0 = 15) <|
  bn (f_String_coder h a0) fun h2 r3 =>
  if ¬ r3 = a3 then
    gd (hT h2 a0 = 15) <|
    gd (hT h2 (hR h2 a0 0) = 102) <|
    bv (f_Lat_inflate h2 (hR h2 a0 0) (nI 0) a1 a2 (nI (hL h2 (hR h2 a0 0)))) fun h7 =>
    some h7
  else
    gd (hT h2 a0 = 15) <|
    gd (hT h2 (hR h2 a0 0) = 102) <|
    gd (hT h2 (hR h2 a0 0) = 102 ∧ hT h2 a1 = 102 ∧ KK ≤ a1 ∧ ¬ (nI 0) < 0 ∧ ¬ (a2 <<< (a3 &&& 31)) < 0 ∧ ¬ (nI (hL h2 (hR h2 a0 0))) < 0 ∧ ix (nI 0) + ix (nI (hL h2 (hR h2 a0 0))) ≤ hL h2 (hR h2 a0 0) ∧ ix (a2 <<< (a3 &&& 31)) + ix (nI (hL h2 (hR h2 a0 0))) ≤ hL h2 a1) <|
    lq (wCp h2 (hR h2 a0 0) (ix (nI 0)) a1 (ix (a2 <<< (a3 &&& 31))) (ix (nI (hL h2 (hR h2 a0 0))))) fun h11 =>
    some h11
def f_ASB_putStringAt (h : AH) (a0 : Nat) (a1 : Int32) (a2 : Nat) : Option AH :=
  gd (hT h a0 = 14) <|
  bv (f_ASB_inflateIfNeededFor h a0 a2) fun h2 =>
  gd (hT h2 a0 = 14) <|
  gd (hT h2 a2 = 15) <|
  bv (f_String_getBytes h2 a2 (hR h2 a0 0) a1 (hI h2 a0 1)) fun h5 =>
  some h5
def f_ASB_append_s (h : AH) (a0 : Nat) (a1 : Nat) : Option (AH × Nat) :=
  gd (¬ hT h a1 = 0) <|
  gd (hT h a1 = 15) <|
  bn (f_String_length h a1) fun h3 r4 =>
  gd (hT h3 a0 = 14) <|
  bv (f_ASB_ensureCapacityInternal h3 a0 ((hI h3 a0 3) + r4)) fun h6 =>
  gd (hT h6 a0 = 14) <|
  bv (f_ASB_putStringAt h6 a0 (hI h6 a0 3) a1) fun h8 =>
  gd (hT h8 a0 = 14) <|
  lq (wI h8 a0 3 ((hI h8 a0 3) + r4)) fun h10 =>
  some (h10, a0)
def f_SB_append_s (h : AH) (a0 : Nat) (a1 : Nat) : Option (AH × Nat) :=
  gd (hT h a0 = 14) <|
  bn (f_ASB_append_s h a0 a1) fun h2 r3 =>
  some (h2, a0)
def f_Integer_stringSize_b16 (k16 : AH → Int32 → Int32 → Int32 → Int32 → Option (AH × Int32)) (h : AH) (a0 : Int32) (a1 : Int32) (a2 : Int32) (a3 : Int32)  : Option (AH × Int32) :=
  if (nI 10) ≤ a3 then
    some (h, ((nI 10) + a1))
  else
    if a0 ≤ a2 then
      lq ((nI 10) * a2) fun x3 =>
      lq (a3 + (nI 1)) fun x4 =>
      k16 h a0 a1 x3 x4
    else
      some (h, (a3 + a1))
def f_Integer_stringSize_l16 : Nat → AH → Int32 → Int32 → Int32 → Int32 → Option (AH × Int32)
  | 0, _, _, _, _, _ => none
  | n + 1, h, a0, a1, a2, a3 => f_Integer_stringSize_b16 (f_Integer_stringSize_l16  n) h a0 a1 a2 a3
def f_Integer_stringSize_b11 (h : AH) (a0 : Int32) (a1 : Int32)  : Option (AH × Int32) :=
  f_Integer_stringSize_l16  FU h a0 a1 (-nI 10) (nI 1)
def f_Integer_stringSize (h : AH) (a0 : Int32) : Option (AH × Int32) :=
  if a0 < 0 then
    f_Integer_stringSize_b11  h a0 (nI 1)
  else
    lq (-a0) fun x2 =>
    f_Integer_stringSize_b11  h x2 (nI 0)
def f_ASB_isLatin1 (h : AH) (a0 : Nat) : Option (AH × Int32) :=
  if (nI 1) = 0 then
    some (h, (nI 0))
  else
    gd (hT h a0 = 14) <|
    if ¬ (hI h a0 1) = 0 then
      some (h, (nI 0))
    else
      some (h, (nI 1))
def f_Integer_getChars_b104 (h : AH) (a2 : Nat) (a5 : Int32) (a6 : Int32)  : Option (AH × Int32) :=
  if a6 = 0 then
    some (h, a5)
  else
    lq (a5 + (-nI 1)) fun x2 =>
    gd (hT h a2 = 102 ∧ KK ≤ a2 ∧ inb x2 (hL h a2)) <|
    lq (wI h a2 (ix x2) (Int8.toInt32 (Int32.toInt8 (nI 45)))) fun h4 =>
    some (h4, x2)
def f_Integer_getChars_b22 (k22 : AH → Int32 → Nat → Int32 → Int32 → Option (AH × Int32)) (h : AH) (a0 : Int32) (a2 : Nat) (a5 : Int32) (a6 : Int32)  : Option (AH × Int32) :=
  if (-nI 100) < a0 then
    lq (a5 + (-nI 1)) fun x2 =>
    gd (hT h 3 = 102 ∧ inb (-a0) (hL h 3)) <|
    gd (hT h a2 = 102 ∧ KK ≤ a2 ∧ inb x2 (hL h a2)) <|
    lq (wI h a2 (ix x2) (Int8.toInt32 (Int32.toInt8 (hI h 3 (ix (-a0)))))) fun h5 =>
    if (-nI 9) ≤ a0 then
      f_Integer_getChars_b104  h5 a2 x2 a6
    else
      lq (x2 + (-nI 1)) fun x7 =>
      gd (hT h5 4 = 102 ∧ inb (-a0) (hL h5 4)) <|
      gd (hT h5 a2 = 102 ∧ KK ≤ a2 ∧ inb x7 (hL h5 a2)) <|
      lq (wI h5 a2 (ix x7) (Int8.toInt32 (Int32.toInt8 (hI h5 4 (ix (-a0)))))) fun h10 =>
      f_Integer_getChars_b104  h10 a2 x7 a6
  else
    lq (a0 / (nI 100)) fun x11 =>
    lq ((x11 * (nI 100)) - a0) fun x12 =>
    lq (a5 + (-nI 1)) fun x13 =>
    gd (hT h 3 = 102 ∧ inb x12 (hL h 3)) <|
    gd (hT h a2 = 102 ∧ KK ≤ a2 ∧ inb x13 (hL h a2)) <|
    lq (wI h a2 (ix x13) (Int8.toInt32 (Int32.toInt8 (hI h 3 (ix x12))))) fun h16 =>
    lq (x13 + (-nI 1)) fun x17 =>
    gd (hT h16 4 = 102 ∧ inb x12 (hL h16 4)) <|
    gd (hT h16 a2 = 102 ∧ KK ≤ a2 ∧ inb x17 (hL h16 a2)) <|
    lq (wI h16 a2 (ix x17) (Int8.toInt32 (Int32.toInt8 (hI h16 4 (ix x12))))) fun h20 =>
    k22 h20 x11 a2 x17 a6
def f_Integer_getChars_l22 : Nat → AH → Int32 → Nat → Int32 → Int32 → Option (AH × Int32)
  | 0, _, _, _, _, _ => none
  | n + 1, h, a0, a2, a5, a6 => f_Integer_getChars_b22 (f_Integer_getChars_l22  n) h a0 a2 a5 a6
def f_Integer_getChars_b12 (h : AH) (a0 : Int32) (a2 : Nat) (a5 : Int32) (s0 : Int32) : Option (AH × Int32) :=
  if ¬ s0 = 0 then
    f_Integer_getChars_l22  FU h a0 a2 a5 s0
  else
    lq (-a0) fun x2 =>
    f_Integer_getChars_l22  FU h x2 a2 a5 s0
def f_Integer_getChars (h : AH) (a0 : Int32) (a1 : Int32) (a2 : Nat) : Option (AH × Int32) :=
  if 0 ≤ a0 then
    f_Integer_getChars_b12  h a0 a2 a1 (nI 0)
  else
    f_Integer_getChars_b12  h a0 a2 a1 (nI 1)
def f_ASB_append_I (h : AH) (a0 : Nat) (a1 : Int32) : Option (AH × Nat) :=
  gd (hT h a0 = 14) <|
  lq (hI h a0 3) fun x2 =>
  bn (f_Integer_stringSize h a1) fun h3 r4 =>
  lq (x2 + r4) fun x5 =>
  gd (hT h3 a0 = 14) <|
  bv (f_ASB_ensureCapacityInternal h3 a0 x5) fun h7 =>
  gd (hT h7 a0 = 14) <|
  bn (f_ASB_isLatin1 h7 a0) fun h9 r10 =>
  if r10 = 0 then
    gd (hT h9 a0 = 14) <|
    none
  else
    gd (hT h9 a0 = 14) <|
    bn (f_Integer_getChars h9 a1 x5 (hR h9 a0 0)) fun h14 r15 =>
    gd (hT h14 a0 = 14) <|
    lq (wI h14 a0 3 x5) fun h17 =>
    some (h17, a0)
def f_SB_append_I (h : AH) (a0 : Nat) (a1 : Int32) : Option (AH × Nat) :=
  gd (hT h a0 = 14) <|
  bn (f_ASB_append_I h a0 a1) fun h2 r3 =>
  some (h2, a0)
def f_Lat_canEncode_C (h : AH) (a0 : Int32) : Option (AH × Int32) :=
  if (nI 255) < a0 then
    some (h, (nI 0))
  else
    some (h, (nI 1))
def f_ASB_append_C_b45 (h : AH) (a0 : Nat) (a1 : Int32)  : Option (AH × Nat) :=
  gd (hT h a0 = 14) <|
  bn (f_ASB_isLatin1 h a0) fun h2 r3 =>
  if r3 = 0 then
    gd (hT h2 a0 = 14) <|
    lq (wI h2 a0 3 ((hI h2 a0 3) + (nI 1))) fun h6 =>
    none
  else
    none
def f_ASB_append_C (h : AH) (a0 : Nat) (a1 : Int32) : Option (AH × Nat) :=
  gd (hT h a0 = 14) <|
  bv (f_ASB_ensureCapacityInternal h a0 ((hI h a0 3) + (nI 1))) fun h2 =>
  gd (hT h2 a0 = 14) <|
  bn (f_ASB_isLatin1 h2 a0) fun h4 r5 =>
  if r5 = 0 then
    f_ASB_append_C_b45  h4 a0 a1
  else
    bn (f_Lat_canEncode_C h4 a1) fun h7 r8 =>
    if r8 = 0 then
      f_ASB_append_C_b45  h7 a0 a1
    else
      gd (hT h7 a0 = 14) <|
      lq (wI h7 a0 3 ((hI h7 a0 3) + (nI 1))) fun h11 =>
      gd (hT h11 (hR h7 a0 0) = 102 ∧ KK ≤ (hR h7 a0 0) ∧ inb (hI h7 a0 3) (hL h11 (hR h7 a0 0))) <|
      lq (wI h11 (hR h7 a0 0) (ix (hI h7 a0 3)) (Int8.toInt32 (Int32.toInt8 (Int8.toInt32 (Int32.toInt8 a1))))) fun h13 =>
      some (h13, a0)
def f_SB_append_C (h : AH) (a0 : Nat) (a1 : Int32) : Option (AH × Nat) :=
  gd (hT h a0 = 14) <|
  bn (f_ASB_append_C h a0 a1) fun h2 r3 =>
  some (h2, a0)
def f_ASB_getValue (h : AH) (a0 : Nat) : Option (AH × Nat) :=
  gd (hT h a0 = 14) <|
  some (h, (hR h a0 0))
def f_ASB_length (h : AH) (a0 : Nat) : Option (AH × Int32) :=
  gd (hT h a0 = 14) <|
  some (h, (hI h a0 3))
def f_SB_length (h : AH) (a0 : Nat) : Option (AH × Int32) :=
  gd (hT h a0 = 14) <|
  bn (f_ASB_length h a0) fun h2 r3 =>
  some (h2, r3)
def f_Arrays_checkLength (h : AH) (a0 : Int32) (a1 : Int32) : Option AH :=
  if a0 ≤ a1 then
    some h
  else
    none
def f_Arrays_copyOfRangeByte (h : AH) (a0 : Nat) (a1 : Int32) (a2 : Int32) : Option (AH × Nat) :=
  bv (f_Arrays_checkLength h a1 a2) fun h1 =>
  lq (a2 - a1) fun x2 =>
  gd (¬ x2 < 0 ∧ ix x2 ≤ 65536) <|
  lq (hA h1 102 (ix x2)) fun h4 =>
  lq (hN h1) fun x5 =>
  gd (hT h4 a0 = 102) <|
  bn (f_Math_min h4 ((nI (hL h4 a0)) - a1) x2) fun h7 r8 =>
  gd (hT h7 a0 = 102 ∧ hT h7 x5 = 102 ∧ KK ≤ x5 ∧ ¬ a1 < 0 ∧ ¬ (nI 0) < 0 ∧ ¬ r8 < 0 ∧ ix a1 + ix r8 ≤ hL h7 a0 ∧ ix (nI 0) + ix r8 ≤ hL h7 x5) <|
  lq (wCp h7 a0 (ix a1) x5 (ix (nI 0)) (ix r8)) fun h10 =>
  some (h10, x5)
def f_Arrays_copyOfRange_b10 (h : AH) (a0 : Nat) (a1 : Int32) (a2 : Int32)  : Option (AH × Nat) :=
  bn (f_Arrays_copyOfRangeByte h a0 a1 a2) fun h1 r2 =>
  some (h1, r2)
def f_Arrays_copyOfRange (h : AH) (a0 : Nat) (a1 : Int32) (a2 : Int32) : Option (AH × Nat) :=
  if ¬ a1 = 0 then
    f_Arrays_copyOfRange_b10  h a0 a1 a2
  else
    gd (hT h a0 = 102) <|
    if a2 = (nI (hL h a0)) then
      lq (hCl h a0) fun h4 =>
      gd (hT h4 (hN h) = 102) <|
      some (h4, (hN h))
    else
      f_Arrays_copyOfRange_b10  h a0 a1 a2
def f_String_init_av_b79 (h : AH) (a0 : Nat) (a3 : Nat) (a4 : Int32)  : Option AH :=
  gd (hT h a0 = 15 ∧ KK ≤ a0 ∧ Int8.toInt32 (Int32.toInt8 (nI 1)) = (nI 1)) <|
  lq (wI h a0 1 (nI 1)) fun h2 =>
  bn (f_Arrays_copyOfRange h2 a3 (nI 0) (a4 <<< ((nI 1) &&& 31))) fun h3 r4 =>
  gd (hT h3 a0 = 15 ∧ KK ≤ a0) <|
  lq (wR h3 a0 0 r4) fun h6 =>
  some h6
def f_String_init_av (h : AH) (a0 : Nat) (a1 : Nat) (a2 : Nat) : Option AH :=
  gd (hT h a0 = 15) <|
  gd (hT h a1 = 14) <|
  bn (f_ASB_getValue h a1) fun h3 r4 =>
  gd (hT h3 a1 = 14) <|
  bn (f_SB_length h3 a1) fun h6 r7 =>
  gd (hT h6 a1 = 14) <|
  bn (f_ASB_isLatin1 h6 a1) fun h9 r10 =>
  if r10 = 0 then
    if (nI 1) = 0 then
      f_String_init_av_b79  h9 a0 r4 r7
    else
      gd (hT h9 a1 = 14) <|
      if (hI h9 a1 2) = 0 then
        f_String_init_av_b79  h9 a0 r4 r7
      else
        none
  else
    gd (hT h9 a0 = 15 ∧ KK ≤ a0 ∧ Int8.toInt32 (Int32.toInt8 (nI 0)) = (nI 0)) <|
    lq (wI h9 a0 1 (nI 0)) fun h16 =>
    bn (f_Arrays_copyOfRange h16 r4 (nI 0) r7) fun h17 r18 =>
    gd (hT h17 a0 = 15 ∧ KK ≤ a0) <|
    lq (wR h17 a0 0 r18) fun h20 =>
    some h20
def f_String_init_s (h : AH) (a0 : Nat) (a1 : Nat) : Option AH :=
  gd (hT h a0 = 15) <|
  bv (f_String_init_av h a0 a1 0) fun h2 =>
  some h2
def f_SB_toString (h : AH) (a0 : Nat) : Option (AH × Nat) :=
  lq (hA h 15 4) fun h1 =>
  gd (hT h1 (hN h) = 15) <|
  bv (f_String_init_s h1 (hN h) a0) fun h3 =>
  some (h3, (hN h))
def f_Sim_sumOf (h : AH) (a0 : Nat) : Option (AH × Nat) :=
  gd (hT h a0 = 101 ∧ inb (nI 2) (hL h a0)) <|
  gd (hT h 2 = 111 ∧ inb (hI h a0 (ix (nI 2))) (hL h 2)) <|
  lq (hR h 2 (ix (hI h a0 (ix (nI 2))))) fun x3 =>
  gd (hT h a0 = 101 ∧ inb (nI 3) (hL h a0)) <|
  if ¬ (hI h a0 (ix (nI 3))) = 0 then
    if ¬ (hI h a0 (ix (nI 3))) = (nI 1) then
      if ¬ (hI h a0 (ix (nI 3))) = (nI 2) then
        lq (hA h 14 4) fun h8 =>
        gd (hT h8 (hN h) = 14) <|
        bv (f_SB_init h8 (hN h)) fun h10 =>
        gd (hT h10 (hN h) = 14) <|
        bn (f_SB_append_s h10 (hN h) 46) fun h12 r13 =>
        gd (hT h12 r13 = 14) <|
        bn (f_SB_append_s h12 r13 x3) fun h15 r16 =>
        gd (hT h15 r16 = 14) <|
        bn (f_SB_append_s h15 r16 74) fun h18 r19 =>
        gd (hT h18 a0 = 101 ∧ inb (nI 4) (hL h18 a0)) <|
        gd (hT h18 r19 = 14) <|
        bn (f_SB_append_I h18 r19 ((hI h18 a0 (ix (nI 4))) - (hI h18 a0 (ix (nI 4))) / (nI 5) * (nI 5))) fun h22 r23 =>
        gd (hT h22 r23 = 14) <|
        bn (f_SB_toString h22 r23) fun h25 r26 =>
        some (h25, r26)
      else
        lq (hA h 14 4) fun h27 =>
        gd (hT h27 (hN h) = 14) <|
        bv (f_SB_init h27 (hN h)) fun h29 =>
        gd (hT h29 (hN h) = 14) <|
        bn (f_SB_append_s h29 (hN h) 68) fun h31 r32 =>
        gd (hT h31 r32 = 14) <|
        bn (f_SB_append_s h31 r32 x3) fun h34 r35 =>
        gd (hT h34 r35 = 14) <|
        bn (f_SB_append_s h34 r35 70) fun h37 r38 =>
        gd (hT h37 a0 = 101 ∧ inb (nI 4) (hL h37 a0)) <|
        gd (hT h37 r38 = 14) <|
        bn (f_SB_append_I h37 r38 ((hI h37 a0 (ix (nI 4))) - (hI h37 a0 (ix (nI 4))) / (nI 9) * (nI 9))) fun h41 r42 =>
        gd (hT h41 r42 = 14) <|
        bn (f_SB_append_s h41 r42 72) fun h44 r45 =>
        gd (hT h44 r45 = 14) <|
        bn (f_SB_toString h44 r45) fun h47 r48 =>
        some (h47, r48)
    else
      lq (hA h 14 4) fun h49 =>
      gd (hT h49 (hN h) = 14) <|
      bv (f_SB_init h49 (hN h)) fun h51 =>
      gd (hT h51 (hN h) = 14) <|
      bn (f_SB_append_s h51 (hN h) 64) fun h53 r54 =>
      gd (hT h53 r54 = 14) <|
      bn (f_SB_append_s h53 r54 x3) fun h56 r57 =>
      gd (hT h56 r57 = 14) <|
      bn (f_SB_append_s h56 r57 66) fun h59 r60 =>
      gd (hT h59 a0 = 101 ∧ inb (nI 4) (hL h59 a0)) <|
      gd (hT h59 r60 = 14) <|
      bn (f_SB_append_I h59 r60 ((hI h59 a0 (ix (nI 4))) - (hI h59 a0 (ix (nI 4))) / (nI 7) * (nI 7))) fun h63 r64 =>
      gd (hT h63 r64 = 14) <|
      bn (f_SB_toString h63 r64) fun h66 r67 =>
      some (h66, r67)
  else
    lq (hA h 14 4) fun h68 =>
    gd (hT h68 (hN h) = 14) <|
    bv (f_SB_init h68 (hN h)) fun h70 =>
    gd (hT h70 (hN h) = 14) <|
    bn (f_SB_append_s h70 (hN h) 62) fun h72 r73 =>
    gd (hT h72 a0 = 101 ∧ inb (nI 4) (hL h72 a0)) <|
    gd (hT h72 r73 = 14) <|
    bn (f_SB_append_I h72 r73 ((hI h72 a0 (ix (nI 4))) - (hI h72 a0 (ix (nI 4))) / (nI 50) * (nI 50))) fun h76 r77 =>
    gd (hT h76 r77 = 14) <|
    bn (f_SB_toString h76 r77) fun h79 r80 =>
    some (h79, r80)
def f_Sim_test (h : AH) (a0 : Nat) (a1 : Nat) : Option (AH × Nat) :=
  gd (hT h a1 = 101 ∧ inb (nI 6) (hL h a1)) <|
  lq (hI h a1 (ix (nI 6))) fun x2 =>
  gd (hT h a1 = 101 ∧ inb (nI 7) (hL h a1)) <|
  lq (hI h a1 (ix (nI 7))) fun x4 =>
  lq (hA h 14 4) fun h5 =>
  gd (hT h5 (hN h) = 14) <|
  bv (f_SB_init h5 (hN h)) fun h7 =>
  gd (hT h7 (hN h) = 14) <|
  bn (f_SB_append_s h7 (hN h) 76) fun h9 r10 =>
  gd (hT h9 a0 = 13) <|
  gd (hT h9 (hR h9 a0 15) = 109) <|
  gd (¬ (nI (hL h9 (hR h9 a0 15))) = 0) <|
  gd (hT h9 r10 = 14) <|
  bn (f_SB_append_I h9 r10 (x2 - x2 / (nI (hL h9 (hR h9 a0 15))) * (nI (hL h9 (hR h9 a0 15))))) fun h15 r16 =>
  gd (hT h15 r16 = 14) <|
  bn (f_SB_toString h15 r16) fun h18 r19 =>
  lq (hA h18 14 4) fun h20 =>
  gd (hT h20 (hN h18) = 14) <|
  bv (f_SB_init h20 (hN h18)) fun h22 =>
  gd (hT h22 (hN h18) = 14) <|
  bn (f_SB_append_s h22 (hN h18) 78) fun h24 r25 =>
  gd (hT h24 a0 = 13) <|
  gd (hT h24 (hR h24 a0 16) = 109) <|
  gd (¬ (nI (hL h24 (hR h24 a0 16))) = 0) <|
  gd (hT h24 r25 = 14) <|
  bn (f_SB_append_I h24 r25 (x2 - x2 / (nI (hL h24 (hR h24 a0 16))) * (nI (hL h24 (hR h24 a0 16))))) fun h30 r31 =>
  gd (hT h30 r31 = 14) <|
  bn (f_SB_toString h30 r31) fun h33 r34 =>
  gd (hT h33 a1 = 101 ∧ inb (nI 5) (hL h33 a1)) <|
  lq (hI h33 a1 (ix (nI 5))) fun x36 =>
  if x36 = nI 0 then
    lq (hA h33 14 4) fun h38 =>
    gd (hT h38 (hN h33) = 14) <|
    bv (f_SB_init h38 (hN h33)) fun h40 =>
    gd (hT h40 (hN h33) = 14) <|
    bn (f_SB_append_s h40 (hN h33) 80) fun h42 r43 =>
    gd (hT h42 r43 = 14) <|
    bn (f_SB_append_I h42 r43 (x4 - x4 / (nI 12) * (nI 12))) fun h45 r46 =>
    gd (hT h45 r46 = 14) <|
    bn (f_SB_toString h45 r46) fun h48 r49 =>
    some (h48, r49)
  else
  if x36 = nI 1 then
    lq (hA h33 14 4) fun h51 =>
    gd (hT h51 (hN h33) = 14) <|
    bv (f_SB_init h51 (hN h33)) fun h53 =>
    gd (hT h53 (hN h33) = 14) <|
    bn (f_SB_append_s h53 (hN h33) 82) fun h55 r56 =>
    gd (hT h55 r56 = 14) <|
    bn (f_SB_append_s h55 r56 r19) fun h58 r59 =>
    gd (hT h58 r59 = 14) <|
    bn (f_SB_append_s h58 r59 84) fun h61 r62 =>
    gd (hT h61 r62 = 14) <|
    bn (f_SB_append_I h61 r62 (x4 - x4 / (nI 21) * (nI 21))) fun h64 r65 =>
    gd (hT h64 r65 = 14) <|
    bn (f_SB_toString h64 r65) fun h67 r68 =>
    some (h67, r68)
  else
  if x36 = nI 2 then
    lq (hA h33 14 4) fun h70 =>
    gd (hT h70 (hN h33) = 14) <|
    bv (f_SB_init h70 (hN h33)) fun h72 =>
    gd (hT h72 (hN h33) = 14) <|
    bn (f_SB_append_s h72 (hN h33) 86) fun h74 r75 =>
    gd (hT h74 r75 = 14) <|
    bn (f_SB_append_s h74 r75 r19) fun h77 r78 =>
    gd (hT h77 r78 = 14) <|
    bn (f_SB_toString h77 r78) fun h80 r81 =>
    some (h80, r81)
  else
  if x36 = nI 3 then
    lq (hA h33 14 4) fun h83 =>
    gd (hT h83 (hN h33) = 14) <|
    bv (f_SB_init h83 (hN h33)) fun h85 =>
    gd (hT h85 (hN h33) = 14) <|
    bn (f_SB_append_s h85 (hN h33) 88) fun h87 r88 =>
    gd (hT h87 r88 = 14) <|
    bn (f_SB_append_s h87 r88 r34) fun h90 r91 =>
    gd (hT h90 r91 = 14) <|
    bn (f_SB_toString h90 r91) fun h93 r94 =>
    some (h93, r94)
  else
  if x36 = nI 4 then
    lq (hA h33 14 4) fun h96 =>
    gd (hT h96 (hN h33) = 14) <|
    bv (f_SB_init h96 (hN h33)) fun h98 =>
    gd (hT h98 (hN h33) = 14) <|
    bn (f_SB_append_s h98 (hN h33) 90) fun h100 r101 =>
    gd (hT h100 r101 = 14) <|
    bn (f_SB_append_I h100 r101 x4) fun h103 r104 =>
    gd (hT h103 r104 = 14) <|
    bn (f_SB_toString h103 r104) fun h106 r107 =>
    some (h106, r107)
  else
  if x36 = nI 5 then
    lq (hA h33 14 4) fun h109 =>
    gd (hT h109 (hN h33) = 14) <|
    bv (f_SB_init h109 (hN h33)) fun h111 =>
    gd (hT h111 (hN h33) = 14) <|
    bn (f_SB_append_s h111 (hN h33) 92) fun h113 r114 =>
    gd (hT h113 a0 = 13) <|
    gd (hT h113 (hR h113 a0 14) = 110) <|
    gd (¬ (nI (hL h113 (hR h113 a0 14))) = 0) <|
    gd (hT h113 r114 = 14) <|
    bn (f_SB_append_I h113 r114 (x2 - x2 / (nI (hL h113 (hR h113 a0 14))) * (nI (hL h113 (hR h113 a0 14))))) fun h119 r120 =>
    gd (hT h119 r120 = 14) <|
    bn (f_SB_append_s h119 r120 94) fun h122 r123 =>
    gd (hT h122 r123 = 14) <|
    bn (f_SB_append_I h122 r123 (x4 - x4 / (nI 30) * (nI 30))) fun h125 r126 =>
    gd (hT h125 r126 = 14) <|
    bn (f_SB_append_s h125 r126 96) fun h128 r129 =>
    gd (hT h128 2 = 111 ∧ inb (x2 - x2 / (nI 4) * (nI 4)) (hL h128 2)) <|
    gd (hT h128 r129 = 14) <|
    bn (f_SB_append_s h128 r129 (hR h128 2 (ix (x2 - x2 / (nI 4) * (nI 4))))) fun h132 r133 =>
    gd (hT h132 r133 = 14) <|
    bn (f_SB_append_s h132 r133 98) fun h135 r136 =>
    gd (hT h135 r136 = 14) <|
    bn (f_SB_append_I h135 r136 (x4 - x4 / (nI 9) * (nI 9))) fun h138 r139 =>
    gd (hT h138 r139 = 14) <|
    bn (f_SB_toString h138 r139) fun h141 r142 =>
    some (h141, r142)
  else
  if x36 = nI 6 then
    lq (hA h33 14 4) fun h144 =>
    gd (hT h144 (hN h33) = 14) <|
    bv (f_SB_init h144 (hN h33)) fun h146 =>
    gd (hT h146 (hN h33) = 14) <|
    bn (f_SB_append_s h146 (hN h33) 100) fun h148 r149 =>
    gd (hT h148 a0 = 13) <|
    gd (hT h148 (hR h148 a0 12) = 109) <|
    gd (¬ (nI (hL h148 (hR h148 a0 12))) = 0) <|
    gd (hT h148 r149 = 14) <|
    bn (f_SB_append_I h148 r149 (x2 - x2 / (nI (hL h148 (hR h148 a0 12))) * (nI (hL h148 (hR h148 a0 12))))) fun h154 r155 =>
    gd (hT h154 r155 = 14) <|
    bn (f_SB_append_s h154 r155 98) fun h157 r158 =>
    gd (hT h157 r158 = 14) <|
    bn (f_SB_append_I h157 r158 (x4 - x4 / (nI 60) * (nI 60))) fun h160 r161 =>
    gd (hT h160 r161 = 14) <|
    bn (f_SB_append_s h160 r161 102) fun h163 r164 =>
    gd (hT h163 2 = 111 ∧ inb (x2 - x2 / (nI 4) * (nI 4)) (hL h163 2)) <|
    gd (hT h163 r164 = 14) <|
    bn (f_SB_append_s h163 r164 (hR h163 2 (ix (x2 - x2 / (nI 4) * (nI 4))))) fun h167 r168 =>
    gd (hT h167 r168 = 14) <|
    bn (f_SB_append_s h167 r168 104) fun h170 r171 =>
    gd (hT h170 r171 = 14) <|
    bn (f_SB_toString h170 r171) fun h173 r174 =>
    some (h173, r174)
  else
  if x36 = nI 7 then
    lq (hA h33 14 4) fun h176 =>
    gd (hT h176 (hN h33) = 14) <|
    bv (f_SB_init h176 (hN h33)) fun h178 =>
    gd (hT h178 (hN h33) = 14) <|
    bn (f_SB_append_s h178 (hN h33) 106) fun h180 r181 =>
    gd (hT h180 r181 = 14) <|
    bn (f_SB_append_s h180 r181 r34) fun h183 r184 =>
    gd (hT h183 r184 = 14) <|
    bn (f_SB_append_s h183 r184 108) fun h186 r187 =>
    gd (hT h186 r187 = 14) <|
    bn (f_SB_append_I h186 r187 (x4 - x4 / (nI 20) * (nI 20))) fun h189 r190 =>
    gd (hT h189 r190 = 14) <|
    bn (f_SB_toString h189 r190) fun h192 r193 =>
    some (h192, r193)
  else
  some (h33, 110)
def f_Sim_text_b621 (k477 : AH → Nat → Nat → Nat → Int32 → Int32 → Option (AH × Nat)) (h : AH) (a0 : Nat) (a1 : Nat) (a3 : Nat) (a4 : Int32) (a5 : Int32)  : Option (AH × Nat) :=
  gd (hT h a1 = 14) <|
  bn (f_SB_append_s h a1 60) fun h2 r3 =>
  lq (a5 + (nI 1)) fun x4 =>
  k477 h2 a0 a1 a3 a4 x4
def f_Sim_text_b604 (k477 : AH → Nat → Nat → Nat → Int32 → Int32 → Option (AH × Nat)) (h : AH) (a0 : Nat) (a1 : Nat) (a3 : Nat) (a4 : Int32) (a5 : Int32) (a6 : Nat)  : Option (AH × Nat) :=
  gd (hT h a1 = 14) <|
  bn (f_SB_append_s h a1 58) fun h2 r3 =>
  gd (hT h2 a0 = 13) <|
  bn (f_Sim_test h2 a0 a6) fun h5 r6 =>
  gd (hT h5 r3 = 14) <|
  bn (f_SB_append_s h5 r3 r6) fun h8 r9 =>
  f_Sim_text_b621 k477 h8 a0 a1 a3 a4 a5
def f_Sim_text_b587 (k477 : AH → Nat → Nat → Nat → Int32 → Int32 → Option (AH × Nat)) (h : AH) (a0 : Nat) (a1 : Nat) (a3 : Nat) (a4 : Int32) (a5 : Int32) (a6 : Nat)  : Option (AH × Nat) :=
  gd (hT h a6 = 101 ∧ inb (nI 0) (hL h a6)) <|
  if ¬ (hI h a6 (ix (nI 0))) = (nI 1) then
    f_Sim_text_b604 k477 h a0 a1 a3 a4 a5 a6
  else
    gd (hT h a6 = 101 ∧ inb (nI 5) (hL h a6)) <|
    if (nI 8) ≤ (hI h a6 (ix (nI 5))) then
      f_Sim_text_b621 k477 h a0 a1 a3 a4 a5
    else
      f_Sim_text_b604 k477 h a0 a1 a3 a4 a5 a6
def f_Sim_text_b477 (k477 : AH → Nat → Nat → Nat → Int32 → Int32 → Option (AH × Nat)) (h : AH) (a0 : Nat) (a1 : Nat) (a3 : Nat) (a4 : Int32) (a5 : Int32)  : Option (AH × Nat) :=
  if a4 ≤ a5 then
    gd (hT h a1 = 14) <|
    bn (f_SB_toString h a1) fun h3 r4 =>
    some (h3, r4)
  else
    gd (hT h a3 = 109 ∧ inb a5 (hL h a3)) <|
    lq (hR h a3 (ix a5)) fun x6 =>
    gd (hT h x6 = 101 ∧ inb (nI 0) (hL h x6)) <|
    if ¬ (hI h x6 (ix (nI 0))) = 0 then
      if ¬ (hI h x6 (ix (nI 0))) = (nI 1) then
        gd (hT h a1 = 14) <|
        bn (f_SB_append_s h a1 56) fun h11 r12 =>
        gd (hT h11 x6 = 101 ∧ inb (nI 1) (hL h11 x6)) <|
        gd (hT h11 r12 = 14) <|
        bn (f_SB_append_I h11 r12 (hI h11 x6 (ix (nI 1)))) fun h15 r16 =>
        f_Sim_text_b587 k477 h15 a0 a1 a3 a4 a5 x6
      else
        gd (hT h a1 = 14) <|
        bn (f_SB_append_s h a1 50) fun h18 r19 =>
        gd (hT h18 x6 = 101 ∧ inb (nI 1) (hL h18 x6)) <|
        gd (hT h18 r19 = 14) <|
        bn (f_SB_append_I h18 r19 (hI h18 x6 (ix (nI 1)))) fun h22 r23 =>
        gd (hT h22 r23 = 14) <|
        bn (f_SB_append_s h22 r23 52) fun h25 r26 =>
        bn (f_Sim_sumOf h25 x6) fun h27 r28 =>
        gd (hT h27 r26 = 14) <|
        bn (f_SB_append_s h27 r26 r28) fun h30 r31 =>
        gd (hT h30 r31 = 14) <|
        bn (f_SB_append_s h30 r31 54) fun h33 r34 =>
        gd (hT h33 x6 = 101 ∧ inb (nI 2) (hL h33 x6)) <|
        gd (hT h33 2 = 111 ∧ inb (hI h33 x6 (ix (nI 2))) (hL h33 2)) <|
        gd (hT h33 r34 = 14) <|
        bn (f_SB_append_s h33 r34 (hR h33 2 (ix (hI h33 x6 (ix (nI 2)))))) fun h38 r39 =>
        f_Sim_text_b587 k477 h38 a0 a1 a3 a4 a5 x6
    else
      gd (hT h a1 = 14) <|
      bn (f_SB_append_s h a1 48) fun h41 r42 =>
      gd (hT h41 x6 = 101 ∧ inb (nI 1) (hL h41 x6)) <|
      gd (hT h41 r42 = 14) <|
      bn (f_SB_append_I h41 r42 (hI h41 x6 (ix (nI 1)))) fun h45 r46 =>
      f_Sim_text_b587 k477 h45 a0 a1 a3 a4 a5 x6
def f_Sim_text_l477 : Nat → AH → Nat → Nat → Nat → Int32 → Int32 → Option (AH × Nat)
  | 0, _, _, _, _, _, _ => none
  | n + 1, h, a0, a1, a3, a4, a5 => f_Sim_text_b477 (f_Sim_text_l477  n) h a0 a1 a3 a4 a5
def f_Sim_text_b459 (k408 : AH → Nat → Nat → Nat → Int32 → Option (AH × Nat)) (h : AH) (a0 : Nat) (a1 : Nat) (a2 : Nat) (a3 : Int32)  : Option (AH × Nat) :=
  lq (a3 + (nI 1)) fun x1 =>
  k408 h a0 a1 a2 x1
def f_Sim_text_b408 (k408 : AH → Nat → Nat → Nat → Int32 → Option (AH × Nat)) (h : AH) (a0 : Nat) (a1 : Nat) (a2 : Nat) (a3 : Int32)  : Option (AH × Nat) :=
  if (nI 4) ≤ a3 then
    gd (hT h a0 = 13) <|
    lq (hR h a0 17) fun x3 =>
    gd (hT h x3 = 109) <|
    lq (nI (hL h x3)) fun x5 =>
    f_Sim_text_l477  FU h a0 a1 x3 x5 (nI 0)
  else
    gd (hT h a0 = 13) <|
    gd (hT h (hR h a0 8) = 101 ∧ inb a3 (hL h (hR h a0 8))) <|
    gd (hT h a2 = 101 ∧ inb a3 (hL h a2)) <|
    if (hI h (hR h a0 8) (ix a3)) = (hI h a2 (ix a3)) then
      f_Sim_text_b459 k408 h a0 a1 a2 a3
    else
      gd (hT h a1 = 14) <|
      bn (f_SB_append_s h a1 46) fun h11 r12 =>
      gd (hT h11 2 = 111 ∧ inb a3 (hL h11 2)) <|
      gd (hT h11 r12 = 14) <|
      bn (f_SB_append_s h11 r12 (hR h11 2 (ix a3))) fun h15 r16 =>
      gd (hT h15 r16 = 14) <|
      bn (f_SB_append_C h15 r16 (nI 32)) fun h18 r19 =>
      gd (hT h18 a0 = 13) <|
      gd (hT h18 (hR h18 a0 8) = 101 ∧ inb a3 (hL h18 (hR h18 a0 8))) <|
      gd (hT h18 r19 = 14) <|
      bn (f_SB_append_I h18 r19 (hI h18 (hR h18 a0 8) (ix a3))) fun h23 r24 =>
      gd (hT h23 r24 = 14) <|
      bn (f_SB_append_s h23 r24 24) fun h26 r27 =>
      f_Sim_text_b459 k408 h26 a0 a1 a2 a3
def f_Sim_text_l408 : Nat → AH → Nat → Nat → Nat → Int32 → Option (AH × Nat)
  | 0, _, _, _, _, _ => none
  | n + 1, h, a0, a1, a2, a3 => f_Sim_text_b408 (f_Sim_text_l408  n) h a0 a1 a2 a3
def f_Sim_text_b379 (k332 : AH → Nat → Nat → Int32 → Option (AH × Nat)) (h : AH) (a0 : Nat) (a1 : Nat) (a2 : Int32)  : Option (AH × Nat) :=
  lq (a2 + (nI 1)) fun x1 =>
  k332 h a0 a1 x1
def f_Sim_text_b332 (k332 : AH → Nat → Nat → Int32 → Option (AH × Nat)) (h : AH) (a0 : Nat) (a1 : Nat) (a2 : Int32)  : Option (AH × Nat) :=
  if (nI 12) ≤ a2 then
    lq (hA h 101 (ix (nI 4))) fun h2 =>
    gd (hT h2 (hN h) = 101 ∧ inb (nI 0) (hL h2 (hN h))) <|
    lq (wI h2 (hN h) (ix (nI 0)) (nI 8)) fun h4 =>
    gd (hT h4 (hN h) = 101 ∧ inb (nI 1) (hL h4 (hN h))) <|
    lq (wI h4 (hN h) (ix (nI 1)) (nI 5)) fun h6 =>
    gd (hT h6 (hN h) = 101 ∧ inb (nI 2) (hL h6 (hN h))) <|
    lq (wI h6 (hN h) (ix (nI 2)) (nI 3)) fun h8 =>
    gd (hT h8 (hN h) = 101 ∧ inb (nI 3) (hL h8 (hN h))) <|
    lq (wI h8 (hN h) (ix (nI 3)) (nI 1)) fun h10 =>
    lq (hN h) fun x11 =>
    f_Sim_text_l408  FU h10 a0 a1 x11 (nI 0)
  else
    gd (hT h a0 = 13) <|
    gd (hT h (hR h a0 7) = 101 ∧ inb a2 (hL h (hR h a0 7))) <|
    if (hI h (hR h a0 7) (ix a2)) = (nI 1) then
      f_Sim_text_b379 k332 h a0 a1 a2
    else
      gd (hT h a1 = 14) <|
      bn (f_SB_append_s h a1 42) fun h16 r17 =>
      gd (hT h16 r17 = 14) <|
      bn (f_SB_append_I h16 r17 a2) fun h19 r20 =>
      gd (hT h19 r20 = 14) <|
      bn (f_SB_append_s h19 r20 44) fun h22 r23 =>
      gd (hT h22 a0 = 13) <|
      gd (hT h22 (hR h22 a0 7) = 101 ∧ inb a2 (hL h22 (hR h22 a0 7))) <|
      gd (hT h22 r23 = 14) <|
      bn (f_SB_append_I h22 r23 (hI h22 (hR h22 a0 7) (ix a2))) fun h27 r28 =>
      gd (hT h27 r28 = 14) <|
      bn (f_SB_append_s h27 r28 24) fun h30 r31 =>
      f_Sim_text_b379 k332 h30 a0 a1 a2
def f_Sim_text_l332 : Nat → AH → Nat → Nat → Int32 → Option (AH × Nat)
  | 0, _, _, _, _ => none
  | n + 1, h, a0, a1, a2 => f_Sim_text_b332 (f_Sim_text_l332  n) h a0 a1 a2
def f_Sim_text_b330 (h : AH) (a0 : Nat) (a1 : Nat)  : Option (AH × Nat) :=
  f_Sim_text_l332  FU h a0 a1 (nI 0)
def f_Sim_text_b299 (h : AH) (a0 : Nat) (a1 : Nat)  : Option (AH × Nat) :=
  gd (hT h a1 = 14) <|
  bn (f_SB_append_s h a1 38) fun h2 r3 =>
  gd (hT h2 a0 = 13) <|
  gd (hT h2 r3 = 14) <|
  bn (f_SB_append_I h2 r3 (hI h2 a0 5)) fun h6 r7 =>
  gd (hT h6 r7 = 14) <|
  bn (f_SB_append_s h6 r7 40) fun h9 r10 =>
  gd (hT h9 a0 = 13) <|
  gd (hT h9 r10 = 14) <|
  bn (f_SB_append_I h9 r10 (hI h9 a0 6)) fun h13 r14 =>
  gd (hT h13 r14 = 14) <|
  bn (f_SB_append_s h13 r14 24) fun h16 r17 =>
  f_Sim_text_b330  h16 a0 a1
def f_Sim_text_b219 (k219 : AH → Nat → Nat → Int32 → Option (AH × Nat)) (h : AH) (a0 : Nat) (a1 : Nat) (a2 : Int32)  : Option (AH × Nat) :=
  gd (hT h a0 = 13) <|
  gd (hT h (hR h a0 16) = 109) <|
  if (nI (hL h (hR h a0 16))) ≤ a2 then
    if ¬ (hI h a0 5) = (nI 20) then
      f_Sim_text_b299  h a0 a1
    else
      if (hI h a0 6) = (nI 1) then
        f_Sim_text_b330  h a0 a1
      else
        f_Sim_text_b299  h a0 a1
  else
    gd (hT h a1 = 14) <|
    bn (f_SB_append_s h a1 34) fun h7 r8 =>
    gd (hT h7 r8 = 14) <|
    bn (f_SB_append_I h7 r8 a2) fun h10 r11 =>
    gd (hT h10 r11 = 14) <|
    bn (f_SB_append_s h10 r11 22) fun h13 r14 =>
    gd (hT h13 a0 = 13) <|
    gd (hT h13 (hR h13 a0 16) = 109 ∧ inb a2 (hL h13 (hR h13 a0 16))) <|
    gd (hT h13 (hR h13 (hR h13 a0 16) (ix a2)) = 101 ∧ inb (nI 0) (hL h13 (hR h13 (hR h13 a0 16) (ix a2)))) <|
    gd (hT h13 r14 = 14) <|
    bn (f_SB_append_I h13 r14 (hI h13 (hR h13 (hR h13 a0 16) (ix a2)) (ix (nI 0)))) fun h19 r20 =>
    gd (hT h19 r20 = 14) <|
    bn (f_SB_append_s h19 r20 36) fun h22 r23 =>
    gd (hT h22 a0 = 13) <|
    gd (hT h22 (hR h22 a0 16) = 109 ∧ inb a2 (hL h22 (hR h22 a0 16))) <|
    gd (hT h22 (hR h22 (hR h22 a0 16) (ix a2)) = 101 ∧ inb (nI 1) (hL h22 (hR h22 (hR h22 a0 16) (ix a2)))) <|
    gd (hT h22 r23 = 14) <|
    bn (f_SB_append_I h22 r23 (hI h22 (hR h22 (hR h22 a0 16) (ix a2)) (ix (nI 1)))) fun h28 r29 =>
    gd (hT h28 r29 = 14) <|
    bn (f_SB_append_s h28 r29 24) fun h31 r32 =>
    lq (a2 + (nI 1)) fun x33 =>
    k219 h31 a0 a1 x33
def f_Sim_text_l219 : Nat → AH → Nat → Nat → Int32 → Option (AH × Nat)
  | 0, _, _, _, _ => none
  | n + 1, h, a0, a1, a2 => f_Sim_text_b219 (f_Sim_text_l219  n) h a0 a1 a2
def f_Sim_text_b138 (k138 : AH → Nat → Nat → Int32 → Option (AH × Nat)) (h : AH) (a0 : Nat) (a1 : Nat) (a2 : Int32)  : Option (AH × Nat) :=
  gd (hT h a0 = 13) <|
  gd (hT h (hR h a0 15) = 109) <|
  if (nI (hL h (hR h a0 15))) ≤ a2 then
    f_Sim_text_l219  FU h a0 a1 (nI 0)
  else
    gd (hT h a1 = 14) <|
    bn (f_SB_append_s h a1 26) fun h5 r6 =>
    gd (hT h5 r6 = 14) <|
    bn (f_SB_append_I h5 r6 a2) fun h8 r9 =>
    gd (hT h8 r9 = 14) <|
    bn (f_SB_append_s h8 r9 28) fun h11 r12 =>
    gd (hT h11 a0 = 13) <|
    gd (hT h11 (hR h11 a0 15) = 109 ∧ inb a2 (hL h11 (hR h11 a0 15))) <|
    gd (hT h11 (hR h11 (hR h11 a0 15) (ix a2)) = 101 ∧ inb (nI 0) (hL h11 (hR h11 (hR h11 a0 15) (ix a2)))) <|
    gd (hT h11 r12 = 14) <|
    bn (f_SB_append_I h11 r12 (hI h11 (hR h11 (hR h11 a0 15) (ix a2)) (ix (nI 0)))) fun h17 r18 =>
    gd (hT h17 r18 = 14) <|
    bn (f_SB_append_s h17 r18 30) fun h20 r21 =>
    gd (hT h20 a0 = 13) <|
    gd (hT h20 (hR h20 a0 15) = 109 ∧ inb a2 (hL h20 (hR h20 a0 15))) <|
    gd (hT h20 (hR h20 (hR h20 a0 15) (ix a2)) = 101 ∧ inb (nI 1) (hL h20 (hR h20 (hR h20 a0 15) (ix a2)))) <|
    gd (hT h20 r21 = 14) <|
    bn (f_SB_append_I h20 r21 (hI h20 (hR h20 (hR h20 a0 15) (ix a2)) (ix (nI 1)))) fun h26 r27 =>
    gd (hT h26 r27 = 14) <|
    bn (f_SB_append_s h26 r27 32) fun h29 r30 =>
    gd (hT h29 a0 = 13) <|
    gd (hT h29 (hR h29 a0 15) = 109 ∧ inb a2 (hL h29 (hR h29 a0 15))) <|
    gd (hT h29 (hR h29 (hR h29 a0 15) (ix a2)) = 101 ∧ inb (nI 2) (hL h29 (hR h29 (hR h29 a0 15) (ix a2)))) <|
    gd (hT h29 r30 = 14) <|
    bn (f_SB_append_I h29 r30 (hI h29 (hR h29 (hR h29 a0 15) (ix a2)) (ix (nI 2)))) fun h35 r36 =>
    gd (hT h35 r36 = 14) <|
    bn (f_SB_append_s h35 r36 24) fun h38 r39 =>
    lq (a2 + (nI 1)) fun x40 =>
    k138 h38 a0 a1 x40
def f_Sim_text_l138 : Nat → AH → Nat → Nat → Int32 → Option (AH × Nat)
  | 0, _, _, _, _ => none
  | n + 1, h, a0, a1, a2 => f_Sim_text_b138 (f_Sim_text_l138  n) h a0 a1 a2
def f_Sim_text_b91 (k91 : AH → Nat → Nat → Int32 → Option (AH × Nat)) (h : AH) (a0 : Nat) (a1 : Nat) (a2 : Int32)  : Option (AH × Nat) :=
  gd (hT h a0 = 13) <|
  gd (hT h (hR h a0 14) = 110) <|
  if (nI (hL h (hR h a0 14))) ≤ a2 then
    f_Sim_text_l138  FU h a0 a1 (nI 0)
  else
    gd (hT h a1 = 14) <|
    bn (f_SB_append_s h a1 20) fun h5 r6 =>
    gd (hT h5 r6 = 14) <|
    bn (f_SB_append_I h5 r6 a2) fun h8 r9 =>
    gd (hT h8 r9 = 14) <|
    bn (f_SB_append_s h8 r9 22) fun h11 r12 =>
    gd (hT h11 a0 = 13) <|
    gd (hT h11 (hR h11 a0 13) = 101 ∧ inb a2 (hL h11 (hR h11 a0 13))) <|
    gd (hT h11 r12 = 14) <|
    bn (f_SB_append_I h11 r12 (hI h11 (hR h11 a0 13) (ix a2))) fun h16 r17 =>
    gd (hT h16 r17 = 14) <|
    bn (f_SB_append_s h16 r17 24) fun h19 r20 =>
    lq (a2 + (nI 1)) fun x21 =>
    k91 h19 a0 a1 x21
def f_Sim_text_l91 : Nat → AH → Nat → Nat → Int32 → Option (AH × Nat)
  | 0, _, _, _, _ => none
  | n + 1, h, a0, a1, a2 => f_Sim_text_b91 (f_Sim_text_l91  n) h a0 a1 a2
def f_Sim_text_b10 (k10 : AH → Nat → Nat → Int32 → Option (AH × Nat)) (h : AH) (a0 : Nat) (a1 : Nat) (a2 : Int32)  : Option (AH × Nat) :=
  gd (hT h a0 = 13) <|
  gd (hT h (hR h a0 12) = 109) <|
  if (nI (hL h (hR h a0 12))) ≤ a2 then
    f_Sim_text_l91  FU h a0 a1 (nI 0)
  else
    gd (hT h a1 = 14) <|
    bn (f_SB_append_s h a1 10) fun h5 r6 =>
    gd (hT h5 r6 = 14) <|
    bn (f_SB_append_I h5 r6 a2) fun h8 r9 =>
    gd (hT h8 r9 = 14) <|
    bn (f_SB_append_s h8 r9 12) fun h11 r12 =>
    gd (hT h11 a0 = 13) <|
    gd (hT h11 (hR h11 a0 12) = 109 ∧ inb a2 (hL h11 (hR h11 a0 12))) <|
    gd (hT h11 (hR h11 (hR h11 a0 12) (ix a2)) = 101 ∧ inb (nI 0) (hL h11 (hR h11 (hR h11 a0 12) (ix a2)))) <|
    gd (hT h11 r12 = 14) <|
    bn (f_SB_append_I h11 r12 (hI h11 (hR h11 (hR h11 a0 12) (ix a2)) (ix (nI 0)))) fun h17 r18 =>
    gd (hT h17 r18 = 14) <|
    bn (f_SB_append_s h17 r18 14) fun h20 r21 =>
    gd (hT h20 a0 = 13) <|
    gd (hT h20 (hR h20 a0 12) = 109 ∧ inb a2 (hL h20 (hR h20 a0 12))) <|
    gd (hT h20 (hR h20 (hR h20 a0 12) (ix a2)) = 101 ∧ inb (nI 1) (hL h20 (hR h20 (hR h20 a0 12) (ix a2)))) <|
    gd (hT h20 r21 = 14) <|
    bn (f_SB_append_I h20 r21 (hI h20 (hR h20 (hR h20 a0 12) (ix a2)) (ix (nI 1)))) fun h26 r27 =>
    gd (hT h26 r27 = 14) <|
    bn (f_SB_append_s h26 r27 16) fun h29 r30 =>
    gd (hT h29 a0 = 13) <|
    gd (hT h29 (hR h29 a0 12) = 109 ∧ inb a2 (hL h29 (hR h29 a0 12))) <|
    gd (hT h29 (hR h29 (hR h29 a0 12) (ix a2)) = 101 ∧ inb (nI 2) (hL h29 (hR h29 (hR h29 a0 12) (ix a2)))) <|
    gd (hT h29 r30 = 14) <|
    bn (f_SB_append_I h29 r30 (hI h29 (hR h29 (hR h29 a0 12) (ix a2)) (ix (nI 2)))) fun h35 r36 =>
    gd (hT h35 r36 = 14) <|
    bn (f_SB_append_s h35 r36 18) fun h38 r39 =>
    lq (a2 + (nI 1)) fun x40 =>
    k10 h38 a0 a1 x40
def f_Sim_text_l10 : Nat → AH → Nat → Nat → Int32 → Option (AH × Nat)
  | 0, _, _, _, _ => none
  | n + 1, h, a0, a1, a2 => f_Sim_text_b10 (f_Sim_text_l10  n) h a0 a1 a2
def f_Sim_text (h : AH) (a0 : Nat) : Option (AH × Nat) :=
  lq (hA h 14 4) fun h1 =>
  gd (hT h1 (hN h) = 14) <|
  bv (f_SB_init h1 (hN h)) fun h3 =>
  lq (hN h) fun x4 =>
  f_Sim_text_l10  FU h3 a0 x4 (nI 0)
def f_QuillBoats_append_b49 (k3 : AH → Nat → Int32 → Int32 → Option AH) (h : AH) (a0 : Nat) (a1 : Int32) (a2 : Int32)  : Option AH :=
  lq (a2 + (-nI 8)) fun x1 =>
  k3 h a0 a1 x1
def f_QuillBoats_append_b3 (k3 : AH → Nat → Int32 → Int32 → Option AH) (h : AH) (a0 : Nat) (a1 : Int32) (a2 : Int32)  : Option AH :=
  if a2 < 0 then
    some h
  else
    gd (hT h a0 = 1) <|
    if (hI h a0 1) < 0 then
      f_QuillBoats_append_b49 k3 h a0 a1 a2
    else
      gd (hT h (hR h a0 0) = 102) <|
      if (nI (hL h (hR h a0 0))) ≤ (hI h a0 1) then
        f_QuillBoats_append_b49 k3 h a0 a1 a2
      else
        gd (hT h (hR h a0 0) = 102 ∧ KK ≤ (hR h a0 0) ∧ inb (hI h a0 1) (hL h (hR h a0 0))) <|
        lq (wI h (hR h a0 0) (ix (hI h a0 1)) (Int8.toInt32 (Int32.toInt8 (Int8.toInt32 (Int32.toInt8 (a1 >>> (a2 &&& 31))))))) fun h7 =>
        gd (hT h7 a0 = 1) <|
        lq (wI h7 a0 1 ((hI h7 a0 1) + (nI 1))) fun h9 =>
        f_QuillBoats_append_b49 k3 h9 a0 a1 a2
def f_QuillBoats_append_l3 : Nat → AH → Nat → Int32 → Int32 → Option AH
  | 0, _, _, _, _ => none
  | n + 1, h, a0, a1, a2 => f_QuillBoats_append_b3 (f_QuillBoats_append_l3  n) h a0 a1 a2
def f_QuillBoats_append (h : AH) (a0 : Nat) (a1 : Int32) : Option AH :=
  f_QuillBoats_append_l3  FU h a0 a1 (nI 24)
def f_QuillBoats_feed (h : AH) (a0 : Nat) (a1 : Int32) (a2 : Int32) (a3 : Int32) (a4 : Int32) (a5 : Int32) : Option (AH × Int32) :=
  gd (hT h a0 = 1) <|
  if ((hI h a0 1) + (nI 20)) ≤ (nI 2000) then
    bv (f_QuillBoats_append h a0 a1) fun h3 =>
    gd (hT h3 a0 = 1) <|
    bv (f_QuillBoats_append h3 a0 a2) fun h5 =>
    gd (hT h5 a0 = 1) <|
    bv (f_QuillBoats_append h5 a0 a3) fun h7 =>
    gd (hT h7 a0 = 1) <|
    bv (f_QuillBoats_append h7 a0 a4) fun h9 =>
    gd (hT h9 a0 = 1) <|
    bv (f_QuillBoats_append h9 a0 a5) fun h11 =>
    gd (hT h11 a0 = 1) <|
    some (h11, (hI h11 a0 1))
  else
    none
def f_QuillBoats_trim_b12 (h : AH)   : Option (AH × Int32) :=
  none
def f_QuillBoats_trim (h : AH) (a0 : Nat) (a1 : Int32) : Option (AH × Int32) :=
  if a1 < 0 then
    f_QuillBoats_trim_b12  h 
  else
    gd (hT h a0 = 1) <|
    if a1 ≤ (hI h a0 1) then
      lq (wI h a0 1 a1) fun h4 =>
      some (h4, a1)
    else
      f_QuillBoats_trim_b12  h 
def f_Tokens_behindBlanks_b35 (k2 : AH → Nat → Int32 → Int32 → Int32 → Option (AH × Int32)) (h : AH) (a0 : Nat) (a1 : Int32) (a2 : Int32) (a3 : Int32)  : Option (AH × Int32) :=
  lq (a3 + (nI 1)) fun x1 =>
  k2 h a0 a1 a2 x1
def f_Tokens_behindBlanks_b2 (k2 : AH → Nat → Int32 → Int32 → Int32 → Option (AH × Int32)) (h : AH) (a0 : Nat) (a1 : Int32) (a2 : Int32) (a3 : Int32)  : Option (AH × Int32) :=
  if a1 ≤ a3 then
    bn (f_Math_max h a2 a1) fun h2 r3 =>
    some (h2, r3)
  else
    if a3 < 0 then
      some (h, a3)
    else
      gd (hT h a0 = 102) <|
      if (nI (hL h a0)) ≤ a3 then
        some (h, a3)
      else
        gd (hT h a0 = 102 ∧ inb a3 (hL h a0)) <|
        if (hI h a0 (ix a3)) = (nI 32) then
          f_Tokens_behindBlanks_b35 k2 h a0 a1 a2 a3
        else
          if (hI h a0 (ix a3)) = (nI 10) then
            f_Tokens_behindBlanks_b35 k2 h a0 a1 a2 a3
          else
            some (h, a3)
def f_Tokens_behindBlanks_l2 : Nat → AH → Nat → Int32 → Int32 → Int32 → Option (AH × Int32)
  | 0, _, _, _, _, _ => none
  | n + 1, h, a0, a1, a2, a3 => f_Tokens_behindBlanks_b2 (f_Tokens_behindBlanks_l2  n) h a0 a1 a2 a3
def f_Tokens_behindBlanks (h : AH) (a0 : Nat) (a1 : Int32) (a2 : Int32) : Option (AH × Int32) :=
  f_Tokens_behindBlanks_l2  FU h a0 a1 a2 a2
def f_Tokens_signAt (h : AH) (a0 : Nat) (a1 : Int32) (a2 : Int32) : Option (AH × Int32) :=
  if a2 < 0 then
    some (h, (nI 0))
  else
    if a1 ≤ a2 then
      some (h, (nI 0))
    else
      gd (hT h a0 = 102) <|
      if (nI (hL h a0)) ≤ a2 then
        some (h, (nI 0))
      else
        gd (hT h a0 = 102 ∧ inb a2 (hL h a0)) <|
        some (h, ((hI h a0 (ix a2)) &&& (nI 255)))
def f_Tokens_put (h : AH) (a0 : Nat) (a1 : Int32) (a2 : Int32) : Option AH :=
  if a1 < 0 then
    some h
  else
    gd (hT h a0 = 11) <|
    gd (hT h (hR h a0 1) = 101) <|
    if (nI (hL h (hR h a0 1))) ≤ a1 then
      some h
    else
      gd (hT h (hR h a0 1) = 101 ∧ inb a1 (hL h (hR h a0 1))) <|
      lq (wI h (hR h a0 1) (ix a1) a2) fun h6 =>
      some h6
def f_Tokens_isLetter (h : AH) (a0 : Int32) : Option (AH × Int32) :=
  if a0 < (nI 97) then
    some (h, (nI 0))
  else
    if (nI 122) < a0 then
      some (h, (nI 0))
    else
      some (h, (nI 1))
def f_Tokens_kindOf_J_b2 (k2 : AH → Nat → Int64 → Int32 → Option (AH × Int32)) (h : AH) (a0 : Nat) (a1 : Int64) (a3 : Int32)  : Option (AH × Int32) :=
  gd (hT h a0 = 11) <|
  gd (hT h (hR h a0 0) = 103) <|
  if (nI (hL h (hR h a0 0))) ≤ a3 then
    some (h, (nI 55))
  else
    gd (hT h (hR h a0 0) = 103 ∧ inb a3 (hL h (hR h a0 0))) <|
    if ¬ (if (hJ h (hR h a0 0) (ix a3)) < a1 then (-1 : Int32) else if (hJ h (hR h a0 0) (ix a3)) = a1 then 0 else 1) = 0 then
      lq (a3 + (nI 1)) fun x6 =>
      k2 h a0 a1 x6
    else
      some (h, (a3 + (nI 1)))
def f_Tokens_kindOf_J_l2 : Nat → AH → Nat → Int64 → Int32 → Option (AH × Int32)
  | 0, _, _, _, _ => none
  | n + 1, h, a0, a1, a3 => f_Tokens_kindOf_J_b2 (f_Tokens_kindOf_J_l2  n) h a0 a1 a3
def f_Tokens_kindOf_J (h : AH) (a0 : Nat) (a1 : Int64) : Option (AH × Int32) :=
  f_Tokens_kindOf_J_l2  FU h a0 a1 (nI 0)
def f_Tokens_behindWord_b78 (h : AH) (a0 : Nat) (a4 : Int32) (a5 : Int64) (a7 : Int32) (s0 : Nat) (s1 : Int32) (s2 : Int32) : Option (AH × Int32) :=
  gd (hT h s0 = 11) <|
  bv (f_Tokens_put h s0 s1 s2) fun h2 =>
  if a4 < 0 then
    some (h2, a7)
  else
    gd (hT h2 a0 = 11) <|
    gd (hT h2 (hR h2 a0 4) = 103) <|
    if (nI (hL h2 (hR h2 a0 4))) ≤ a4 then
      some (h2, a7)
    else
      gd (hT h2 (hR h2 a0 4) = 103 ∧ inb a4 (hL h2 (hR h2 a0 4))) <|
      lq (wJ h2 (hR h2 a0 4) (ix a4) a5) fun h8 =>
      some (h8, a7)
def f_Tokens_behindWord_b55 (h : AH) (a0 : Nat) (a3 : Int32) (a4 : Int32) (a5 : Int64) (a7 : Int32)  : Option (AH × Int32) :=
  if (a7 - a3) ≤ (nI 10) then
    gd (hT h a0 = 11) <|
    bn (f_Tokens_kindOf_J h a0 a5) fun h3 r4 =>
    f_Tokens_behindWord_b78  h3 a0 a4 a5 a7 a0 a4 r4
  else
    f_Tokens_behindWord_b78  h a0 a4 a5 a7 a0 a4 (nI 58)
def f_Tokens_behindWord_b40 (k6 : AH → Nat → Nat → Int32 → Int32 → Int32 → Int64 → Int32 → Option (AH × Int32)) (h : AH) (a0 : Nat) (a1 : Nat) (a2 : Int32) (a3 : Int32) (a4 : Int32) (a5 : Int64) (a7 : Int32) (a8 : Int32)  : Option (AH × Int32) :=
  bn (f_Tokens_joined h a5 a8) fun h1 r2 =>
  lq (a7 + (nI 1)) fun x3 =>
  k6 h1 a0 a1 a2 a3 a4 r2 x3
def f_Tokens_behindWord_b6 (k6 : AH → Nat → Nat → Int32 → Int32 → Int32 → Int64 → Int32 → Option (AH × Int32)) (h : AH) (a0 : Nat) (a1 : Nat) (a2 : Int32) (a3 : Int32) (a4 : Int32) (a5 : Int64) (a7 : Int32)  : Option (AH × Int32) :=
  if a2 ≤ a7 then
    f_Tokens_behindWord_b55  h a0 a3 a4 a5 a7
  else
    bn (f_Tokens_signAt h a1 a2 a7) fun h2 r3 =>
    bn (f_Tokens_isLetter h2 r3) fun h4 r5 =>
    if ¬ r5 = 0 then
      f_Tokens_behindWord_b40 k6 h4 a0 a1 a2 a3 a4 a5 a7 r3
    else
      bn (f_Tokens_isDigit h4 r3) fun h7 r8 =>
      if ¬ r8 = 0 then
        f_Tokens_behindWord_b40 k6 h7 a0 a1 a2 a3 a4 a5 a7 r3
      else
        f_Tokens_behindWord_b55  h7 a0 a3 a4 a5 a7
def f_Tokens_behindWord_l6 : Nat → AH → Nat → Nat → Int32 → Int32 → Int32 → Int64 → Int32 → Option (AH × Int32)
  | 0, _, _, _, _, _, _, _, _ => none
  | n + 1, h, a0, a1, a2, a3, a4, a5, a7 => f_Tokens_behindWord_b6 (f_Tokens_behindWord_l6  n) h a0 a1 a2 a3 a4 a5 a7
def f_Tokens_behindWord (h : AH) (a0 : Nat) (a1 : Nat) (a2 : Int32) (a3 : Int32) (a4 : Int32) : Option (AH × Int32) :=
  lq (Int64.ofNat 0) fun x1 =>
  f_Tokens_behindWord_l6  FU h a0 a1 a2 a3 a4 x1 a3
def f_Tokens_setNumber (h : AH) (a0 : Nat) (a1 : Int32) (a2 : Int32) : Option AH :=
  if a1 < 0 then
    some h
  else
    gd (hT h a0 = 11) <|
    gd (hT h (hR h a0 3) = 101) <|
    if (nI (hL h (hR h a0 3))) ≤ a1 then
      some h
    else
      gd (hT h (hR h a0 3) = 101 ∧ inb a1 (hL h (hR h a0 3))) <|
      lq (wI h (hR h a0 3) (ix a1) a2) fun h6 =>
      some h6
def f_Tokens_behindNumber_b70 (h : AH) (a0 : Nat) (a4 : Int32) (a5 : Int32) (a6 : Int32) (s0 : Nat) (s1 : Int32) (s2 : Int32) : Option (AH × Int32) :=
  gd (hT h s0 = 11) <|
  bv (f_Tokens_put h s0 s1 s2) fun h2 =>
  gd (hT h2 a0 = 11) <|
  bv (f_Tokens_setNumber h2 a0 a4 a5) fun h4 =>
  some (h4, a6)
def f_Tokens_behindNumber_b51 (h : AH) (a0 : Nat) (a3 : Int32) (a4 : Int32) (a5 : Int32) (a6 : Int32)  : Option (AH × Int32) :=
  if (a6 - a3) ≤ (nI 6) then
    f_Tokens_behindNumber_b70  h a0 a4 a5 a6 a0 a4 (nI 56)
  else
    f_Tokens_behindNumber_b70  h a0 a4 a5 a6 a0 a4 (nI 58)
def f_Tokens_behindNumber_b6 (k6 : AH → Nat → Nat → Int32 → Int32 → Int32 → Int32 → Int32 → Option (AH × Int32)) (h : AH) (a0 : Nat) (a1 : Nat) (a2 : Int32) (a3 : Int32) (a4 : Int32) (a5 : Int32) (a6 : Int32)  : Option (AH × Int32) :=
  if a2 ≤ a6 then
    f_Tokens_behindNumber_b51  h a0 a3 a4 a5 a6
  else
    bn (f_Tokens_signAt h a1 a2 a6) fun h2 r3 =>
    bn (f_Tokens_isDigit h2 r3) fun h4 r5 =>
    if ¬ r5 = 0 then
      lq (((a5 * (nI 10)) + r3) - (nI 48)) fun x7 =>
      lq (a6 + (nI 1)) fun x8 =>
      k6 h4 a0 a1 a2 a3 a4 x7 x8
    else
      f_Tokens_behindNumber_b51  h4 a0 a3 a4 a5 a6
def f_Tokens_behindNumber_l6 : Nat → AH → Nat → Nat → Int32 → Int32 → Int32 → Int32 → Int32 → Option (AH × Int32)
  | 0, _, _, _, _, _, _, _, _ => none
  | n + 1, h, a0, a1, a2, a3, a4, a5, a6 => f_Tokens_behindNumber_b6 (f_Tokens_behindNumber_l6  n) h a0 a1 a2 a3 a4 a5 a6
def f_Tokens_behindNumber (h : AH) (a0 : Nat) (a1 : Nat) (a2 : Int32) (a3 : Int32) (a4 : Int32) : Option (AH × Int32) :=
  f_Tokens_behindNumber_l6  FU h a0 a1 a2 a3 a4 (nI 0) a3
def f_Lat_canEncode_I (h : AH) (a0 : Int32) : Option (AH × Int32) :=
  if a0 < 0 then
    some (h, (nI 0))
  else
    if (nI 255) < a0 then
      some (h, (nI 0))
    else
      some (h, (nI 1))
def f_Lat_indexOfChar_b7 (k7 : AH → Nat → Int32 → Int32 → Int32 → Option (AH × Int32)) (h : AH) (a0 : Nat) (a3 : Int32) (a4 : Int32) (a5 : Int32)  : Option (AH × Int32) :=
  if a3 ≤ a5 then
    some (h, (-nI 1))
  else
    gd (hT h a0 = 102 ∧ inb a5 (hL h a0)) <|
    if ¬ (hI h a0 (ix a5)) = a4 then
      lq (a5 + (nI 1)) fun x4 =>
      k7 h a0 a3 a4 x4
    else
      some (h, a5)
def f_Lat_indexOfChar_l7 : Nat → AH → Nat → Int32 → Int32 → Int32 → Option (AH × Int32)
  | 0, _, _, _, _, _ => none
  | n + 1, h, a0, a3, a4, a5 => f_Lat_indexOfChar_b7 (f_Lat_indexOfChar_l7  n) h a0 a3 a4 a5
def f_Lat_indexOfChar (h : AH) (a0 : Nat) (a1 : Int32) (a2 : Int32) (a3 : Int32) : Option (AH × Int32) :=
  lq (Int8.toInt32 (Int32.toInt8 a1)) fun x1 =>
  f_Lat_indexOfChar_l7  FU h a0 a3 x1 a2
def f_Lat_indexOf (h : AH) (a0 : Nat) (a1 : Int32) (a2 : Int32) (a3 : Int32) : Option (AH × Int32) :=
  bn (f_Lat_canEncode_I h a1) fun h1 r2 =>
  if ¬ r2 = 0 then
    bn (f_Math_max h1 a2 (nI 0)) fun h4 r5 =>
    gd (hT h4 a0 = 102) <|
    bn (f_Math_min h4 a3 (nI (hL h4 a0))) fun h7 r8 =>
    if r5 < r8 then
      bn (f_Lat_indexOfChar h7 a0 a1 r5 r8) fun h10 r11 =>
      some (h10, r11)
    else
      some (h7, (-nI 1))
  else
    some (h1, (-nI 1))
def f_String_indexOf_II (h : AH) (a0 : Nat) (a1 : Int32) (a2 : Int32) : Option (AH × Int32) :=
  gd (hT h a0 = 15) <|
  bn (f_String_isLatin1 h a0) fun h2 r3 =>
  if r3 = 0 then
    gd (hT h2 a0 = 15) <|
    bn (f_String_length h2 a0) fun h6 r7 =>
    none
  else
    gd (hT h2 a0 = 15) <|
    bn (f_String_length h2 a0) fun h9 r10 =>
    bn (f_Lat_indexOf h9 (hR h2 a0 0) a1 a2 r10) fun h11 r12 =>
    some (h11, r12)
def f_String_indexOf_I (h : AH) (a0 : Nat) (a1 : Int32) : Option (AH × Int32) :=
  gd (hT h a0 = 15) <|
  bn (f_String_indexOf_II h a0 a1 (nI 0)) fun h2 r3 =>
  some (h2, r3)
def f_Tokens_behindToken_b150 (h : AH) (a3 : Int32) (s0 : Nat) (s1 : Int32) (s2 : Int32) : Option (AH × Int32) :=
  gd (hT h s0 = 11) <|
  bv (f_Tokens_put h s0 s1 s2) fun h2 =>
  some (h2, (a3 + (nI 1)))
def f_Tokens_behindToken_b115 (h : AH) (a3 : Int32) (s0 : Nat) (s1 : Int32) (s2 : Int32) : Option (AH × Int32) :=
  gd (hT h s0 = 11) <|
  bv (f_Tokens_put h s0 s1 s2) fun h2 =>
  some (h2, (a3 + (nI 2)))
def f_Tokens_behindToken_b91 (h : AH) (a0 : Nat) (a3 : Int32) (a4 : Int32) (a5 : Int32) (s0 : Int32) : Option (AH × Int32) :=
  if s0 = 0 then
    gd (hT h 114 = 15) <|
    bn (f_String_indexOf_I h 114 (UInt32.toInt32 (Int32.toUInt32 a5 % 65536))) fun h3 r4 =>
    if 0 ≤ r4 then
      f_Tokens_behindToken_b150  h3 a3 a0 a4 ((nI 40) + r4)
    else
      f_Tokens_behindToken_b150  h3 a3 a0 a4 (nI 58)
  else
    if ¬ a5 = (nI 60) then
      f_Tokens_behindToken_b115  h a3 a0 a4 (nI 54)
    else
      f_Tokens_behindToken_b115  h a3 a0 a4 (nI 53)
def f_Tokens_behindToken_b90 (h : AH) (a0 : Nat) (a3 : Int32) (a4 : Int32) (a5 : Int32)  : Option (AH × Int32) :=
  f_Tokens_behindToken_b91  h a0 a3 a4 a5 (nI 0)
def f_Tokens_behindToken_b73 (h : AH) (a0 : Nat) (a1 : Nat) (a2 : Int32) (a3 : Int32) (a4 : Int32) (a5 : Int32)  : Option (AH × Int32) :=
  bn (f_Tokens_signAt h a1 a2 (a3 + (nI 1))) fun h1 r2 =>
  if ¬ r2 = (nI 61) then
    f_Tokens_behindToken_b90  h1 a0 a3 a4 a5
  else
    f_Tokens_behindToken_b91  h1 a0 a3 a4 a5 (nI 1)
def f_Tokens_behindToken (h : AH) (a0 : Nat) (a1 : Nat) (a2 : Int32) (a3 : Int32) (a4 : Int32) : Option (AH × Int32) :=
  bn (f_Tokens_signAt h a1 a2 a3) fun h1 r2 =>
  if a3 < a2 then
    bn (f_Tokens_isLetter h1 r2) fun h4 r5 =>
    if r5 = 0 then
      bn (f_Tokens_isDigit h4 r2) fun h7 r8 =>
      if r8 = 0 then
        if r2 = (nI 60) then
          f_Tokens_behindToken_b73  h7 a0 a1 a2 a3 a4 r2
        else
          if ¬ r2 = (nI 62) then
            f_Tokens_behindToken_b90  h7 a0 a3 a4 r2
          else
            f_Tokens_behindToken_b73  h7 a0 a1 a2 a3 a4 r2
      else
        gd (hT h7 a0 = 11) <|
        bn (f_Tokens_behindNumber h7 a0 a1 a2 a3 a4) fun h13 r14 =>
        some (h13, r14)
    else
      gd (hT h4 a0 = 11) <|
      bn (f_Tokens_behindWord h4 a0 a1 a2 a3 a4) fun h16 r17 =>
      some (h16, r17)
  else
    gd (hT h1 a0 = 11) <|
    bv (f_Tokens_put h1 a0 a4 (nI 57)) fun h19 =>
    some (h19, a3)
def f_Tokens_behindLast_b14 (h : AH) (a2 : Int32) (s0 : Nat) (s1 : Int32) (s2 : Int32) : Option (AH × Int32) :=
  gd (hT h s0 = 11) <|
  bv (f_Tokens_put h s0 s1 s2) fun h2 =>
  some (h2, a2)
def f_Tokens_behindLast (h : AH) (a0 : Nat) (a1 : Int32) (a2 : Int32) (a3 : Int32) : Option (AH × Int32) :=
  if a2 < a1 then
    f_Tokens_behindLast_b14  h a2 a0 a3 (nI 58)
  else
    f_Tokens_behindLast_b14  h a2 a0 a3 (nI 57)
def f_Tokens_split_b76 (k18 : AH → Nat → Nat → Int32 → Int32 → Int32 → Option AH) (h : AH) (a0 : Nat) (a1 : Nat) (a3 : Int32) (a5 : Int32) (s0 : Int32) : Option AH :=
  gd (hT h a0 = 11) <|
  gd (hT h (hR h a0 1) = 101 ∧ inb a5 (hL h (hR h a0 1))) <|
  if (hI h (hR h a0 1) (ix a5)) = (nI 57) then
    some h
  else
    if ¬ (hI h (hR h a0 1) (ix a5)) = (nI 58) then
      lq (wI h a0 5 (a5 + (nI 1))) fun h5 =>
      lq (a5 + (nI 1)) fun x6 =>
      k18 h5 a0 a1 a3 s0 x6
    else
      some h
def f_Tokens_split_b18 (k18 : AH → Nat → Nat → Int32 → Int32 → Int32 → Option AH) (h : AH) (a0 : Nat) (a1 : Nat) (a3 : Int32) (a4 : Int32) (a5 : Int32)  : Option AH :=
  gd (hT h a0 = 11) <|
  gd (hT h (hR h a0 1) = 101) <|
  if (nI (hL h (hR h a0 1))) ≤ a5 then
    some h
  else
    bn (f_Tokens_behindBlanks h a1 a3 a4) fun h4 r5 =>
    gd (hT h4 a0 = 11) <|
    gd (hT h4 (hR h4 a0 2) = 101 ∧ inb a5 (hL h4 (hR h4 a0 2))) <|
    lq (wI h4 (hR h4 a0 2) (ix a5) r5) fun h8 =>
    if (nI 400) ≤ a5 then
      gd (hT h8 a0 = 11) <|
      bn (f_Tokens_behindLast h8 a0 a3 r5 a5) fun h11 r12 =>
      f_Tokens_split_b76 k18 h11 a0 a1 a3 a5 r12
    else
      gd (hT h8 a0 = 11) <|
      bn (f_Tokens_behindToken h8 a0 a1 a3 r5 a5) fun h14 r15 =>
      f_Tokens_split_b76 k18 h14 a0 a1 a3 a5 r15
def f_Tokens_split_l18 : Nat → AH → Nat → Nat → Int32 → Int32 → Int32 → Option AH
  | 0, _, _, _, _, _, _ => none
  | n + 1, h, a0, a1, a3, a4, a5 => f_Tokens_split_b18 (f_Tokens_split_l18  n) h a0 a1 a3 a4 a5
def f_Tokens_split (h : AH) (a0 : Nat) (a1 : Nat) (a2 : Int32) : Option AH :=
  gd (hT h a1 = 102) <|
  bn (f_Math_min h a2 (nI (hL h a1))) fun h2 r3 =>
  gd (hT h2 a0 = 11) <|
  lq (wI h2 a0 5 (nI 0)) fun h5 =>
  f_Tokens_split_l18  FU h5 a0 a1 r3 (nI 0) (nI 0)
def f_Tokens_kindOf_I_b30 (h : AH)   : Option (AH × Int32) :=
  some (h, (nI 57))
def f_Tokens_kindOf_I (h : AH) (a0 : Nat) (a1 : Int32) : Option (AH × Int32) :=
  if a1 < 0 then
    f_Tokens_kindOf_I_b30  h 
  else
    gd (hT h a0 = 11) <|
    gd (hT h (hR h a0 1) = 101) <|
    if (nI (hL h (hR h a0 1))) ≤ a1 then
      f_Tokens_kindOf_I_b30  h 
    else
      if (hI h a0 5) < a1 then
        f_Tokens_kindOf_I_b30  h 
      else
        gd (hT h (hR h a0 1) = 101 ∧ inb a1 (hL h (hR h a0 1))) <|
        some (h, (hI h (hR h a0 1) (ix a1)))
def f_Orders_clear (h : AH) (a0 : Nat) : Option AH :=
  gd (hT h a0 = 2) <|
  lq (wI h a0 2 (nI 0)) fun h2 =>
  some h2
def f_Grammar_reads (h : AH) (a0 : Nat) (a1 : Int32) : Option (AH × Int32) :=
  gd (hT h a0 = 10) <|
  if (hI h a0 3) = a1 then
    lq (wI h a0 2 ((hI h a0 2) + (nI 1))) fun h3 =>
    gd (hT h3 a0 = 10) <|
    gd (hT h3 (hR h3 a0 0) = 11) <|
    bn (f_Tokens_kindOf_I h3 (hR h3 a0 0) (hI h3 a0 2)) fun h6 r7 =>
    gd (hT h6 a0 = 10) <|
    lq (wI h6 a0 3 r7) fun h9 =>
    some (h9, (nI 1))
  else
    some (h, (nI 0))
def f_Grammar_readsNameOf (h : AH) (a0 : Nat) (a1 : Int32) : Option (AH × Int32) :=
  gd (hT h a0 = 10) <|
  bn (f_Grammar_reads h a0 a1) fun h2 r3 =>
  if r3 = 0 then
    some (h2, (nI 0))
  else
    gd (hT h2 a0 = 10) <|
    bn (f_Grammar_reads h2 a0 (nI 55)) fun h6 r7 =>
    if r7 = 0 then
      some (h6, (nI 0))
    else
      some (h6, (nI 1))
def f_Grammar_readsNumberOf (h : AH) (a0 : Nat) (a1 : Int32) : Option (AH × Int32) :=
  gd (hT h a0 = 10) <|
  bn (f_Grammar_reads h a0 a1) fun h2 r3 =>
  if r3 = 0 then
    some (h2, (nI 0))
  else
    gd (hT h2 a0 = 10) <|
    bn (f_Grammar_reads h2 a0 (nI 56)) fun h6 r7 =>
    if r7 = 0 then
      some (h6, (nI 0))
    else
      some (h6, (nI 1))
def f_Grammar_isGrade_b24 (h : AH)   : Option (AH × Int32) :=
  some (h, (nI 1))
def f_Grammar_isGrade (h : AH) (a0 : Int32) : Option (AH × Int32) :=
  if a0 = (nI 18) then
    f_Grammar_isGrade_b24  h 
  else
    if a0 = (nI 19) then
      f_Grammar_isGrade_b24  h 
    else
      if a0 = (nI 20) then
        f_Grammar_isGrade_b24  h 
      else
        if ¬ a0 = (nI 21) then
          some (h, (nI 0))
        else
          f_Grammar_isGrade_b24  h 
def f_Orders_add (h : AH) (a0 : Nat) (a1 : Int32) (a2 : Int32) : Option AH :=
  gd (hT h a0 = 2) <|
  if (hI h a0 2) < 0 then
    some h
  else
    gd (hT h (hR h a0 0) = 101) <|
    if (nI (hL h (hR h a0 0))) ≤ (hI h a0 2) then
      some h
    else
      gd (hT h (hR h a0 1) = 101) <|
      if (nI (hL h (hR h a0 1))) ≤ (hI h a0 2) then
        some h
      else
        gd (hT h (hR h a0 0) = 101 ∧ inb (hI h a0 2) (hL h (hR h a0 0))) <|
        lq (wI h (hR h a0 0) (ix (hI h a0 2)) a1) fun h8 =>
        gd (hT h8 a0 = 2) <|
        gd (hT h8 (hR h8 a0 1) = 101 ∧ inb (hI h8 a0 2) (hL h8 (hR h8 a0 1))) <|
        lq (wI h8 (hR h8 a0 1) (ix (hI h8 a0 2)) a2) fun h11 =>
        gd (hT h11 a0 = 2) <|
        lq (wI h11 a0 2 ((hI h11 a0 2) + (nI 1))) fun h13 =>
        some h13
def f_Grammar_mayGoDeeper (h : AH) (a0 : Int32) : Option (AH × Int32) :=
  if (nI 8) ≤ a0 then
    some (h, (nI 0))
  else
    some (h, (nI 1))
def f_Grammar_isComparison_b30 (h : AH)   : Option (AH × Int32) :=
  some (h, (nI 1))
def f_Grammar_isComparison (h : AH) (a0 : Int32) : Option (AH × Int32) :=
  if a0 = (nI 50) then
    f_Grammar_isComparison_b30  h 
  else
    if a0 = (nI 51) then
      f_Grammar_isComparison_b30  h 
    else
      if a0 = (nI 52) then
        f_Grammar_isComparison_b30  h 
      else
        if a0 = (nI 53) then
          f_Grammar_isComparison_b30  h 
        else
          if ¬ a0 = (nI 54) then
            some (h, (nI 0))
          else
            f_Grammar_isComparison_b30  h 
def f_Grammar_readsTest_b12 (G : Nat → AH → Nat → Int32 → Int32 → Option (AH × Int32)) (k12 : AH → Nat → Int32 → Int32 → Option (AH × Int32)) (h : AH) (a0 : Nat) (a1 : Int32) (a2 : Int32)  : Option (AH × Int32) :=
  if (nI 400) ≤ a2 then
    some (h, (nI 1))
  else
    gd (hT h a0 = 10) <|
    bn (f_Grammar_reads h a0 (nI 37)) fun h3 r4 =>
    if r4 = 0 then
      some (h3, (nI 1))
    else
      gd (hT h3 a0 = 10) <|
      bn (G 1 h3 a0 a1 (nI 0)) fun h7 r8 =>
      if ¬ r8 = 0 then
        gd (hT h7 a0 = 10) <|
        gd (hT h7 (hR h7 a0 1) = 2) <|
        bv (f_Orders_add h7 (hR h7 a0 1) (nI 37) (hI h7 a0 2)) fun h12 =>
        lq (a2 + (nI 1)) fun x13 =>
        k12 h12 a0 a1 x13
      else
        some (h7, (nI 0))
def f_Grammar_readsTest_l12 (G : Nat → AH → Nat → Int32 → Int32 → Option (AH × Int32)) : Nat → AH → Nat → Int32 → Int32 → Option (AH × Int32)
  | 0, _, _, _, _ => none
  | n + 1, h, a0, a1, a2 => f_Grammar_readsTest_b12 G (f_Grammar_readsTest_l12 G  n) h a0 a1 a2
def f_Grammar_readsTest (G : Nat → AH → Nat → Int32 → Int32 → Option (AH × Int32)) (h : AH) (a0 : Nat) (a1 : Int32) : Option (AH × Int32) :=
  gd (hT h a0 = 10) <|
  bn (G 1 h a0 a1 (nI 0)) fun h2 r3 =>
  if ¬ r3 = 0 then
    f_Grammar_readsTest_l12 G  FU h2 a0 a1 (nI 0)
  else
    some (h2, (nI 0))
def f_Grammar_readsBoth_b12 (G : Nat → AH → Nat → Int32 → Int32 → Option (AH × Int32)) (k12 : AH → Nat → Int32 → Int32 → Option (AH × Int32)) (h : AH) (a0 : Nat) (a1 : Int32) (a2 : Int32)  : Option (AH × Int32) :=
  if (nI 400) ≤ a2 then
    some (h, (nI 1))
  else
    gd (hT h a0 = 10) <|
    bn (f_Grammar_reads h a0 (nI 36)) fun h3 r4 =>
    if r4 = 0 then
      some (h3, (nI 1))
    else
      gd (hT h3 a0 = 10) <|
      bn (G 2 h3 a0 a1 (nI 0)) fun h7 r8 =>
      if ¬ r8 = 0 then
        gd (hT h7 a0 = 10) <|
        gd (hT h7 (hR h7 a0 1) = 2) <|
        bv (f_Orders_add h7 (hR h7 a0 1) (nI 36) (hI h7 a0 2)) fun h12 =>
        lq (a2 + (nI 1)) fun x13 =>
        k12 h12 a0 a1 x13
      else
        some (h7, (nI 0))
def f_Grammar_readsBoth_l12 (G : Nat → AH → Nat → Int32 → Int32 → Option (AH × Int32)) : Nat → AH → Nat → Int32 → Int32 → Option (AH × Int32)
  | 0, _, _, _, _ => none
  | n + 1, h, a0, a1, a2 => f_Grammar_readsBoth_b12 G (f_Grammar_readsBoth_l12 G  n) h a0 a1 a2
def f_Grammar_readsBoth (G : Nat → AH → Nat → Int32 → Int32 → Option (AH × Int32)) (h : AH) (a0 : Nat) (a1 : Int32) : Option (AH × Int32) :=
  gd (hT h a0 = 10) <|
  bn (G 2 h a0 a1 (nI 0)) fun h2 r3 =>
  if ¬ r3 = 0 then
    f_Grammar_readsBoth_l12 G  FU h2 a0 a1 (nI 0)
  else
    some (h2, (nI 0))
def f_Grammar_readsSingle (G : Nat → AH → Nat → Int32 → Int32 → Option (AH × Int32)) (h : AH) (a0 : Nat) (a1 : Int32) : Option (AH × Int32) :=
  gd (hT h a0 = 10) <|
  lq (hI h a0 3) fun x2 =>
  if x2 = nI 33 then
    gd (hT h (hR h a0 1) = 2) <|
    bv (f_Orders_add h (hR h a0 1) (hI h a0 3) ((hI h a0 2) + (nI 1))) fun h5 =>
    gd (hT h5 a0 = 10) <|
    bn (f_Grammar_reads h5 a0 (hI h5 a0 3)) fun h7 r8 =>
    if r8 = 0 then
      some (h7, (nI 0))
    else
      gd (hT h7 a0 = 10) <|
      bn (f_Grammar_reads h7 a0 (nI 55)) fun h11 r12 =>
      if r12 = 0 then
        some (h11, (nI 0))
      else
        some (h11, (nI 1))
  else
  if x2 = nI 34 then
    gd (hT h (hR h a0 1) = 2) <|
    bv (f_Orders_add h (hR h a0 1) (hI h a0 3) ((hI h a0 2) + (nI 1))) fun h16 =>
    gd (hT h16 a0 = 10) <|
    bn (f_Grammar_reads h16 a0 (hI h16 a0 3)) fun h18 r19 =>
    if r19 = 0 then
      some (h18, (nI 0))
    else
      gd (hT h18 a0 = 10) <|
      bn (f_Grammar_reads h18 a0 (nI 55)) fun h22 r23 =>
      if r23 = 0 then
        some (h22, (nI 0))
      else
        some (h22, (nI 1))
  else
  if x2 = nI 35 then
    bn (f_Grammar_mayGoDeeper h a1) fun h26 r27 =>
    if r27 = 0 then
      some (h26, (nI 0))
    else
      gd (hT h26 a0 = 10) <|
      bn (f_Grammar_reads h26 a0 (nI 35)) fun h30 r31 =>
      if r31 = 0 then
        some (h30, (nI 0))
      else
        gd (hT h30 a0 = 10) <|
        bn (G 2 h30 a0 (a1 + (nI 1)) (nI 0)) fun h34 r35 =>
        if ¬ r35 = 0 then
          gd (hT h34 a0 = 10) <|
          gd (hT h34 (hR h34 a0 1) = 2) <|
          bv (f_Orders_add h34 (hR h34 a0 1) (nI 35) (hI h34 a0 2)) fun h39 =>
          some (h39, (nI 1))
        else
          some (h34, (nI 0))
  else
  if x2 = nI 36 then
    bn (G 3 h a0 a1 (nI 0)) fun h41 r42 =>
    if ¬ r42 = 0 then
      gd (hT h41 a0 = 10) <|
      lq (hI h41 a0 3) fun x45 =>
      bn (f_Grammar_isComparison h41 x45) fun h46 r47 =>
      if r47 = 0 then
        some (h46, (nI 0))
      else
        gd (hT h46 a0 = 10) <|
        bn (f_Grammar_reads h46 a0 x45) fun h50 r51 =>
        if r51 = 0 then
          some (h50, (nI 0))
        else
          gd (hT h50 a0 = 10) <|
          bn (G 3 h50 a0 a1 (nI 0)) fun h54 r55 =>
          if ¬ r55 = 0 then
            gd (hT h54 a0 = 10) <|
            gd (hT h54 (hR h54 a0 1) = 2) <|
            bv (f_Orders_add h54 (hR h54 a0 1) x45 (hI h54 a0 2)) fun h59 =>
            some (h59, (nI 1))
          else
            some (h54, (nI 0))
    else
      some (h41, (nI 0))
  else
  if x2 = nI 37 then
    bn (G 3 h a0 a1 (nI 0)) fun h61 r62 =>
    if ¬ r62 = 0 then
      gd (hT h61 a0 = 10) <|
      lq (hI h61 a0 3) fun x65 =>
      bn (f_Grammar_isComparison h61 x65) fun h66 r67 =>
      if r67 = 0 then
        some (h66, (nI 0))
      else
        gd (hT h66 a0 = 10) <|
        bn (f_Grammar_reads h66 a0 x65) fun h70 r71 =>
        if r71 = 0 then
          some (h70, (nI 0))
        else
          gd (hT h70 a0 = 10) <|
          bn (G 3 h70 a0 a1 (nI 0)) fun h74 r75 =>
          if ¬ r75 = 0 then
            gd (hT h74 a0 = 10) <|
            gd (hT h74 (hR h74 a0 1) = 2) <|
            bv (f_Orders_add h74 (hR h74 a0 1) x65 (hI h74 a0 2)) fun h79 =>
            some (h79, (nI 1))
          else
            some (h74, (nI 0))
    else
      some (h61, (nI 0))
  else
  if x2 = nI 38 then
    bn (G 3 h a0 a1 (nI 0)) fun h81 r82 =>
    if ¬ r82 = 0 then
      gd (hT h81 a0 = 10) <|
      lq (hI h81 a0 3) fun x85 =>
      bn (f_Grammar_isComparison h81 x85) fun h86 r87 =>
      if r87 = 0 then
        some (h86, (nI 0))
      else
        gd (hT h86 a0 = 10) <|
        bn (f_Grammar_reads h86 a0 x85) fun h90 r91 =>
        if r91 = 0 then
          some (h90, (nI 0))
        else
          gd (hT h90 a0 = 10) <|
          bn (G 3 h90 a0 a1 (nI 0)) fun h94 r95 =>
          if ¬ r95 = 0 then
            gd (hT h94 a0 = 10) <|
            gd (hT h94 (hR h94 a0 1) = 2) <|
            bv (f_Orders_add h94 (hR h94 a0 1) x85 (hI h94 a0 2)) fun h99 =>
            some (h99, (nI 1))
          else
            some (h94, (nI 0))
    else
      some (h81, (nI 0))
  else
  if x2 = nI 39 then
    bn (G 3 h a0 a1 (nI 0)) fun h101 r102 =>
    if ¬ r102 = 0 then
      gd (hT h101 a0 = 10) <|
      lq (hI h101 a0 3) fun x105 =>
      bn (f_Grammar_isComparison h101 x105) fun h106 r107 =>
      if r107 = 0 then
        some (h106, (nI 0))
      else
        gd (hT h106 a0 = 10) <|
        bn (f_Grammar_reads h106 a0 x105) fun h110 r111 =>
        if r111 = 0 then
          some (h110, (nI 0))
        else
          gd (hT h110 a0 = 10) <|
          bn (G 3 h110 a0 a1 (nI 0)) fun h114 r115 =>
          if ¬ r115 = 0 then
            gd (hT h114 a0 = 10) <|
            gd (hT h114 (hR h114 a0 1) = 2) <|
            bv (f_Orders_add h114 (hR h114 a0 1) x105 (hI h114 a0 2)) fun h119 =>
            some (h119, (nI 1))
          else
            some (h114, (nI 0))
    else
      some (h101, (nI 0))
  else
  if x2 = nI 40 then
    bn (G 3 h a0 a1 (nI 0)) fun h121 r122 =>
    if ¬ r122 = 0 then
      gd (hT h121 a0 = 10) <|
      lq (hI h121 a0 3) fun x125 =>
      bn (f_Grammar_isComparison h121 x125) fun h126 r127 =>
      if r127 = 0 then
        some (h126, (nI 0))
      else
        gd (hT h126 a0 = 10) <|
        bn (f_Grammar_reads h126 a0 x125) fun h130 r131 =>
        if r131 = 0 then
          some (h130, (nI 0))
        else
          gd (hT h130 a0 = 10) <|
          bn (G 3 h130 a0 a1 (nI 0)) fun h134 r135 =>
          if ¬ r135 = 0 then
            gd (hT h134 a0 = 10) <|
            gd (hT h134 (hR h134 a0 1) = 2) <|
            bv (f_Orders_add h134 (hR h134 a0 1) x125 (hI h134 a0 2)) fun h139 =>
            some (h139, (nI 1))
          else
            some (h134, (nI 0))
    else
      some (h121, (nI 0))
  else
  if x2 = nI 41 then
    bn (G 3 h a0 a1 (nI 0)) fun h141 r142 =>
    if ¬ r142 = 0 then
      gd (hT h141 a0 = 10) <|
      lq (hI h141 a0 3) fun x145 =>
      bn (f_Grammar_isComparison h141 x145) fun h146 r147 =>
      if r147 = 0 then
        some (h146, (nI 0))
      else
        gd (hT h146 a0 = 10) <|
        bn (f_Grammar_reads h146 a0 x145) fun h150 r151 =>
        if r151 = 0 then
          some (h150, (nI 0))
        else
          gd (hT h150 a0 = 10) <|
          bn (G 3 h150 a0 a1 (nI 0)) fun h154 r155 =>
          if ¬ r155 = 0 then
            gd (hT h154 a0 = 10) <|
            gd (hT h154 (hR h154 a0 1) = 2) <|
            bv (f_Orders_add h154 (hR h154 a0 1) x145 (hI h154 a0 2)) fun h159 =>
            some (h159, (nI 1))
          else
            some (h154, (nI 0))
    else
      some (h141, (nI 0))
  else
  if x2 = nI 42 then
    bn (f_Grammar_mayGoDeeper h a1) fun h161 r162 =>
    if r162 = 0 then
      some (h161, (nI 0))
    else
      gd (hT h161 a0 = 10) <|
      bn (f_Grammar_reads h161 a0 (nI 42)) fun h165 r166 =>
      if r166 = 0 then
        some (h165, (nI 0))
      else
        gd (hT h165 a0 = 10) <|
        bn (G 0 h165 a0 (a1 + (nI 1)) (nI 0)) fun h169 r170 =>
        if r170 = 0 then
          some (h169, (nI 0))
        else
          gd (hT h169 a0 = 10) <|
          bn (f_Grammar_reads h169 a0 (nI 43)) fun h173 r174 =>
          if r174 = 0 then
            some (h173, (nI 0))
          else
            some (h173, (nI 1))
  else
  bn (G 3 h a0 a1 (nI 0)) fun h176 r177 =>
  if ¬ r177 = 0 then
    gd (hT h176 a0 = 10) <|
    lq (hI h176 a0 3) fun x180 =>
    bn (f_Grammar_isComparison h176 x180) fun h181 r182 =>
    if r182 = 0 then
      some (h181, (nI 0))
    else
      gd (hT h181 a0 = 10) <|
      bn (f_Grammar_reads h181 a0 x180) fun h185 r186 =>
      if r186 = 0 then
        some (h185, (nI 0))
      else
        gd (hT h185 a0 = 10) <|
        bn (G 3 h185 a0 a1 (nI 0)) fun h189 r190 =>
        if ¬ r190 = 0 then
          gd (hT h189 a0 = 10) <|
          gd (hT h189 (hR h189 a0 1) = 2) <|
          bv (f_Orders_add h189 (hR h189 a0 1) x180 (hI h189 a0 2)) fun h194 =>
          some (h194, (nI 1))
        else
          some (h189, (nI 0))
  else
    some (h176, (nI 0))
def f_Grammar_readsSum_b37 (G : Nat → AH → Nat → Int32 → Int32 → Option (AH × Int32)) (k12 : AH → Nat → Int32 → Int32 → Option (AH × Int32)) (h : AH) (a0 : Nat) (a1 : Int32) (a2 : Int32)  : Option (AH × Int32) :=
  gd (hT h a0 = 10) <|
  lq (hI h a0 3) fun x2 =>
  bn (f_Grammar_reads h a0 x2) fun h3 r4 =>
  if r4 = 0 then
    some (h3, (nI 0))
  else
    gd (hT h3 a0 = 10) <|
    bn (G 4 h3 a0 a1 (nI 0)) fun h7 r8 =>
    if ¬ r8 = 0 then
      gd (hT h7 a0 = 10) <|
      gd (hT h7 (hR h7 a0 1) = 2) <|
      bv (f_Orders_add h7 (hR h7 a0 1) x2 (hI h7 a0 2)) fun h12 =>
      lq (a2 + (nI 1)) fun x13 =>
      k12 h12 a0 a1 x13
    else
      some (h7, (nI 0))
def f_Grammar_readsSum_b12 (G : Nat → AH → Nat → Int32 → Int32 → Option (AH × Int32)) (k12 : AH → Nat → Int32 → Int32 → Option (AH × Int32)) (h : AH) (a0 : Nat) (a1 : Int32) (a2 : Int32)  : Option (AH × Int32) :=
  if (nI 400) ≤ a2 then
    some (h, (nI 1))
  else
    gd (hT h a0 = 10) <|
    if (hI h a0 3) = (nI 46) then
      f_Grammar_readsSum_b37 G k12 h a0 a1 a2
    else
      if ¬ (hI h a0 3) = (nI 47) then
        some (h, (nI 1))
      else
        f_Grammar_readsSum_b37 G k12 h a0 a1 a2
def f_Grammar_readsSum_l12 (G : Nat → AH → Nat → Int32 → Int32 → Option (AH × Int32)) : Nat → AH → Nat → Int32 → Int32 → Option (AH × Int32)
  | 0, _, _, _, _ => none
  | n + 1, h, a0, a1, a2 => f_Grammar_readsSum_b12 G (f_Grammar_readsSum_l12 G  n) h a0 a1 a2
def f_Grammar_readsSum (G : Nat → AH → Nat → Int32 → Int32 → Option (AH × Int32)) (h : AH) (a0 : Nat) (a1 : Int32) : Option (AH × Int32) :=
  gd (hT h a0 = 10) <|
  bn (G 4 h a0 a1 (nI 0)) fun h2 r3 =>
  if ¬ r3 = 0 then
    f_Grammar_readsSum_l12 G  FU h2 a0 a1 (nI 0)
  else
    some (h2, (nI 0))
def f_Grammar_readsProduct_b37 (G : Nat → AH → Nat → Int32 → Int32 → Option (AH × Int32)) (k12 : AH → Nat → Int32 → Int32 → Option (AH × Int32)) (h : AH) (a0 : Nat) (a1 : Int32) (a2 : Int32)  : Option (AH × Int32) :=
  gd (hT h a0 = 10) <|
  lq (hI h a0 3) fun x2 =>
  bn (f_Grammar_reads h a0 x2) fun h3 r4 =>
  if r4 = 0 then
    some (h3, (nI 0))
  else
    gd (hT h3 a0 = 10) <|
    bn (G 5 h3 a0 a1 (nI 0)) fun h7 r8 =>
    if ¬ r8 = 0 then
      gd (hT h7 a0 = 10) <|
      gd (hT h7 (hR h7 a0 1) = 2) <|
      bv (f_Orders_add h7 (hR h7 a0 1) x2 (hI h7 a0 2)) fun h12 =>
      lq (a2 + (nI 1)) fun x13 =>
      k12 h12 a0 a1 x13
    else
      some (h7, (nI 0))
def f_Grammar_readsProduct_b12 (G : Nat → AH → Nat → Int32 → Int32 → Option (AH × Int32)) (k12 : AH → Nat → Int32 → Int32 → Option (AH × Int32)) (h : AH) (a0 : Nat) (a1 : Int32) (a2 : Int32)  : Option (AH × Int32) :=
  if (nI 400) ≤ a2 then
    some (h, (nI 1))
  else
    gd (hT h a0 = 10) <|
    if (hI h a0 3) = (nI 48) then
      f_Grammar_readsProduct_b37 G k12 h a0 a1 a2
    else
      if ¬ (hI h a0 3) = (nI 49) then
        some (h, (nI 1))
      else
        f_Grammar_readsProduct_b37 G k12 h a0 a1 a2
def f_Grammar_readsProduct_l12 (G : Nat → AH → Nat → Int32 → Int32 → Option (AH × Int32)) : Nat → AH → Nat → Int32 → Int32 → Option (AH × Int32)
  | 0, _, _, _, _ => none
  | n + 1, h, a0, a1, a2 => f_Grammar_readsProduct_b12 G (f_Grammar_readsProduct_l12 G  n) h a0 a1 a2
def f_Grammar_readsProduct (G : Nat → AH → Nat → Int32 → Int32 → Option (AH × Int32)) (h : AH) (a0 : Nat) (a1 : Int32) : Option (AH × Int32) :=
  gd (hT h a0 = 10) <|
  bn (G 5 h a0 a1 (nI 0)) fun h2 r3 =>
  if ¬ r3 = 0 then
    f_Grammar_readsProduct_l12 G  FU h2 a0 a1 (nI 0)
  else
    some (h2, (nI 0))
def f_Grammar_readsValue (G : Nat → AH → Nat → Int32 → Int32 → Option (AH × Int32)) (h : AH) (a0 : Nat) (a1 : Int32) : Option (AH × Int32) :=
  gd (hT h a0 = 10) <|
  lq (hI h a0 3) fun x2 =>
  if x2 = nI 2 then
    gd (hT h (hR h a0 1) = 2) <|
    bv (f_Orders_add h (hR h a0 1) x2 ((hI h a0 2) + (nI 1))) fun h5 =>
    gd (hT h5 a0 = 10) <|
    bn (f_Grammar_reads h5 a0 x2) fun h7 r8 =>
    if r8 = 0 then
      some (h7, (nI 0))
    else
      gd (hT h7 a0 = 10) <|
      bn (f_Grammar_reads h7 a0 (nI 55)) fun h11 r12 =>
      if r12 = 0 then
        some (h11, (nI 0))
      else
        some (h11, (nI 1))
  else
  if x2 = nI 3 then
    some (h, (nI 0))
  else
  if x2 = nI 4 then
    some (h, (nI 0))
  else
  if x2 = nI 5 then
    some (h, (nI 0))
  else
  if x2 = nI 6 then
    some (h, (nI 0))
  else
  if x2 = nI 7 then
    some (h, (nI 0))
  else
  if x2 = nI 8 then
    some (h, (nI 0))
  else
  if x2 = nI 9 then
    some (h, (nI 0))
  else
  if x2 = nI 10 then
    some (h, (nI 0))
  else
  if x2 = nI 11 then
    some (h, (nI 0))
  else
  if x2 = nI 12 then
    some (h, (nI 0))
  else
  if x2 = nI 13 then
    some (h, (nI 0))
  else
  if x2 = nI 14 then
    some (h, (nI 0))
  else
  if x2 = nI 15 then
    some (h, (nI 0))
  else
  if x2 = nI 16 then
    some (h, (nI 0))
  else
  if x2 = nI 17 then
    gd (hT h (hR h a0 1) = 2) <|
    bv (f_Orders_add h (hR h a0 1) x2 ((hI h a0 2) + (nI 1))) fun h30 =>
    gd (hT h30 a0 = 10) <|
    bn (f_Grammar_reads h30 a0 x2) fun h32 r33 =>
    if r33 = 0 then
      some (h32, (nI 0))
    else
      gd (hT h32 a0 = 10) <|
      bn (f_Grammar_isGrade h32 (hI h32 a0 3)) fun h36 r37 =>
      if r37 = 0 then
        some (h36, (nI 0))
      else
        gd (hT h36 a0 = 10) <|
        bn (f_Grammar_reads h36 a0 (hI h36 a0 3)) fun h40 r41 =>
        if r41 = 0 then
          some (h40, (nI 0))
        else
          some (h40, (nI 1))
  else
  if x2 = nI 18 then
    some (h, (nI 0))
  else
  if x2 = nI 19 then
    some (h, (nI 0))
  else
  if x2 = nI 20 then
    some (h, (nI 0))
  else
  if x2 = nI 21 then
    some (h, (nI 0))
  else
  if x2 = nI 22 then
    some (h, (nI 0))
  else
  if x2 = nI 23 then
    some (h, (nI 0))
  else
  if x2 = nI 24 then
    some (h, (nI 0))
  else
  if x2 = nI 25 then
    some (h, (nI 0))
  else
  if x2 = nI 26 then
    some (h, (nI 0))
  else
  if x2 = nI 27 then
    gd (hT h (hR h a0 1) = 2) <|
    bv (f_Orders_add h (hR h a0 1) x2 (hI h a0 2)) fun h54 =>
    gd (hT h54 a0 = 10) <|
    bn (f_Grammar_reads h54 a0 x2) fun h56 r57 =>
    gd (nrm 3 r57) <|
    some (h56, r57)
  else
  if x2 = nI 28 then
    gd (hT h (hR h a0 1) = 2) <|
    bv (f_Orders_add h (hR h a0 1) x2 (hI h a0 2)) fun h61 =>
    gd (hT h61 a0 = 10) <|
    bn (f_Grammar_reads h61 a0 x2) fun h63 r64 =>
    gd (nrm 3 r64) <|
    some (h63, r64)
  else
  if x2 = nI 29 then
    gd (hT h (hR h a0 1) = 2) <|
    bv (f_Orders_add h (hR h a0 1) x2 ((hI h a0 2) + (nI 1))) fun h68 =>
    gd (hT h68 a0 = 10) <|
    bn (f_Grammar_reads h68 a0 x2) fun h70 r71 =>
    if r71 = 0 then
      some (h70, (nI 0))
    else
      gd (hT h70 a0 = 10) <|
      bn (f_Grammar_reads h70 a0 (nI 55)) fun h74 r75 =>
      if r75 = 0 then
        some (h74, (nI 0))
      else
        some (h74, (nI 1))
  else
  if x2 = nI 30 then
    gd (hT h (hR h a0 1) = 2) <|
    bv (f_Orders_add h (hR h a0 1) x2 ((hI h a0 2) + (nI 1))) fun h79 =>
    gd (hT h79 a0 = 10) <|
    bn (f_Grammar_reads h79 a0 x2) fun h81 r82 =>
    if r82 = 0 then
      some (h81, (nI 0))
    else
      gd (hT h81 a0 = 10) <|
      bn (f_Grammar_reads h81 a0 (nI 55)) fun h85 r86 =>
      if r86 = 0 then
        some (h85, (nI 0))
      else
        some (h85, (nI 1))
  else
  if x2 = nI 31 then
    gd (hT h (hR h a0 1) = 2) <|
    bv (f_Orders_add h (hR h a0 1) x2 ((hI h a0 2) + (nI 1))) fun h90 =>
    gd (hT h90 a0 = 10) <|
    bn (f_Grammar_reads h90 a0 x2) fun h92 r93 =>
    if r93 = 0 then
      some (h92, (nI 0))
    else
      gd (hT h92 a0 = 10) <|
      bn (f_Grammar_isGrade h92 (hI h92 a0 3)) fun h96 r97 =>
      if r97 = 0 then
        some (h96, (nI 0))
      else
        gd (hT h96 a0 = 10) <|
        bn (f_Grammar_reads h96 a0 (hI h96 a0 3)) fun h100 r101 =>
        if r101 = 0 then
          some (h100, (nI 0))
        else
          some (h100, (nI 1))
  else
  if x2 = nI 32 then
    gd (hT h (hR h a0 1) = 2) <|
    bv (f_Orders_add h (hR h a0 1) x2 ((hI h a0 2) + (nI 1))) fun h105 =>
    gd (hT h105 a0 = 10) <|
    bn (f_Grammar_reads h105 a0 x2) fun h107 r108 =>
    if r108 = 0 then
      some (h107, (nI 0))
    else
      gd (hT h107 a0 = 10) <|
      bn (f_Grammar_reads h107 a0 (nI 55)) fun h111 r112 =>
      if r112 = 0 then
        some (h111, (nI 0))
      else
        some (h111, (nI 1))
  else
  if x2 = nI 33 then
    some (h, (nI 0))
  else
  if x2 = nI 34 then
    some (h, (nI 0))
  else
  if x2 = nI 35 then
    some (h, (nI 0))
  else
  if x2 = nI 36 then
    some (h, (nI 0))
  else
  if x2 = nI 37 then
    some (h, (nI 0))
  else
  if x2 = nI 38 then
    bn (G 6 h a0 x2 a1) fun h120 r121 =>
    gd (nrm 3 r121) <|
    some (h120, r121)
  else
  if x2 = nI 39 then
    bn (G 6 h a0 x2 a1) fun h124 r125 =>
    gd (nrm 3 r125) <|
    some (h124, r125)
  else
  if x2 = nI 40 then
    bn (f_Grammar_mayGoDeeper h a1) fun h128 r129 =>
    if r129 = 0 then
      some (h128, (nI 0))
    else
      gd (hT h128 a0 = 10) <|
      bn (f_Grammar_reads h128 a0 (nI 40)) fun h132 r133 =>
      if r133 = 0 then
        some (h132, (nI 0))
      else
        gd (hT h132 a0 = 10) <|
        bn (G 3 h132 a0 (a1 + (nI 1)) (nI 0)) fun h136 r137 =>
        if r137 = 0 then
          some (h136, (nI 0))
        else
          gd (hT h136 a0 = 10) <|
          bn (f_Grammar_reads h136 a0 (nI 41)) fun h140 r141 =>
          if r141 = 0 then
            some (h140, (nI 0))
          else
            some (h140, (nI 1))
  else
  if x2 = nI 41 then
    some (h, (nI 0))
  else
  if x2 = nI 42 then
    some (h, (nI 0))
  else
  if x2 = nI 43 then
    some (h, (nI 0))
  else
  if x2 = nI 44 then
    some (h, (nI 0))
  else
  if x2 = nI 45 then
    some (h, (nI 0))
  else
  if x2 = nI 46 then
    some (h, (nI 0))
  else
  if x2 = nI 47 then
    bn (f_Grammar_mayGoDeeper h a1) fun h150 r151 =>
    if r151 = 0 then
      some (h150, (nI 0))
    else
      gd (hT h150 a0 = 10) <|
      bn (f_Grammar_reads h150 a0 (nI 47)) fun h154 r155 =>
      if r155 = 0 then
        some (h154, (nI 0))
      else
        gd (hT h154 a0 = 10) <|
        bn (G 5 h154 a0 (a1 + (nI 1)) (nI 0)) fun h158 r159 =>
        if ¬ r159 = 0 then
          gd (hT h158 a0 = 10) <|
          gd (hT h158 (hR h158 a0 1) = 2) <|
          bv (f_Orders_add h158 (hR h158 a0 1) (nI 59) (hI h158 a0 2)) fun h163 =>
          some (h163, (nI 1))
        else
          some (h158, (nI 0))
  else
  if x2 = nI 48 then
    some (h, (nI 0))
  else
  if x2 = nI 49 then
    some (h, (nI 0))
  else
  if x2 = nI 50 then
    some (h, (nI 0))
  else
  if x2 = nI 51 then
    some (h, (nI 0))
  else
  if x2 = nI 52 then
    some (h, (nI 0))
  else
  if x2 = nI 53 then
    some (h, (nI 0))
  else
  if x2 = nI 54 then
    some (h, (nI 0))
  else
  if x2 = nI 55 then
    some (h, (nI 0))
  else
  if x2 = nI 56 then
    gd (hT h (hR h a0 1) = 2) <|
    bv (f_Orders_add h (hR h a0 1) x2 (hI h a0 2)) fun h174 =>
    gd (hT h174 a0 = 10) <|
    bn (f_Grammar_reads h174 a0 x2) fun h176 r177 =>
    gd (nrm 3 r177) <|
    some (h176, r177)
  else
  some (h, (nI 0))
def f_Grammar_readsChoice (G : Nat → AH → Nat → Int32 → Int32 → Option (AH × Int32)) (h : AH) (a0 : Nat) (a1 : Int32) (a2 : Int32) : Option (AH × Int32) :=
  gd (hT h a0 = 10) <|
  bn (f_Grammar_reads h a0 a1) fun h2 r3 =>
  if r3 = 0 then
    some (h2, (nI 0))
  else
    bn (f_Grammar_mayGoDeeper h2 a2) fun h5 r6 =>
    if r6 = 0 then
      some (h5, (nI 0))
    else
      gd (hT h5 a0 = 10) <|
      bn (f_Grammar_reads h5 a0 (nI 40)) fun h9 r10 =>
      if r10 = 0 then
        some (h9, (nI 0))
      else
        gd (hT h9 a0 = 10) <|
        bn (G 3 h9 a0 (a2 + (nI 1)) (nI 0)) fun h13 r14 =>
        if ¬ r14 = 0 then
          gd (hT h13 a0 = 10) <|
          bn (f_Grammar_reads h13 a0 (nI 45)) fun h17 r18 =>
          if r18 = 0 then
            some (h17, (nI 0))
          else
            gd (hT h17 a0 = 10) <|
            bn (G 3 h17 a0 (a2 + (nI 1)) (nI 0)) fun h21 r22 =>
            if r22 = 0 then
              some (h21, (nI 0))
            else
              gd (hT h21 a0 = 10) <|
              bn (f_Grammar_reads h21 a0 (nI 41)) fun h25 r26 =>
              if ¬ r26 = 0 then
                gd (hT h25 a0 = 10) <|
                gd (hT h25 (hR h25 a0 1) = 2) <|
                bv (f_Orders_add h25 (hR h25 a0 1) a1 (hI h25 a0 2)) fun h30 =>
                some (h30, (nI 1))
              else
                some (h25, (nI 0))
        else
          some (h13, (nI 0))
def gG : Nat → Nat → AH → Nat → Int32 → Int32 → Option (AH × Int32)
  | 0, _, _, _, _, _ => none
  | n + 1, 0, h, a, x, _ => f_Grammar_readsTest (gG n) h a x
  | n + 1, 1, h, a, x, _ => f_Grammar_readsBoth (gG n) h a x
  | n + 1, 2, h, a, x, _ => f_Grammar_readsSingle (gG n) h a x
  | n + 1, 3, h, a, x, _ => f_Grammar_readsSum (gG n) h a x
  | n + 1, 4, h, a, x, _ => f_Grammar_readsProduct (gG n) h a x
  | n + 1, 5, h, a, x, _ => f_Grammar_readsValue (gG n) h a x
  | n + 1, _ + 6, h, a, x, y => f_Grammar_readsChoice (gG n) h a x y
def GN : Nat := 60
def f_Grammar_readsOrderWithTest (h : AH) (a0 : Nat) (a1 : Int32) : Option (AH × Int32) :=
  gd (hT h a0 = 10) <|
  lq ((hI h a0 2) + (nI 1)) fun x2 =>
  bn (f_Grammar_readsNameOf h a0 a1) fun h3 r4 =>
  if r4 = 0 then
    some (h3, (nI 0))
  else
    gd (hT h3 a0 = 10) <|
    bn (f_Grammar_reads h3 a0 (nI 26)) fun h7 r8 =>
    if r8 = 0 then
      some (h7, (nI 0))
    else
      gd (hT h7 a0 = 10) <|
      bn (gG GN 0 h7 a0 (nI 0) (nI 0)) fun h11 r12 =>
      if ¬ r12 = 0 then
        gd (hT h11 a0 = 10) <|
        gd (hT h11 (hR h11 a0 1) = 2) <|
        bv (f_Orders_add h11 (hR h11 a0 1) a1 x2) fun h16 =>
        some (h16, (nI 1))
      else
        some (h11, (nI 0))
def f_Grammar_readsLoading_b115 (h : AH) (a0 : Nat) (a1 : Int32)  : Option (AH × Int32) :=
  gd (hT h a0 = 10) <|
  gd (hT h (hR h a0 1) = 2) <|
  bv (f_Orders_add h (hR h a0 1) (nI 23) a1) fun h3 =>
  some (h3, (nI 1))
def f_Grammar_readsLoading (h : AH) (a0 : Nat) : Option (AH × Int32) :=
  gd (hT h a0 = 10) <|
  lq ((hI h a0 2) + (nI 1)) fun x2 =>
  bn (f_Grammar_readsNameOf h a0 (nI 23)) fun h3 r4 =>
  if r4 = 0 then
    some (h3, (nI 0))
  else
    gd (hT h3 a0 = 10) <|
    bn (f_Grammar_reads h3 a0 (nI 24)) fun h7 r8 =>
    if r8 = 0 then
      some (h7, (nI 0))
    else
      gd (hT h7 a0 = 10) <|
      bn (gG GN 3 h7 a0 (nI 0) (nI 0)) fun h11 r12 =>
      if r12 = 0 then
        some (h11, (nI 0))
      else
        gd (hT h11 a0 = 10) <|
        bn (f_Grammar_reads h11 a0 (nI 8)) fun h15 r16 =>
        if ¬ r16 = 0 then
          gd (hT h15 a0 = 10) <|
          gd (hT h15 (hR h15 a0 1) = 2) <|
          bv (f_Orders_add h15 (hR h15 a0 1) (nI 56) (hI h15 a0 2)) fun h20 =>
          gd (hT h20 a0 = 10) <|
          bn (f_Grammar_isGrade h20 (hI h20 a0 3)) fun h22 r23 =>
          if r23 = 0 then
            some (h22, (nI 0))
          else
            gd (hT h22 a0 = 10) <|
            bn (f_Grammar_reads h22 a0 (hI h22 a0 3)) fun h26 r27 =>
            if ¬ r27 = 0 then
              gd (hT h26 a0 = 10) <|
              bn (f_Grammar_reads h26 a0 (nI 26)) fun h30 r31 =>
              if ¬ r31 = 0 then
                gd (hT h30 a0 = 10) <|
                bn (gG GN 0 h30 a0 (nI 0) (nI 0)) fun h34 r35 =>
                if ¬ r35 = 0 then
                  f_Grammar_readsLoading_b115  h34 a0 x2
                else
                  some (h34, (nI 0))
              else
                gd (hT h30 a0 = 10) <|
                gd (hT h30 (hR h30 a0 1) = 2) <|
                bv (f_Orders_add h30 (hR h30 a0 1) (nI 60) (hI h30 a0 2)) fun h39 =>
                f_Grammar_readsLoading_b115  h39 a0 x2
            else
              some (h26, (nI 0))
        else
          some (h15, (nI 0))
def f_Grammar_readsLine (h : AH) (a0 : Nat) : Option (AH × Int32) :=
  gd (hT h a0 = 10) <|
  lq (hI h a0 3) fun x2 =>
  if x2 = nI 1 then
    bn (f_Grammar_readsNameOf h a0 (nI 1)) fun h4 r5 =>
    if r5 = 0 then
      some (h4, (nI 0))
    else
      gd (hT h4 a0 = 10) <|
      bn (f_Grammar_readsNumberOf h4 a0 (nI 2)) fun h8 r9 =>
      if r9 = 0 then
        some (h8, (nI 0))
      else
        gd (hT h8 a0 = 10) <|
        bn (f_Grammar_readsNumberOf h8 a0 (nI 3)) fun h12 r13 =>
        if r13 = 0 then
          some (h12, (nI 0))
        else
          gd (hT h12 a0 = 10) <|
          bn (f_Grammar_readsNumberOf h12 a0 (nI 4)) fun h16 r17 =>
          if r17 = 0 then
            some (h16, (nI 0))
          else
            some (h16, (nI 1))
  else
  if x2 = nI 2 then
    some (h, (nI 0))
  else
  if x2 = nI 3 then
    some (h, (nI 0))
  else
  if x2 = nI 4 then
    some (h, (nI 0))
  else
  if x2 = nI 5 then
    bn (f_Grammar_readsNameOf h a0 (nI 5)) fun h23 r24 =>
    if r24 = 0 then
      some (h23, (nI 0))
    else
      gd (hT h23 a0 = 10) <|
      bn (f_Grammar_readsNumberOf h23 a0 (nI 6)) fun h27 r28 =>
      if r28 = 0 then
        some (h27, (nI 0))
      else
        some (h27, (nI 1))
  else
  if x2 = nI 6 then
    some (h, (nI 0))
  else
  if x2 = nI 7 then
    bn (f_Grammar_readsNameOf h a0 (nI 7)) fun h32 r33 =>
    if r33 = 0 then
      some (h32, (nI 0))
    else
      gd (hT h32 a0 = 10) <|
      bn (f_Grammar_readsNameOf h32 a0 (nI 8)) fun h36 r37 =>
      if r37 = 0 then
        some (h36, (nI 0))
      else
        gd (hT h36 a0 = 10) <|
        bn (f_Grammar_readsNameOf h36 a0 (nI 9)) fun h40 r41 =>
        if r41 = 0 then
          some (h40, (nI 0))
        else
          gd (hT h40 a0 = 10) <|
          bn (f_Grammar_readsNumberOf h40 a0 (nI 10)) fun h44 r45 =>
          if r45 = 0 then
            some (h44, (nI 0))
          else
            some (h44, (nI 1))
  else
  if x2 = nI 8 then
    some (h, (nI 0))
  else
  if x2 = nI 9 then
    some (h, (nI 0))
  else
  if x2 = nI 10 then
    some (h, (nI 0))
  else
  if x2 = nI 11 then
    bn (f_Grammar_readsNameOf h a0 (nI 11)) fun h51 r52 =>
    if r52 = 0 then
      some (h51, (nI 0))
    else
      gd (hT h51 a0 = 10) <|
      bn (f_Grammar_readsNumberOf h51 a0 (nI 6)) fun h55 r56 =>
      if r56 = 0 then
        some (h55, (nI 0))
      else
        gd (hT h55 a0 = 10) <|
        bn (f_Grammar_readsNumberOf h55 a0 (nI 12)) fun h59 r60 =>
        if r60 = 0 then
          some (h59, (nI 0))
        else
          some (h59, (nI 1))
  else
  if x2 = nI 12 then
    some (h, (nI 0))
  else
  if x2 = nI 13 then
    bn (f_Grammar_readsNumberOf h a0 (nI 13)) fun h64 r65 =>
    if r65 = 0 then
      some (h64, (nI 0))
    else
      gd (hT h64 a0 = 10) <|
      bn (f_Grammar_readsNumberOf h64 a0 (nI 14)) fun h68 r69 =>
      if r69 = 0 then
        some (h68, (nI 0))
      else
        some (h68, (nI 1))
  else
  if x2 = nI 14 then
    some (h, (nI 0))
  else
  if x2 = nI 15 then
    bn (f_Grammar_readsNumberOf h a0 (nI 15)) fun h73 r74 =>
    if r74 = 0 then
      some (h73, (nI 0))
    else
      gd (hT h73 a0 = 10) <|
      bn (f_Grammar_readsNumberOf h73 a0 (nI 16)) fun h77 r78 =>
      if r78 = 0 then
        some (h77, (nI 0))
      else
        some (h77, (nI 1))
  else
  if x2 = nI 16 then
    some (h, (nI 0))
  else
  if x2 = nI 17 then
    bn (f_Grammar_reads h a0 (nI 17)) fun h82 r83 =>
    if r83 = 0 then
      some (h82, (nI 0))
    else
      gd (hT h82 a0 = 10) <|
      bn (f_Grammar_isGrade h82 (hI h82 a0 3)) fun h86 r87 =>
      if r87 = 0 then
        some (h86, (nI 0))
      else
        gd (hT h86 a0 = 10) <|
        bn (f_Grammar_reads h86 a0 (hI h86 a0 3)) fun h90 r91 =>
        if r91 = 0 then
          some (h90, (nI 0))
        else
          gd (hT h90 a0 = 10) <|
          bn (f_Grammar_reads h90 a0 (nI 56)) fun h94 r95 =>
          if r95 = 0 then
            some (h94, (nI 0))
          else
            some (h94, (nI 1))
  else
  if x2 = nI 18 then
    some (h, (nI 0))
  else
  if x2 = nI 19 then
    some (h, (nI 0))
  else
  if x2 = nI 20 then
    some (h, (nI 0))
  else
  if x2 = nI 21 then
    some (h, (nI 0))
  else
  if x2 = nI 22 then
    bn (f_Grammar_readsOrderWithTest h a0 (nI 22)) fun h102 r103 =>
    gd (nrm 3 r103) <|
    some (h102, r103)
  else
  if x2 = nI 23 then
    bn (f_Grammar_readsLoading h a0) fun h106 r107 =>
    gd (nrm 3 r107) <|
    some (h106, r107)
  else
  if x2 = nI 24 then
    some (h, (nI 0))
  else
  if x2 = nI 25 then
    bn (f_Grammar_readsOrderWithTest h a0 (nI 25)) fun h111 r112 =>
    gd (nrm 3 r112) <|
    some (h111, r112)
  else
  some (h, (nI 0))
def f_Grammar_readsList_b29 (k29 : AH → Nat → Int32 → Option (AH × Int32)) (h : AH) (a0 : Nat) (a1 : Int32)  : Option (AH × Int32) :=
  if (nI 400) < a1 then
    some (h, (nI 0))
  else
    gd (hT h a0 = 10) <|
    if ¬ (hI h a0 3) = (nI 57) then
      bn (f_Grammar_readsLine h a0) fun h4 r5 =>
      if r5 = 0 then
        some (h4, (nI 0))
      else
        gd (hT h4 a0 = 10) <|
        bn (f_Grammar_reads h4 a0 (nI 44)) fun h8 r9 =>
        if ¬ r9 = 0 then
          lq (a1 + (nI 1)) fun x11 =>
          k29 h8 a0 x11
        else
          some (h8, (nI 0))
    else
      some (h, (nI 1))
def f_Grammar_readsList_l29 : Nat → AH → Nat → Int32 → Option (AH × Int32)
  | 0, _, _, _ => none
  | n + 1, h, a0, a1 => f_Grammar_readsList_b29 (f_Grammar_readsList_l29  n) h a0 a1
def f_Grammar_readsList (h : AH) (a0 : Nat) : Option (AH × Int32) :=
  gd (hT h a0 = 10) <|
  lq (wI h a0 2 (nI 0)) fun h2 =>
  gd (hT h2 a0 = 10) <|
  gd (hT h2 (hR h2 a0 0) = 11) <|
  bn (f_Tokens_kindOf_I h2 (hR h2 a0 0) (hI h2 a0 2)) fun h5 r6 =>
  gd (hT h5 a0 = 10) <|
  lq (wI h5 a0 3 r6) fun h8 =>
  gd (hT h8 a0 = 10) <|
  gd (hT h8 (hR h8 a0 1) = 2) <|
  bv (f_Orders_clear h8 (hR h8 a0 1)) fun h11 =>
  f_Grammar_readsList_l29  FU h11 a0 (nI 0)
def f_Grammar_place (h : AH) (a0 : Nat) : Option (AH × Int32) :=
  gd (hT h a0 = 10) <|
  some (h, (hI h a0 2))
def f_Tokens_startOf (h : AH) (a0 : Nat) (a1 : Int32) : Option (AH × Int32) :=
  if a1 < 0 then
    some (h, (nI 0))
  else
    gd (hT h a0 = 11) <|
    gd (hT h (hR h a0 2) = 101) <|
    if (nI (hL h (hR h a0 2))) ≤ a1 then
      some (h, (nI 0))
    else
      gd (hT h (hR h a0 2) = 101 ∧ inb a1 (hL h (hR h a0 2))) <|
      some (h, (hI h (hR h a0 2) (ix a1)))
def f_Roll_clear (h : AH) (a0 : Nat) : Option AH :=
  gd (hT h a0 = 12) <|
  lq (wI h a0 1 (nI 0)) fun h2 =>
  some h2
def f_Tokens_wordOf_b22 (h : AH)   : Option (AH × Int64) :=
  some (h, (Int64.ofNat 0))
def f_Tokens_wordOf (h : AH) (a0 : Nat) (a1 : Int32) : Option (AH × Int64) :=
  if a1 < 0 then
    f_Tokens_wordOf_b22  h 
  else
    gd (hT h a0 = 11) <|
    gd (hT h (hR h a0 4) = 103) <|
    if (nI (hL h (hR h a0 4))) ≤ a1 then
      f_Tokens_wordOf_b22  h 
    else
      gd (hT h (hR h a0 4) = 103 ∧ inb a1 (hL h (hR h a0 4))) <|
      some (h, (hJ h (hR h a0 4) (ix a1)))
def f_Roll_placeOf_b2 (k2 : AH → Nat → Int64 → Int32 → Option (AH × Int32)) (h : AH) (a0 : Nat) (a1 : Int64) (a3 : Int32)  : Option (AH × Int32) :=
  gd (hT h a0 = 12) <|
  if (hI h a0 1) ≤ a3 then
    some (h, (-nI 1))
  else
    gd (hT h (hR h a0 0) = 103) <|
    if (nI (hL h (hR h a0 0))) ≤ a3 then
      some (h, (-nI 1))
    else
      gd (hT h (hR h a0 0) = 103 ∧ inb a3 (hL h (hR h a0 0))) <|
      if ¬ (if (hJ h (hR h a0 0) (ix a3)) < a1 then (-1 : Int32) else if (hJ h (hR h a0 0) (ix a3)) = a1 then 0 else 1) = 0 then
        lq (a3 + (nI 1)) fun x7 =>
        k2 h a0 a1 x7
      else
        some (h, a3)
def f_Roll_placeOf_l2 : Nat → AH → Nat → Int64 → Int32 → Option (AH × Int32)
  | 0, _, _, _, _ => none
  | n + 1, h, a0, a1, a3 => f_Roll_placeOf_b2 (f_Roll_placeOf_l2  n) h a0 a1 a3
def f_Roll_placeOf (h : AH) (a0 : Nat) (a1 : Int64) : Option (AH × Int32) :=
  f_Roll_placeOf_l2  FU h a0 a1 (nI 0)
def f_Roll_takes (h : AH) (a0 : Nat) (a1 : Int64) : Option (AH × Int32) :=
  gd (hT h a0 = 12) <|
  if (hI h a0 1) < 0 then
    some (h, (nI 0))
  else
    gd (hT h (hR h a0 0) = 103) <|
    if (hI h a0 1) < (nI (hL h (hR h a0 0))) then
      gd (hT h (hR h a0 0) = 103 ∧ inb (hI h a0 1) (hL h (hR h a0 0))) <|
      lq (wJ h (hR h a0 0) (ix (hI h a0 1)) a1) fun h6 =>
      gd (hT h6 a0 = 12) <|
      lq (wI h6 a0 1 ((hI h6 a0 1) + (nI 1))) fun h8 =>
      some (h8, (nI 1))
    else
      some (h, (nI 0))
def f_River_hasRack (h : AH) (a0 : Nat) (a1 : Int32) : Option (AH × Int32) :=
  if a1 < 0 then
    some (h, (nI 0))
  else
    gd (hT h a0 = 3) <|
    if (hI h a0 7) ≤ a1 then
      some (h, (nI 0))
    else
      if (nI 4) ≤ a1 then
        some (h, (nI 0))
      else
        some (h, (nI 1))
def f_River_latestRack_b27 (h : AH)  (s0 : Nat) (s1 : Int32) : Option (AH × Nat) :=
  gd (hT h s0 = 105 ∧ inb s1 (hL h s0)) <|
  some (h, (hR h s0 (ix s1)))
def f_River_latestRack (h : AH) (a0 : Nat) : Option (AH × Nat) :=
  gd (hT h a0 = 3) <|
  bn (f_River_hasRack h a0 ((hI h a0 7) - (nI 1))) fun h2 r3 =>
  if r3 = 0 then
    f_River_latestRack_b27  h2 (hR h a0 1) (nI 0)
  else
    gd (hT h2 a0 = 3) <|
    f_River_latestRack_b27  h2 (hR h a0 1) ((hI h2 a0 7) - (nI 1))
def f_Rack_clear (h : AH) (a0 : Nat) : Option AH :=
  gd (hT h a0 = 5) <|
  lq (wI h a0 1 (nI 0)) fun h2 =>
  gd (hT h2 a0 = 5) <|
  lq (wI h2 a0 2 (nI 0)) fun h4 =>
  some h4
def f_River_hasPeeler (h : AH) (a0 : Nat) (a1 : Int32) : Option (AH × Int32) :=
  if a1 < 0 then
    some (h, (nI 0))
  else
    gd (hT h a0 = 3) <|
    if (hI h a0 8) ≤ a1 then
      some (h, (nI 0))
    else
      if (nI 8) ≤ a1 then
        some (h, (nI 0))
      else
        some (h, (nI 1))
def f_River_latestPeeler_b27 (h : AH)  (s0 : Nat) (s1 : Int32) : Option (AH × Nat) :=
  gd (hT h s0 = 106 ∧ inb s1 (hL h s0)) <|
  some (h, (hR h s0 (ix s1)))
def f_River_latestPeeler (h : AH) (a0 : Nat) : Option (AH × Nat) :=
  gd (hT h a0 = 3) <|
  bn (f_River_hasPeeler h a0 ((hI h a0 8) - (nI 1))) fun h2 r3 =>
  if r3 = 0 then
    f_River_latestPeeler_b27  h2 (hR h a0 2) (nI 0)
  else
    gd (hT h2 a0 = 3) <|
    f_River_latestPeeler_b27  h2 (hR h a0 2) ((hI h2 a0 8) - (nI 1))
def f_Peeler_clear (h : AH) (a0 : Nat) : Option AH :=
  gd (hT h a0 = 6) <|
  lq (wI h a0 3 (nI 20)) fun h2 =>
  gd (hT h2 a0 = 6) <|
  lq (wI h2 a0 4 (nI 0)) fun h4 =>
  gd (hT h4 a0 = 6) <|
  lq (wI h4 a0 5 (nI 0)) fun h6 =>
  gd (hT h6 a0 = 6 ∧ ((nI 0) = 0 ∨ (nI 0) = 1)) <|
  lq (wI h6 a0 6 (nI 0)) fun h8 =>
  some h8
def f_River_hasBoat (h : AH) (a0 : Nat) (a1 : Int32) : Option (AH × Int32) :=
  if a1 < 0 then
    some (h, (nI 0))
  else
    gd (hT h a0 = 3) <|
    if (hI h a0 9) ≤ a1 then
      some (h, (nI 0))
    else
      if (nI 4) ≤ a1 then
        some (h, (nI 0))
      else
        some (h, (nI 1))
def f_River_latestBoat_b27 (h : AH)  (s0 : Nat) (s1 : Int32) : Option (AH × Nat) :=
  gd (hT h s0 = 107 ∧ inb s1 (hL h s0)) <|
  some (h, (hR h s0 (ix s1)))
def f_River_latestBoat (h : AH) (a0 : Nat) : Option (AH × Nat) :=
  gd (hT h a0 = 3) <|
  bn (f_River_hasBoat h a0 ((hI h a0 9) - (nI 1))) fun h2 r3 =>
  if r3 = 0 then
    f_River_latestBoat_b27  h2 (hR h a0 3) (nI 0)
  else
    gd (hT h2 a0 = 3) <|
    f_River_latestBoat_b27  h2 (hR h a0 3) ((hI h2 a0 9) - (nI 1))
def f_Boat_clear (h : AH) (a0 : Nat) : Option AH :=
  gd (hT h a0 = 7) <|
  lq (wI h a0 2 (nI 0)) fun h2 =>
  gd (hT h2 a0 = 7) <|
  lq (wI h2 a0 3 (nI 0)) fun h4 =>
  gd (hT h4 a0 = 7) <|
  lq (wI h4 a0 4 (nI 0)) fun h6 =>
  gd (hT h6 a0 = 7) <|
  lq (wI h6 a0 5 (-nI 1)) fun h8 =>
  gd (hT h8 a0 = 7) <|
  lq (wI h8 a0 6 (nI 0)) fun h10 =>
  some h10
def f_River_addOne_b94 (h : AH) (a0 : Nat) (a1 : Int32)  : Option AH :=
  if ¬ a1 = (nI 11) then
    some h
  else
    gd (hT h a0 = 3) <|
    if (nI 4) ≤ (hI h a0 9) then
      some h
    else
      lq (wI h a0 9 ((hI h a0 9) + (nI 1))) fun h4 =>
      gd (hT h4 a0 = 3) <|
      bn (f_River_latestBoat h4 a0) fun h6 r7 =>
      gd (hT h6 r7 = 7) <|
      bv (f_Boat_clear h6 r7) fun h9 =>
      some h9
def f_River_addOne_b59 (h : AH) (a0 : Nat) (a1 : Int32)  : Option AH :=
  if ¬ a1 = (nI 7) then
    f_River_addOne_b94  h a0 a1
  else
    gd (hT h a0 = 3) <|
    if (nI 8) ≤ (hI h a0 8) then
      f_River_addOne_b94  h a0 a1
    else
      lq (wI h a0 8 ((hI h a0 8) + (nI 1))) fun h4 =>
      gd (hT h4 a0 = 3) <|
      bn (f_River_latestPeeler h4 a0) fun h6 r7 =>
      gd (hT h6 r7 = 6) <|
      bv (f_Peeler_clear h6 r7) fun h9 =>
      some h9
def f_River_addOne_b26 (h : AH) (a0 : Nat) (a1 : Int32)  : Option AH :=
  if ¬ a1 = (nI 5) then
    f_River_addOne_b59  h a0 a1
  else
    gd (hT h a0 = 3) <|
    if (nI 4) ≤ (hI h a0 7) then
      f_River_addOne_b59  h a0 a1
    else
      lq (wI h a0 7 ((hI h a0 7) + (nI 1))) fun h4 =>
      gd (hT h4 a0 = 3) <|
      bn (f_River_latestRack h4 a0) fun h6 r7 =>
      gd (hT h6 r7 = 5) <|
      bv (f_Rack_clear h6 r7) fun h9 =>
      some h9
def f_River_addOne (h : AH) (a0 : Nat) (a1 : Int32) : Option AH :=
  if ¬ a1 = (nI 1) then
    f_River_addOne_b26  h a0 a1
  else
    gd (hT h a0 = 3) <|
    if (nI 4) ≤ (hI h a0 6) then
      f_River_addOne_b26  h a0 a1
    else
      lq (wI h a0 6 ((hI h a0 6) + (nI 1))) fun h4 =>
      some h4
def f_Names_addName (h : AH) (a0 : Nat) (a1 : Nat) (a2 : Int32) : Option (AH × Int32) :=
  gd (hT h a0 = 9) <|
  gd (hT h (hR h a0 1) = 11) <|
  bn (f_Tokens_wordOf h (hR h a0 1) (hI h a0 7)) fun h3 r4 =>
  gd (hT h3 a1 = 12) <|
  bn (f_Roll_placeOf h3 a1 r4) fun h6 r7 =>
  if r7 < 0 then
    gd (hT h6 a0 = 9) <|
    gd (hT h6 (hR h6 a0 1) = 11) <|
    bn (f_Tokens_wordOf h6 (hR h6 a0 1) (hI h6 a0 7)) fun h11 r12 =>
    gd (hT h11 a1 = 12) <|
    bn (f_Roll_takes h11 a1 r12) fun h14 r15 =>
    if ¬ r15 = 0 then
      gd (hT h14 a0 = 9) <|
      gd (hT h14 (hR h14 a0 2) = 3) <|
      bv (f_River_addOne h14 (hR h14 a0 2) a2) fun h19 =>
      some (h19, (nI 0))
    else
      some (h14, (nI 4))
  else
    some (h6, (nI 2))
def f_Names_findName (h : AH) (a0 : Nat) (a1 : Nat) : Option (AH × Int32) :=
  gd (hT h a0 = 9) <|
  gd (hT h (hR h a0 1) = 11) <|
  bn (f_Tokens_wordOf h (hR h a0 1) (hI h a0 7)) fun h3 r4 =>
  gd (hT h3 a1 = 12) <|
  bn (f_Roll_placeOf h3 a1 r4) fun h6 r7 =>
  gd (hT h6 a0 = 9) <|
  gd (hT h6 (hR h6 a0 1) = 11) <|
  bv (f_Tokens_setNumber h6 (hR h6 a0 1) (hI h6 a0 7) r7) fun h10 =>
  if 0 ≤ r7 then
    some (h10, (nI 0))
  else
    some (h10, (nI 3))
def f_Tokens_numberOf (h : AH) (a0 : Nat) (a1 : Int32) : Option (AH × Int32) :=
  if a1 < 0 then
    some (h, (nI 0))
  else
    gd (hT h a0 = 11) <|
    gd (hT h (hR h a0 3) = 101) <|
    if (nI (hL h (hR h a0 3))) ≤ a1 then
      some (h, (nI 0))
    else
      gd (hT h (hR h a0 3) = 101 ∧ inb a1 (hL h (hR h a0 3))) <|
      some (h, (hI h (hR h a0 3) (ix a1)))
def f_Names_setGardenOfPeeler (h : AH) (a0 : Nat) : Option (AH × Int32) :=
  gd (hT h a0 = 9) <|
  bn (f_Names_findName h a0 (hR h a0 3)) fun h2 r3 =>
  gd (hT h2 a0 = 9) <|
  gd (hT h2 (hR h2 a0 2) = 3) <|
  bn (f_River_latestPeeler h2 (hR h2 a0 2)) fun h6 r7 =>
  gd (hT h6 a0 = 9) <|
  gd (hT h6 (hR h6 a0 1) = 11) <|
  bn (f_Tokens_numberOf h6 (hR h6 a0 1) (hI h6 a0 7)) fun h10 r11 =>
  gd (hT h10 r7 = 6) <|
  lq (wI h10 r7 0 r11) fun h13 =>
  some (h13, r3)
def f_Names_setRackOfPeeler (h : AH) (a0 : Nat) : Option (AH × Int32) :=
  gd (hT h a0 = 9) <|
  bn (f_Names_findName h a0 (hR h a0 4)) fun h2 r3 =>
  gd (hT h2 a0 = 9) <|
  gd (hT h2 (hR h2 a0 2) = 3) <|
  bn (f_River_latestPeeler h2 (hR h2 a0 2)) fun h6 r7 =>
  gd (hT h6 a0 = 9) <|
  gd (hT h6 (hR h6 a0 1) = 11) <|
  bn (f_Tokens_numberOf h6 (hR h6 a0 1) (hI h6 a0 7)) fun h10 r11 =>
  gd (hT h10 r7 = 6) <|
  lq (wI h10 r7 1 r11) fun h13 =>
  some (h13, r3)
def f_Names_lookAtName (h : AH) (a0 : Nat) (a1 : Int32) : Option (AH × Int32) :=
  if a1 = nI 1 then
    gd (hT h a0 = 9) <|
    bn (f_Names_addName h a0 (hR h a0 3) (nI 1)) fun h3 r4 =>
    some (h3, r4)
  else
  if a1 = nI 2 then
    gd (hT h a0 = 9) <|
    bn (f_Names_findName h a0 (hR h a0 3)) fun h7 r8 =>
    some (h7, r8)
  else
  if a1 = nI 3 then
    gd (hT h a0 = 9) <|
    bn (f_Names_findName h a0 (hR h a0 6)) fun h11 r12 =>
    some (h11, r12)
  else
  if a1 = nI 4 then
    gd (hT h a0 = 9) <|
    bn (f_Names_findName h a0 (hR h a0 6)) fun h15 r16 =>
    some (h15, r16)
  else
  if a1 = nI 5 then
    gd (hT h a0 = 9) <|
    bn (f_Names_addName h a0 (hR h a0 4) (nI 5)) fun h19 r20 =>
    some (h19, r20)
  else
  if a1 = nI 6 then
    gd (hT h a0 = 9) <|
    bn (f_Names_findName h a0 (hR h a0 6)) fun h23 r24 =>
    some (h23, r24)
  else
  if a1 = nI 7 then
    gd (hT h a0 = 9) <|
    bn (f_Names_addName h a0 (hR h a0 5) (nI 7)) fun h27 r28 =>
    some (h27, r28)
  else
  if a1 = nI 8 then
    gd (hT h a0 = 9) <|
    bn (f_Names_setGardenOfPeeler h a0) fun h31 r32 =>
    some (h31, r32)
  else
  if a1 = nI 9 then
    gd (hT h a0 = 9) <|
    bn (f_Names_setRackOfPeeler h a0) fun h35 r36 =>
    some (h35, r36)
  else
  if a1 = nI 10 then
    gd (hT h a0 = 9) <|
    bn (f_Names_findName h a0 (hR h a0 6)) fun h39 r40 =>
    some (h39, r40)
  else
  if a1 = nI 11 then
    gd (hT h a0 = 9) <|
    bn (f_Names_addName h a0 (hR h a0 6) (nI 11)) fun h43 r44 =>
    some (h43, r44)
  else
  if a1 = nI 12 then
    gd (hT h a0 = 9) <|
    bn (f_Names_findName h a0 (hR h a0 6)) fun h47 r48 =>
    some (h47, r48)
  else
  if a1 = nI 13 then
    gd (hT h a0 = 9) <|
    bn (f_Names_findName h a0 (hR h a0 6)) fun h51 r52 =>
    some (h51, r52)
  else
  if a1 = nI 14 then
    gd (hT h a0 = 9) <|
    bn (f_Names_findName h a0 (hR h a0 6)) fun h55 r56 =>
    some (h55, r56)
  else
  if a1 = nI 15 then
    gd (hT h a0 = 9) <|
    bn (f_Names_findName h a0 (hR h a0 6)) fun h59 r60 =>
    some (h59, r60)
  else
  if a1 = nI 16 then
    gd (hT h a0 = 9) <|
    bn (f_Names_findName h a0 (hR h a0 6)) fun h63 r64 =>
    some (h63, r64)
  else
  if a1 = nI 17 then
    gd (hT h a0 = 9) <|
    bn (f_Names_findName h a0 (hR h a0 6)) fun h67 r68 =>
    some (h67, r68)
  else
  if a1 = nI 18 then
    gd (hT h a0 = 9) <|
    bn (f_Names_findName h a0 (hR h a0 6)) fun h71 r72 =>
    some (h71, r72)
  else
  if a1 = nI 19 then
    gd (hT h a0 = 9) <|
    bn (f_Names_findName h a0 (hR h a0 6)) fun h75 r76 =>
    some (h75, r76)
  else
  if a1 = nI 20 then
    gd (hT h a0 = 9) <|
    bn (f_Names_findName h a0 (hR h a0 6)) fun h79 r80 =>
    some (h79, r80)
  else
  if a1 = nI 21 then
    gd (hT h a0 = 9) <|
    bn (f_Names_findName h a0 (hR h a0 6)) fun h83 r84 =>
    some (h83, r84)
  else
  if a1 = nI 22 then
    gd (hT h a0 = 9) <|
    bn (f_Names_findName h a0 (hR h a0 5)) fun h87 r88 =>
    some (h87, r88)
  else
  if a1 = nI 23 then
    gd (hT h a0 = 9) <|
    bn (f_Names_findName h a0 (hR h a0 6)) fun h91 r92 =>
    some (h91, r92)
  else
  if a1 = nI 24 then
    gd (hT h a0 = 9) <|
    bn (f_Names_findName h a0 (hR h a0 6)) fun h95 r96 =>
    some (h95, r96)
  else
  if a1 = nI 25 then
    gd (hT h a0 = 9) <|
    bn (f_Names_findName h a0 (hR h a0 5)) fun h99 r100 =>
    some (h99, r100)
  else
  if a1 = nI 26 then
    gd (hT h a0 = 9) <|
    bn (f_Names_findName h a0 (hR h a0 6)) fun h103 r104 =>
    some (h103, r104)
  else
  if a1 = nI 27 then
    gd (hT h a0 = 9) <|
    bn (f_Names_findName h a0 (hR h a0 6)) fun h107 r108 =>
    some (h107, r108)
  else
  if a1 = nI 28 then
    gd (hT h a0 = 9) <|
    bn (f_Names_findName h a0 (hR h a0 6)) fun h111 r112 =>
    some (h111, r112)
  else
  if a1 = nI 29 then
    gd (hT h a0 = 9) <|
    bn (f_Names_findName h a0 (hR h a0 5)) fun h115 r116 =>
    some (h115, r116)
  else
  if a1 = nI 30 then
    gd (hT h a0 = 9) <|
    bn (f_Names_findName h a0 (hR h a0 4)) fun h119 r120 =>
    some (h119, r120)
  else
  if a1 = nI 31 then
    gd (hT h a0 = 9) <|
    bn (f_Names_findName h a0 (hR h a0 6)) fun h123 r124 =>
    some (h123, r124)
  else
  if a1 = nI 32 then
    gd (hT h a0 = 9) <|
    bn (f_Names_findName h a0 (hR h a0 6)) fun h127 r128 =>
    some (h127, r128)
  else
  if a1 = nI 33 then
    gd (hT h a0 = 9) <|
    bn (f_Names_findName h a0 (hR h a0 6)) fun h131 r132 =>
    some (h131, r132)
  else
  if a1 = nI 34 then
    gd (hT h a0 = 9) <|
    bn (f_Names_findName h a0 (hR h a0 5)) fun h135 r136 =>
    some (h135, r136)
  else
  gd (hT h a0 = 9) <|
  bn (f_Names_findName h a0 (hR h a0 6)) fun h138 r139 =>
  some (h138, r139)
def f_River_hasGarden (h : AH) (a0 : Nat) (a1 : Int32) : Option (AH × Int32) :=
  if a1 < 0 then
    some (h, (nI 0))
  else
    gd (hT h a0 = 3) <|
    if (hI h a0 6) ≤ a1 then
      some (h, (nI 0))
    else
      if (nI 4) ≤ a1 then
        some (h, (nI 0))
      else
        some (h, (nI 1))
def f_River_latestGarden_b27 (h : AH)  (s0 : Nat) (s1 : Int32) : Option (AH × Nat) :=
  gd (hT h s0 = 104 ∧ inb s1 (hL h s0)) <|
  some (h, (hR h s0 (ix s1)))
def f_River_latestGarden (h : AH) (a0 : Nat) : Option (AH × Nat) :=
  gd (hT h a0 = 3) <|
  bn (f_River_hasGarden h a0 ((hI h a0 6) - (nI 1))) fun h2 r3 =>
  if r3 = 0 then
    f_River_latestGarden_b27  h2 (hR h a0 0) (nI 0)
  else
    gd (hT h2 a0 = 3) <|
    f_River_latestGarden_b27  h2 (hR h a0 0) ((hI h2 a0 6) - (nI 1))
def f_QuillBoats_isWithin (h : AH) (a0 : Int32) (a1 : Int32) (a2 : Int32) : Option (AH × Int32) :=
  if a0 < a1 then
    some (h, (nI 0))
  else
    if a2 < a0 then
      some (h, (nI 0))
    else
      some (h, (nI 1))
def f_Names_errorOutside (h : AH) (a0 : Nat) (a1 : Int32) (a2 : Int32) : Option (AH × Int32) :=
  gd (hT h a0 = 9) <|
  gd (hT h (hR h a0 1) = 11) <|
  bn (f_Tokens_numberOf h (hR h a0 1) (hI h a0 7)) fun h3 r4 =>
  bn (f_QuillBoats_isWithin h3 r4 a1 a2) fun h5 r6 =>
  if r6 = 0 then
    some (h5, (nI 5))
  else
    some (h5, (nI 0))
def f_Names_setHolds (h : AH) (a0 : Nat) (a1 : Int32) : Option (AH × Int32) :=
  gd (hT h a0 = 9) <|
  gd (hT h (hR h a0 1) = 11) <|
  bn (f_Tokens_kindOf_I h (hR h a0 1) ((hI h a0 7) - (nI 3))) fun h3 r4 =>
  if ¬ r4 = (nI 5) then
    gd (hT h3 a0 = 9) <|
    gd (hT h3 (hR h3 a0 2) = 3) <|
    bn (f_River_latestBoat h3 (hR h3 a0 2)) fun h8 r9 =>
    gd (hT h8 r9 = 7) <|
    lq (wI h8 r9 0 a1) fun h11 =>
    gd (hT h11 a0 = 9) <|
    bn (f_Names_errorOutside h11 a0 (nI 1) (nI 40)) fun h13 r14 =>
    some (h13, r14)
  else
    gd (hT h3 a0 = 9) <|
    gd (hT h3 (hR h3 a0 2) = 3) <|
    bn (f_River_latestRack h3 (hR h3 a0 2)) fun h17 r18 =>
    gd (hT h17 r18 = 5) <|
    lq (wI h17 r18 0 a1) fun h20 =>
    gd (hT h20 a0 = 9) <|
    bn (f_Names_errorOutside h20 a0 (nI 1) (nI 60)) fun h22 r23 =>
    some (h22, r23)
def f_River_setShadeOf (h : AH) (a0 : Nat) (a1 : Int32) (a2 : Int32) : Option AH :=
  bn (f_QuillBoats_isWithin h a1 (nI 0) (nI 11)) fun h1 r2 =>
  if r2 = 0 then
    some h1
  else
    gd (hT h1 a0 = 3) <|
    gd (hT h1 (hR h1 a0 5) = 101 ∧ inb a1 (hL h1 (hR h1 a0 5))) <|
    lq (wI h1 (hR h1 a0 5) (ix a1) a2) fun h6 =>
    some h6
def f_Names_lookAtNumber (h : AH) (a0 : Nat) (a1 : Int32) (a2 : Int32) : Option (AH × Int32) :=
  if a1 = nI 2 then
    gd (hT h a0 = 9) <|
    gd (hT h (hR h a0 2) = 3) <|
    bn (f_River_latestGarden h (hR h a0 2)) fun h4 r5 =>
    gd (hT h4 r5 = 4) <|
    lq (wI h4 r5 0 a2) fun h7 =>
    gd (hT h7 a0 = 9) <|
    bn (f_Names_errorOutside h7 a0 (nI 0) (nI 99)) fun h9 r10 =>
    some (h9, r10)
  else
  if a1 = nI 3 then
    gd (hT h a0 = 9) <|
    gd (hT h (hR h a0 2) = 3) <|
    bn (f_River_latestGarden h (hR h a0 2)) fun h14 r15 =>
    gd (hT h14 r15 = 4) <|
    lq (wI h14 r15 1 a2) fun h17 =>
    gd (hT h17 a0 = 9) <|
    bn (f_Names_errorOutside h17 a0 (nI 0) (nI 20)) fun h19 r20 =>
    some (h19, r20)
  else
  if a1 = nI 4 then
    gd (hT h a0 = 9) <|
    gd (hT h (hR h a0 2) = 3) <|
    bn (f_River_latestGarden h (hR h a0 2)) fun h24 r25 =>
    gd (hT h24 r25 = 4) <|
    lq (wI h24 r25 2 a2) fun h27 =>
    gd (hT h27 a0 = 9) <|
    bn (f_Names_errorOutside h27 a0 (nI 1) (nI 9)) fun h29 r30 =>
    some (h29, r30)
  else
  if a1 = nI 5 then
    some (h, (nI 0))
  else
  if a1 = nI 6 then
    gd (hT h a0 = 9) <|
    bn (f_Names_setHolds h a0 a2) fun h34 r35 =>
    some (h34, r35)
  else
  if a1 = nI 7 then
    some (h, (nI 0))
  else
  if a1 = nI 8 then
    some (h, (nI 0))
  else
  if a1 = nI 9 then
    some (h, (nI 0))
  else
  if a1 = nI 10 then
    gd (hT h a0 = 9) <|
    gd (hT h (hR h a0 2) = 3) <|
    bn (f_River_latestPeeler h (hR h a0 2)) fun h42 r43 =>
    gd (hT h42 r43 = 6) <|
    lq (wI h42 r43 2 a2) fun h45 =>
    gd (hT h45 a0 = 9) <|
    bn (f_Names_errorOutside h45 a0 (nI 1) (nI 9)) fun h47 r48 =>
    some (h47, r48)
  else
  if a1 = nI 11 then
    some (h, (nI 0))
  else
  if a1 = nI 12 then
    gd (hT h a0 = 9) <|
    gd (hT h (hR h a0 2) = 3) <|
    bn (f_River_latestBoat h (hR h a0 2)) fun h53 r54 =>
    gd (hT h53 r54 = 7) <|
    lq (wI h53 r54 1 a2) fun h56 =>
    gd (hT h56 a0 = 9) <|
    bn (f_Names_errorOutside h56 a0 (nI 1) (nI 9)) fun h58 r59 =>
    some (h58, r59)
  else
  if a1 = nI 13 then
    gd (hT h a0 = 9) <|
    gd (hT h (hR h a0 2) = 3) <|
    lq (wI h (hR h a0 2) 13 a2) fun h63 =>
    gd (hT h63 a0 = 9) <|
    bn (f_Names_errorOutside h63 a0 (nI 1) (nI 60)) fun h65 r66 =>
    some (h65, r66)
  else
  if a1 = nI 14 then
    gd (hT h a0 = 9) <|
    gd (hT h (hR h a0 2) = 3) <|
    lq (wI h (hR h a0 2) 14 a2) fun h70 =>
    gd (hT h70 a0 = 9) <|
    bn (f_Names_errorOutside h70 a0 (nI 0) (nI 5)) fun h72 r73 =>
    some (h72, r73)
  else
  if a1 = nI 15 then
    gd (hT h a0 = 9) <|
    bn (f_Names_errorOutside h a0 (nI 0) (nI 11)) fun h76 r77 =>
    some (h76, r77)
  else
  if a1 = nI 16 then
    gd (hT h a0 = 9) <|
    gd (hT h (hR h a0 1) = 11) <|
    bn (f_Tokens_numberOf h (hR h a0 1) ((hI h a0 7) - (nI 2))) fun h81 r82 =>
    gd (hT h81 (hR h a0 2) = 3) <|
    bv (f_River_setShadeOf h81 (hR h a0 2) r82 a2) fun h84 =>
    gd (hT h84 a0 = 9) <|
    bn (f_Names_errorOutside h84 a0 (nI 0) (nI 3)) fun h86 r87 =>
    some (h86, r87)
  else
  if a1 = nI 17 then
    some (h, (nI 0))
  else
  if a1 = nI 18 then
    gd (hT h a0 = 9) <|
    gd (hT h (hR h a0 2) = 3) <|
    gd (hT h (hR h (hR h a0 2) 4) = 108 ∧ inb (a1 - (nI 18)) (hL h (hR h (hR h a0 2) 4))) <|
    gd (hT h (hR h (hR h (hR h a0 2) 4) (ix (a1 - (nI 18)))) = 8) <|
    lq (wI h (hR h (hR h (hR h a0 2) 4) (ix (a1 - (nI 18)))) 1 a2) fun h94 =>
    gd (hT h94 a0 = 9) <|
    bn (f_Names_errorOutside h94 a0 (nI 0) (nI 50)) fun h96 r97 =>
    some (h96, r97)
  else
  if a1 = nI 19 then
    gd (hT h a0 = 9) <|
    gd (hT h (hR h a0 2) = 3) <|
    gd (hT h (hR h (hR h a0 2) 4) = 108 ∧ inb (a1 - (nI 18)) (hL h (hR h (hR h a0 2) 4))) <|
    gd (hT h (hR h (hR h (hR h a0 2) 4) (ix (a1 - (nI 18)))) = 8) <|
    lq (wI h (hR h (hR h (hR h a0 2) 4) (ix (a1 - (nI 18)))) 1 a2) fun h103 =>
    gd (hT h103 a0 = 9) <|
    bn (f_Names_errorOutside h103 a0 (nI 0) (nI 50)) fun h105 r106 =>
    some (h105, r106)
  else
  if a1 = nI 20 then
    gd (hT h a0 = 9) <|
    gd (hT h (hR h a0 2) = 3) <|
    gd (hT h (hR h (hR h a0 2) 4) = 108 ∧ inb (a1 - (nI 18)) (hL h (hR h (hR h a0 2) 4))) <|
    gd (hT h (hR h (hR h (hR h a0 2) 4) (ix (a1 - (nI 18)))) = 8) <|
    lq (wI h (hR h (hR h (hR h a0 2) 4) (ix (a1 - (nI 18)))) 1 a2) fun h112 =>
    gd (hT h112 a0 = 9) <|
    bn (f_Names_errorOutside h112 a0 (nI 0) (nI 50)) fun h114 r115 =>
    some (h114, r115)
  else
  if a1 = nI 21 then
    gd (hT h a0 = 9) <|
    gd (hT h (hR h a0 2) = 3) <|
    gd (hT h (hR h (hR h a0 2) 4) = 108 ∧ inb (a1 - (nI 18)) (hL h (hR h (hR h a0 2) 4))) <|
    gd (hT h (hR h (hR h (hR h a0 2) 4) (ix (a1 - (nI 18)))) = 8) <|
    lq (wI h (hR h (hR h (hR h a0 2) 4) (ix (a1 - (nI 18)))) 1 a2) fun h121 =>
    gd (hT h121 a0 = 9) <|
    bn (f_Names_errorOutside h121 a0 (nI 0) (nI 50)) fun h123 r124 =>
    some (h123, r124)
  else
  some (h, (nI 0))
def f_Names_lookAt (h : AH) (a0 : Nat) (a1 : Int32) : Option (AH × Int32) :=
  if a1 = nI 18 then
    gd (hT h a0 = 9) <|
    gd (hT h (hR h a0 1) = 11) <|
    bv (f_Tokens_setNumber h (hR h a0 1) (hI h a0 7) (a1 - (nI 18))) fun h4 =>
    some (h4, (nI 0))
  else
  if a1 = nI 19 then
    gd (hT h a0 = 9) <|
    gd (hT h (hR h a0 1) = 11) <|
    bv (f_Tokens_setNumber h (hR h a0 1) (hI h a0 7) (a1 - (nI 18))) fun h8 =>
    some (h8, (nI 0))
  else
  if a1 = nI 20 then
    gd (hT h a0 = 9) <|
    gd (hT h (hR h a0 1) = 11) <|
    bv (f_Tokens_setNumber h (hR h a0 1) (hI h a0 7) (a1 - (nI 18))) fun h12 =>
    some (h12, (nI 0))
  else
  if a1 = nI 21 then
    gd (hT h a0 = 9) <|
    gd (hT h (hR h a0 1) = 11) <|
    bv (f_Tokens_setNumber h (hR h a0 1) (hI h a0 7) (a1 - (nI 18))) fun h16 =>
    some (h16, (nI 0))
  else
  if a1 = nI 22 then
    gd (hT h a0 = 9) <|
    gd (hT h (hR h a0 2) = 3) <|
    lq (wI h (hR h a0 2) 10 ((hI h (hR h a0 2) 10) + (nI 1))) fun h20 =>
    gd (hT h20 a0 = 9) <|
    gd (hT h20 (hR h20 a0 2) = 3) <|
    if (hI h20 (hR h20 a0 2) 10) ≤ (nI 20) then
      some (h20, (nI 0))
    else
      some (h20, (nI 4))
  else
  if a1 = nI 23 then
    gd (hT h a0 = 9) <|
    gd (hT h (hR h a0 2) = 3) <|
    lq (wI h (hR h a0 2) 10 ((hI h (hR h a0 2) 10) + (nI 1))) fun h27 =>
    gd (hT h27 a0 = 9) <|
    gd (hT h27 (hR h27 a0 2) = 3) <|
    if (hI h27 (hR h27 a0 2) 10) ≤ (nI 20) then
      some (h27, (nI 0))
    else
      some (h27, (nI 4))
  else
  if a1 = nI 25 then
    gd (hT h a0 = 9) <|
    gd (hT h (hR h a0 2) = 3) <|
    lq (wI h (hR h a0 2) 10 ((hI h (hR h a0 2) 10) + (nI 1))) fun h34 =>
    gd (hT h34 a0 = 9) <|
    gd (hT h34 (hR h34 a0 2) = 3) <|
    if (hI h34 (hR h34 a0 2) 10) ≤ (nI 20) then
      some (h34, (nI 0))
    else
      some (h34, (nI 4))
  else
  if a1 = nI 55 then
    gd (hT h a0 = 9) <|
    gd (hT h (hR h a0 1) = 11) <|
    bn (f_Tokens_kindOf_I h (hR h a0 1) ((hI h a0 7) - (nI 1))) fun h41 r42 =>
    gd (hT h41 a0 = 9) <|
    bn (f_Names_lookAtName h41 a0 r42) fun h44 r45 =>
    some (h44, r45)
  else
  if a1 = nI 56 then
    gd (hT h a0 = 9) <|
    gd (hT h (hR h a0 1) = 11) <|
    bn (f_Tokens_kindOf_I h (hR h a0 1) ((hI h a0 7) - (nI 1))) fun h49 r50 =>
    gd (hT h49 a0 = 9) <|
    gd (hT h49 (hR h49 a0 1) = 11) <|
    bn (f_Tokens_numberOf h49 (hR h49 a0 1) (hI h49 a0 7)) fun h53 r54 =>
    gd (hT h53 a0 = 9) <|
    bn (f_Names_lookAtNumber h53 a0 r50 r54) fun h56 r57 =>
    some (h56, r57)
  else
  some (h, (nI 0))
def f_Names_lookAtAll_b30 (k30 : AH → Nat → Int32 → Option (AH × Int32)) (h : AH) (a0 : Nat) (a1 : Int32)  : Option (AH × Int32) :=
  if (nI 400) ≤ a1 then
    some (h, (nI 0))
  else
    gd (hT h a0 = 9) <|
    gd (hT h (hR h a0 1) = 11) <|
    bn (f_Tokens_kindOf_I h (hR h a0 1) a1) fun h4 r5 =>
    if r5 = (nI 57) then
      some (h4, (nI 0))
    else
      gd (hT h4 a0 = 9) <|
      lq (wI h4 a0 7 a1) fun h8 =>
      gd (hT h8 a0 = 9) <|
      gd (hT h8 (hR h8 a0 1) = 11) <|
      bn (f_Tokens_kindOf_I h8 (hR h8 a0 1) a1) fun h11 r12 =>
      gd (hT h11 a0 = 9) <|
      bn (f_Names_lookAt h11 a0 r12) fun h14 r15 =>
      if r15 = 0 then
        lq (a1 + (nI 1)) fun x17 =>
        k30 h14 a0 x17
      else
        some (h14, r15)
def f_Names_lookAtAll_l30 : Nat → AH → Nat → Int32 → Option (AH × Int32)
  | 0, _, _, _ => none
  | n + 1, h, a0, a1 => f_Names_lookAtAll_b30 (f_Names_lookAtAll_l30  n) h a0 a1
def f_Names_lookAtAll (h : AH) (a0 : Nat) : Option (AH × Int32) :=
  gd (hT h a0 = 9) <|
  gd (hT h (hR h a0 3) = 12) <|
  bv (f_Roll_clear h (hR h a0 3)) fun h3 =>
  gd (hT h3 a0 = 9) <|
  gd (hT h3 (hR h3 a0 4) = 12) <|
  bv (f_Roll_clear h3 (hR h3 a0 4)) fun h6 =>
  gd (hT h6 a0 = 9) <|
  gd (hT h6 (hR h6 a0 5) = 12) <|
  bv (f_Roll_clear h6 (hR h6 a0 5)) fun h9 =>
  gd (hT h9 a0 = 9) <|
  gd (hT h9 (hR h9 a0 6) = 12) <|
  bv (f_Roll_clear h9 (hR h9 a0 6)) fun h12 =>
  f_Names_lookAtAll_l30  FU h12 a0 (nI 0)
def f_Names_place (h : AH) (a0 : Nat) : Option (AH × Int32) :=
  gd (hT h a0 = 9) <|
  some (h, (hI h a0 7))
def f_Orders_resolve_b2 (k2 : AH → Nat → Nat → Int32 → Option AH) (h : AH) (a0 : Nat) (a1 : Nat) (a2 : Int32)  : Option AH :=
  gd (hT h a0 = 2) <|
  if (hI h a0 2) ≤ a2 then
    some h
  else
    gd (hT h (hR h a0 1) = 101) <|
    if (nI (hL h (hR h a0 1))) ≤ a2 then
      some h
    else
      gd (hT h (hR h a0 1) = 101 ∧ inb a2 (hL h (hR h a0 1))) <|
      gd (hT h a1 = 11) <|
      bn (f_Tokens_numberOf h a1 (hI h (hR h a0 1) (ix a2))) fun h7 r8 =>
      gd (hT h7 (hR h a0 1) = 101 ∧ inb a2 (hL h7 (hR h a0 1))) <|
      lq (wI h7 (hR h a0 1) (ix a2) r8) fun h10 =>
      lq (a2 + (nI 1)) fun x11 =>
      k2 h10 a0 a1 x11
def f_Orders_resolve_l2 : Nat → AH → Nat → Nat → Int32 → Option AH
  | 0, _, _, _, _ => none
  | n + 1, h, a0, a1, a2 => f_Orders_resolve_b2 (f_Orders_resolve_l2  n) h a0 a1 a2
def f_Orders_resolve (h : AH) (a0 : Nat) (a1 : Nat) : Option AH :=
  f_Orders_resolve_l2  FU h a0 a1 (nI 0)
def f_Orders_copyFrom_b10 (k10 : AH → Nat → Nat → Int32 → Option AH) (h : AH) (a0 : Nat) (a1 : Nat) (a2 : Int32)  : Option AH :=
  gd (hT h a0 = 2) <|
  if (hI h a0 2) ≤ a2 then
    some h
  else
    gd (hT h (hR h a0 0) = 101) <|
    if (nI (hL h (hR h a0 0))) ≤ a2 then
      some h
    else
      gd (hT h (hR h a0 1) = 101) <|
      if (nI (hL h (hR h a0 1))) ≤ a2 then
        some h
      else
        gd (hT h a1 = 2) <|
        gd (hT h (hR h a1 0) = 101 ∧ inb a2 (hL h (hR h a1 0))) <|
        gd (hT h (hR h a0 0) = 101 ∧ inb a2 (hL h (hR h a0 0))) <|
        lq (wI h (hR h a0 0) (ix a2) (hI h (hR h a1 0) (ix a2))) fun h10 =>
        gd (hT h10 a0 = 2) <|
        gd (hT h10 a1 = 2) <|
        gd (hT h10 (hR h10 a1 1) = 101 ∧ inb a2 (hL h10 (hR h10 a1 1))) <|
        gd (hT h10 (hR h10 a0 1) = 101 ∧ inb a2 (hL h10 (hR h10 a0 1))) <|
        lq (wI h10 (hR h10 a0 1) (ix a2) (hI h10 (hR h10 a1 1) (ix a2))) fun h15 =>
        lq (a2 + (nI 1)) fun x16 =>
        k10 h15 a0 a1 x16
def f_Orders_copyFrom_l10 : Nat → AH → Nat → Nat → Int32 → Option AH
  | 0, _, _, _, _ => none
  | n + 1, h, a0, a1, a2 => f_Orders_copyFrom_b10 (f_Orders_copyFrom_l10  n) h a0 a1 a2
def f_Orders_copyFrom (h : AH) (a0 : Nat) (a1 : Nat) : Option AH :=
  gd (hT h a1 = 2) <|
  gd (hT h a0 = 2) <|
  lq (wI h a0 2 (hI h a1 2)) fun h3 =>
  f_Orders_copyFrom_l10  FU h3 a0 a1 (nI 0)
def f_Garden_copyFrom (h : AH) (a0 : Nat) (a1 : Nat) : Option AH :=
  gd (hT h a1 = 4) <|
  gd (hT h a0 = 4) <|
  lq (wI h a0 0 (hI h a1 0)) fun h3 =>
  gd (hT h3 a1 = 4) <|
  gd (hT h3 a0 = 4) <|
  lq (wI h3 a0 1 (hI h3 a1 1)) fun h6 =>
  gd (hT h6 a1 = 4) <|
  gd (hT h6 a0 = 4) <|
  lq (wI h6 a0 2 (hI h6 a1 2)) fun h9 =>
  some h9
def f_Rack_copyFrom_b26 (k26 : AH → Nat → Nat → Int32 → Option AH) (h : AH) (a0 : Nat) (a1 : Nat) (a2 : Int32)  : Option AH :=
  gd (hT h a0 = 5) <|
  if (hI h a0 2) ≤ a2 then
    some h
  else
    if (nI 60) ≤ a2 then
      some h
    else
      gd (hT h a1 = 5) <|
      gd (hT h (hR h a1 3) = 101 ∧ inb a2 (hL h (hR h a1 3))) <|
      gd (hT h (hR h a0 3) = 101 ∧ inb a2 (hL h (hR h a0 3))) <|
      lq (wI h (hR h a0 3) (ix a2) (hI h (hR h a1 3) (ix a2))) fun h7 =>
      gd (hT h7 a0 = 5) <|
      gd (hT h7 a1 = 5) <|
      gd (hT h7 (hR h7 a1 4) = 101 ∧ inb a2 (hL h7 (hR h7 a1 4))) <|
      gd (hT h7 (hR h7 a0 4) = 101 ∧ inb a2 (hL h7 (hR h7 a0 4))) <|
      lq (wI h7 (hR h7 a0 4) (ix a2) (hI h7 (hR h7 a1 4) (ix a2))) fun h12 =>
      gd (hT h12 a0 = 5) <|
      gd (hT h12 a1 = 5) <|
      gd (hT h12 (hR h12 a1 5) = 101 ∧ inb a2 (hL h12 (hR h12 a1 5))) <|
      gd (hT h12 (hR h12 a0 5) = 101 ∧ inb a2 (hL h12 (hR h12 a0 5))) <|
      lq (wI h12 (hR h12 a0 5) (ix a2) (hI h12 (hR h12 a1 5) (ix a2))) fun h17 =>
      gd (hT h17 a0 = 5) <|
      gd (hT h17 a1 = 5) <|
      gd (hT h17 (hR h17 a1 6) = 101 ∧ inb a2 (hL h17 (hR h17 a1 6))) <|
      gd (hT h17 (hR h17 a0 6) = 101 ∧ inb a2 (hL h17 (hR h17 a0 6))) <|
      lq (wI h17 (hR h17 a0 6) (ix a2) (hI h17 (hR h17 a1 6) (ix a2))) fun h22 =>
      lq (a2 + (nI 1)) fun x23 =>
      k26 h22 a0 a1 x23
def f_Rack_copyFrom_l26 : Nat → AH → Nat → Nat → Int32 → Option AH
  | 0, _, _, _, _ => none
  | n + 1, h, a0, a1, a2 => f_Rack_copyFrom_b26 (f_Rack_copyFrom_l26  n) h a0 a1 a2
def f_Rack_copyFrom (h : AH) (a0 : Nat) (a1 : Nat) : Option AH :=
  gd (hT h a1 = 5) <|
  gd (hT h a0 = 5) <|
  lq (wI h a0 0 (hI h a1 0)) fun h3 =>
  gd (hT h3 a1 = 5) <|
  gd (hT h3 a0 = 5) <|
  lq (wI h3 a0 1 (hI h3 a1 1)) fun h6 =>
  gd (hT h6 a1 = 5) <|
  gd (hT h6 a0 = 5) <|
  lq (wI h6 a0 2 (hI h6 a1 2)) fun h9 =>
  f_Rack_copyFrom_l26  FU h9 a0 a1 (nI 0)
def f_Peeler_copyFrom (h : AH) (a0 : Nat) (a1 : Nat) : Option AH :=
  gd (hT h a1 = 6) <|
  gd (hT h a0 = 6) <|
  lq (wI h a0 0 (hI h a1 0)) fun h3 =>
  gd (hT h3 a1 = 6) <|
  gd (hT h3 a0 = 6) <|
  lq (wI h3 a0 1 (hI h3 a1 1)) fun h6 =>
  gd (hT h6 a1 = 6) <|
  gd (hT h6 a0 = 6) <|
  lq (wI h6 a0 2 (hI h6 a1 2)) fun h9 =>
  gd (hT h9 a1 = 6) <|
  gd (hT h9 a0 = 6) <|
  lq (wI h9 a0 3 (hI h9 a1 3)) fun h12 =>
  gd (hT h12 a1 = 6) <|
  gd (hT h12 a0 = 6) <|
  lq (wI h12 a0 4 (hI h12 a1 4)) fun h15 =>
  gd (hT h15 a1 = 6) <|
  gd (hT h15 a0 = 6) <|
  lq (wI h15 a0 5 (hI h15 a1 5)) fun h18 =>
  gd (hT h18 a1 = 6) <|
  gd (hT h18 a0 = 6 ∧ ((hI h18 a1 6) = 0 ∨ (hI h18 a1 6) = 1)) <|
  lq (wI h18 a0 6 (hI h18 a1 6)) fun h21 =>
  some h21
def f_Boat_copyFrom (h : AH) (a0 : Nat) (a1 : Nat) : Option AH :=
  gd (hT h a1 = 7) <|
  gd (hT h a0 = 7) <|
  lq (wI h a0 0 (hI h a1 0)) fun h3 =>
  gd (hT h3 a1 = 7) <|
  gd (hT h3 a0 = 7) <|
  lq (wI h3 a0 1 (hI h3 a1 1)) fun h6 =>
  gd (hT h6 a1 = 7) <|
  gd (hT h6 a0 = 7) <|
  lq (wI h6 a0 2 (hI h6 a1 2)) fun h9 =>
  gd (hT h9 a1 = 7) <|
  gd (hT h9 a0 = 7) <|
  lq (wI h9 a0 3 (hI h9 a1 3)) fun h12 =>
  gd (hT h12 a1 = 7) <|
  gd (hT h12 a0 = 7) <|
  lq (wI h12 a0 4 (hI h12 a1 4)) fun h15 =>
  gd (hT h15 a1 = 7) <|
  gd (hT h15 a0 = 7) <|
  lq (wI h15 a0 5 (hI h15 a1 5)) fun h18 =>
  gd (hT h18 a1 = 7) <|
  gd (hT h18 a0 = 7) <|
  lq (wI h18 a0 6 (hI h18 a1 6)) fun h21 =>
  some h21
def f_Grade_copyFrom (h : AH) (a0 : Nat) (a1 : Nat) : Option AH :=
  gd (hT h a1 = 8) <|
  gd (hT h a0 = 8) <|
  lq (wI h a0 0 (hI h a1 0)) fun h3 =>
  gd (hT h3 a1 = 8) <|
  gd (hT h3 a0 = 8) <|
  lq (wI h3 a0 1 (hI h3 a1 1)) fun h6 =>
  gd (hT h6 a1 = 8) <|
  gd (hT h6 a0 = 8) <|
  lq (wI h6 a0 2 (hI h6 a1 2)) fun h9 =>
  gd (hT h9 a1 = 8) <|
  gd (hT h9 a0 = 8) <|
  lq (wI h9 a0 3 (hI h9 a1 3)) fun h12 =>
  some h12
def f_River_copyAllFrom_b147 (k147 : AH → Nat → Nat → Int32 → Option AH) (h : AH) (a0 : Nat) (a1 : Nat) (a2 : Int32)  : Option AH :=
  if (nI 4) ≤ a2 then
    some h
  else
    gd (hT h a0 = 3) <|
    gd (hT h (hR h a0 4) = 108 ∧ inb a2 (hL h (hR h a0 4))) <|
    gd (hT h a1 = 3) <|
    gd (hT h (hR h a1 4) = 108 ∧ inb a2 (hL h (hR h a1 4))) <|
    gd (hT h (hR h (hR h a0 4) (ix a2)) = 8) <|
    bv (f_Grade_copyFrom h (hR h (hR h a0 4) (ix a2)) (hR h (hR h a1 4) (ix a2))) fun h7 =>
    lq (a2 + (nI 1)) fun x8 =>
    k147 h7 a0 a1 x8
def f_River_copyAllFrom_l147 : Nat → AH → Nat → Nat → Int32 → Option AH
  | 0, _, _, _, _ => none
  | n + 1, h, a0, a1, a2 => f_River_copyAllFrom_b147 (f_River_copyAllFrom_l147  n) h a0 a1 a2
def f_River_copyAllFrom_b145 (h : AH) (a0 : Nat) (a1 : Nat)  : Option AH :=
  f_River_copyAllFrom_l147  FU h a0 a1 (nI 0)
def f_River_copyAllFrom_b111 (k111 : AH → Nat → Nat → Int32 → Option AH) (h : AH) (a0 : Nat) (a1 : Nat) (a2 : Int32)  : Option AH :=
  gd (hT h a0 = 3) <|
  if (hI h a0 9) ≤ a2 then
    f_River_copyAllFrom_b145  h a0 a1
  else
    if (nI 4) ≤ a2 then
      f_River_copyAllFrom_b145  h a0 a1
    else
      gd (hT h (hR h a0 3) = 107 ∧ inb a2 (hL h (hR h a0 3))) <|
      gd (hT h a1 = 3) <|
      gd (hT h (hR h a1 3) = 107 ∧ inb a2 (hL h (hR h a1 3))) <|
      gd (hT h (hR h (hR h a0 3) (ix a2)) = 7) <|
      bv (f_Boat_copyFrom h (hR h (hR h a0 3) (ix a2)) (hR h (hR h a1 3) (ix a2))) fun h8 =>
      lq (a2 + (nI 1)) fun x9 =>
      k111 h8 a0 a1 x9
def f_River_copyAllFrom_l111 : Nat → AH → Nat → Nat → Int32 → Option AH
  | 0, _, _, _, _ => none
  | n + 1, h, a0, a1, a2 => f_River_copyAllFrom_b111 (f_River_copyAllFrom_l111  n) h a0 a1 a2
def f_River_copyAllFrom_b109 (h : AH) (a0 : Nat) (a1 : Nat)  : Option AH :=
  f_River_copyAllFrom_l111  FU h a0 a1 (nI 0)
def f_River_copyAllFrom_b74 (k74 : AH → Nat → Nat → Int32 → Option AH) (h : AH) (a0 : Nat) (a1 : Nat) (a2 : Int32)  : Option AH :=
  gd (hT h a0 = 3) <|
  if (hI h a0 8) ≤ a2 then
    f_River_copyAllFrom_b109  h a0 a1
  else
    if (nI 8) ≤ a2 then
      f_River_copyAllFrom_b109  h a0 a1
    else
      gd (hT h (hR h a0 2) = 106 ∧ inb a2 (hL h (hR h a0 2))) <|
      gd (hT h a1 = 3) <|
      gd (hT h (hR h a1 2) = 106 ∧ inb a2 (hL h (hR h a1 2))) <|
      gd (hT h (hR h (hR h a0 2) (ix a2)) = 6) <|
      bv (f_Peeler_copyFrom h (hR h (hR h a0 2) (ix a2)) (hR h (hR h a1 2) (ix a2))) fun h8 =>
      lq (a2 + (nI 1)) fun x9 =>
      k74 h8 a0 a1 x9
def f_River_copyAllFrom_l74 : Nat → AH → Nat → Nat → Int32 → Option AH
  | 0, _, _, _, _ => none
  | n + 1, h, a0, a1, a2 => f_River_copyAllFrom_b74 (f_River_copyAllFrom_l74  n) h a0 a1 a2
def f_River_copyAllFrom_b72 (h : AH) (a0 : Nat) (a1 : Nat)  : Option AH :=
  f_River_copyAllFrom_l74  FU h a0 a1 (nI 0)
def f_River_copyAllFrom_b38 (k38 : AH → Nat → Nat → Int32 → Option AH) (h : AH) (a0 : Nat) (a1 : Nat) (a2 : Int32)  : Option AH :=
  gd (hT h a0 = 3) <|
  if (hI h a0 7) ≤ a2 then
    f_River_copyAllFrom_b72  h a0 a1
  else
    if (nI 4) ≤ a2 then
      f_River_copyAllFrom_b72  h a0 a1
    else
      gd (hT h (hR h a0 1) = 105 ∧ inb a2 (hL h (hR h a0 1))) <|
      gd (hT h a1 = 3) <|
      gd (hT h (hR h a1 1) = 105 ∧ inb a2 (hL h (hR h a1 1))) <|
      gd (hT h (hR h (hR h a0 1) (ix a2)) = 5) <|
      bv (f_Rack_copyFrom h (hR h (hR h a0 1) (ix a2)) (hR h (hR h a1 1) (ix a2))) fun h8 =>
      lq (a2 + (nI 1)) fun x9 =>
      k38 h8 a0 a1 x9
def f_River_copyAllFrom_l38 : Nat → AH → Nat → Nat → Int32 → Option AH
  | 0, _, _, _, _ => none
  | n + 1, h, a0, a1, a2 => f_River_copyAllFrom_b38 (f_River_copyAllFrom_l38  n) h a0 a1 a2
def f_River_copyAllFrom_b36 (h : AH) (a0 : Nat) (a1 : Nat)  : Option AH :=
  f_River_copyAllFrom_l38  FU h a0 a1 (nI 0)
def f_River_copyAllFrom_b2 (k2 : AH → Nat → Nat → Int32 → Option AH) (h : AH) (a0 : Nat) (a1 : Nat) (a2 : Int32)  : Option AH :=
  gd (hT h a0 = 3) <|
  if (hI h a0 6) ≤ a2 then
    f_River_copyAllFrom_b36  h a0 a1
  else
    if (nI 4) ≤ a2 then
      f_River_copyAllFrom_b36  h a0 a1
    else
      gd (hT h (hR h a0 0) = 104 ∧ inb a2 (hL h (hR h a0 0))) <|
      gd (hT h a1 = 3) <|
      gd (hT h (hR h a1 0) = 104 ∧ inb a2 (hL h (hR h a1 0))) <|
      gd (hT h (hR h (hR h a0 0) (ix a2)) = 4) <|
      bv (f_Garden_copyFrom h (hR h (hR h a0 0) (ix a2)) (hR h (hR h a1 0) (ix a2))) fun h8 =>
      lq (a2 + (nI 1)) fun x9 =>
      k2 h8 a0 a1 x9
def f_River_copyAllFrom_l2 : Nat → AH → Nat → Nat → Int32 → Option AH
  | 0, _, _, _, _ => none
  | n + 1, h, a0, a1, a2 => f_River_copyAllFrom_b2 (f_River_copyAllFrom_l2  n) h a0 a1 a2
def f_River_copyAllFrom (h : AH) (a0 : Nat) (a1 : Nat) : Option AH :=
  f_River_copyAllFrom_l2  FU h a0 a1 (nI 0)
def f_River_copyFrom_b98 (k98 : AH → Nat → Nat → Int32 → Option AH) (h : AH) (a0 : Nat) (a1 : Nat) (a2 : Int32)  : Option AH :=
  if (nI 12) ≤ a2 then
    gd (hT h a0 = 3) <|
    bv (f_River_copyAllFrom h a0 a1) fun h3 =>
    some h3
  else
    gd (hT h a0 = 3) <|
    gd (hT h a1 = 3) <|
    gd (hT h (hR h a1 5) = 101 ∧ inb a2 (hL h (hR h a1 5))) <|
    gd (hT h (hR h a0 5) = 101 ∧ inb a2 (hL h (hR h a0 5))) <|
    lq (wI h (hR h a0 5) (ix a2) (hI h (hR h a1 5) (ix a2))) fun h8 =>
    lq (a2 + (nI 1)) fun x9 =>
    k98 h8 a0 a1 x9
def f_River_copyFrom_l98 : Nat → AH → Nat → Nat → Int32 → Option AH
  | 0, _, _, _, _ => none
  | n + 1, h, a0, a1, a2 => f_River_copyFrom_b98 (f_River_copyFrom_l98  n) h a0 a1 a2
def f_River_copyFrom (h : AH) (a0 : Nat) (a1 : Nat) : Option AH :=
  gd (hT h a1 = 3) <|
  gd (hT h a0 = 3) <|
  lq (wI h a0 6 (hI h a1 6)) fun h3 =>
  gd (hT h3 a1 = 3) <|
  gd (hT h3 a0 = 3) <|
  lq (wI h3 a0 7 (hI h3 a1 7)) fun h6 =>
  gd (hT h6 a1 = 3) <|
  gd (hT h6 a0 = 3) <|
  lq (wI h6 a0 8 (hI h6 a1 8)) fun h9 =>
  gd (hT h9 a1 = 3) <|
  gd (hT h9 a0 = 3) <|
  lq (wI h9 a0 9 (hI h9 a1 9)) fun h12 =>
  gd (hT h12 a1 = 3) <|
  gd (hT h12 a0 = 3) <|
  lq (wI h12 a0 10 (hI h12 a1 10)) fun h15 =>
  gd (hT h15 a1 = 3) <|
  gd (hT h15 a0 = 3) <|
  lq (wI h15 a0 11 (hI h15 a1 11)) fun h18 =>
  gd (hT h18 a1 = 3) <|
  gd (hT h18 a0 = 3) <|
  lq (wI h18 a0 12 (hI h18 a1 12)) fun h21 =>
  gd (hT h21 a1 = 3) <|
  gd (hT h21 a0 = 3) <|
  lq (wI h21 a0 13 (hI h21 a1 13)) fun h24 =>
  gd (hT h24 a1 = 3) <|
  gd (hT h24 a0 = 3) <|
  lq (wI h24 a0 14 (hI h24 a1 14)) fun h27 =>
  gd (hT h27 a1 = 3) <|
  gd (hT h27 a0 = 3) <|
  lq (wI h27 a0 15 (hI h27 a1 15)) fun h30 =>
  gd (hT h30 a1 = 3) <|
  gd (hT h30 a0 = 3) <|
  lq (wI h30 a0 16 (hI h30 a1 16)) fun h33 =>
  gd (hT h33 a1 = 3) <|
  gd (hT h33 a0 = 3) <|
  lq (wI h33 a0 17 (hI h33 a1 17)) fun h36 =>
  f_River_copyFrom_l98  FU h36 a0 a1 (nI 0)
def f_QuillBoats_takeWhatWasTold (h : AH) (a0 : Nat) : Option AH :=
  gd (hT h a0 = 1) <|
  gd (hT h (hR h a0 8) = 2) <|
  bv (f_Orders_resolve h (hR h a0 8) (hR h a0 7)) fun h3 =>
  gd (hT h3 a0 = 1) <|
  gd (hT h3 (hR h3 a0 3) = 2) <|
  bv (f_Orders_copyFrom h3 (hR h3 a0 3) (hR h3 a0 8)) fun h6 =>
  gd (hT h6 a0 = 1) <|
  gd (hT h6 (hR h6 a0 4) = 3) <|
  gd (hT h6 (hR h6 a0 9) = 3) <|
  lq (wI h6 (hR h6 a0 9) 11 (hI h6 (hR h6 a0 4) 11)) fun h10 =>
  gd (hT h10 a0 = 1) <|
  gd (hT h10 (hR h10 a0 4) = 3) <|
  bv (f_River_copyFrom h10 (hR h10 a0 4) (hR h10 a0 9)) fun h13 =>
  some h13
def f_QuillBoats_teach (h : AH) (a0 : Nat) : Option (AH × Int32) :=
  gd (hT h a0 = 1) <|
  gd (hT h (hR h a0 7) = 11) <|
  bv (f_Tokens_split h (hR h a0 7) (hR h a0 0) (hI h a0 1)) fun h3 =>
  gd (hT h3 a0 = 1) <|
  lq (wI h3 a0 1 (nI 0)) fun h5 =>
  gd (hT h5 a0 = 1) <|
  gd (hT h5 (hR h5 a0 6) = 10) <|
  bn (f_Grammar_readsList h5 (hR h5 a0 6)) fun h8 r9 =>
  if ¬ r9 = 0 then
    gd (hT h8 a0 = 1) <|
    gd (hT h8 (hR h8 a0 9) = 3) <|
    bv (f_River_beginAnew h8 (hR h8 a0 9)) fun h13 =>
    gd (hT h13 a0 = 1) <|
    gd (hT h13 (hR h13 a0 5) = 9) <|
    bn (f_Names_lookAtAll h13 (hR h13 a0 5)) fun h16 r17 =>
    if r17 = 0 then
      gd (hT h16 a0 = 1) <|
      bv (f_QuillBoats_takeWhatWasTold h16 a0) fun h20 =>
      gd (hT h20 a0 = 1) <|
      lq (wI h20 a0 2 (-nI 1)) fun h22 =>
      some (h22, (nI 0))
    else
      gd (hT h16 a0 = 1) <|
      gd (hT h16 (hR h16 a0 5) = 9) <|
      bn (f_Names_place h16 (hR h16 a0 5)) fun h25 r26 =>
      gd (hT h25 (hR h16 a0 7) = 11) <|
      bn (f_Tokens_startOf h25 (hR h16 a0 7) r26) fun h28 r29 =>
      gd (hT h28 a0 = 1) <|
      lq (wI h28 a0 2 r29) fun h31 =>
      some (h31, r17)
  else
    gd (hT h8 a0 = 1) <|
    gd (hT h8 (hR h8 a0 6) = 10) <|
    bn (f_Grammar_place h8 (hR h8 a0 6)) fun h34 r35 =>
    gd (hT h34 (hR h8 a0 7) = 11) <|
    bn (f_Tokens_startOf h34 (hR h8 a0 7) r35) fun h37 r38 =>
    gd (hT h37 a0 = 1) <|
    lq (wI h37 a0 2 r38) fun h40 =>
    some (h40, (nI 1))
def f_Law_say_b112 (h : AH) (a0 : Nat)  : Option (AH × Int32) :=
  gd (hT h a0 = 1) <|
  bn (f_QuillBoats_teach h a0) fun h2 r3 =>
  some (h2, r3)
def f_Law_say_b63 (k7 : AH → Nat → Nat → Int32 → Int32 → Option (AH × Int32)) (k20 : AH → Nat → Nat → Int32 → Int32 → Nat → Int32 → Option (AH × Int32)) (h : AH) (a0 : Nat) (a1 : Nat) (a2 : Int32) (a3 : Int32) (a4 : Nat) (a5 : Int32) (s0 : Nat) (s1 : Int32) (s2 : Int32) (s3 : Int32) : Option (AH × Int32) :=
  gd (hT h s0 = 101 ∧ inb s1 (hL h s0)) <|
  lq (wI h s0 (ix s1) (s2 ||| s3)) fun h2 =>
  lq (a5 + (nI 1)) fun x3 =>
  k20 h2 a0 a1 a2 a3 a4 x3
def f_Law_say_b20 (k7 : AH → Nat → Nat → Int32 → Int32 → Option (AH × Int32)) (k20 : AH → Nat → Nat → Int32 → Int32 → Nat → Int32 → Option (AH × Int32)) (h : AH) (a0 : Nat) (a1 : Nat) (a2 : Int32) (a3 : Int32) (a4 : Nat) (a5 : Int32)  : Option (AH × Int32) :=
  if (nI 20) ≤ a5 then
    gd (hT h a4 = 101 ∧ inb (nI 0) (hL h a4)) <|
    gd (hT h a4 = 101 ∧ inb (nI 1) (hL h a4)) <|
    gd (hT h a4 = 101 ∧ inb (nI 2) (hL h a4)) <|
    gd (hT h a4 = 101 ∧ inb (nI 3) (hL h a4)) <|
    gd (hT h a4 = 101 ∧ inb (nI 4) (hL h a4)) <|
    gd (hT h a0 = 1) <|
    bn (f_QuillBoats_feed h a0 (hI h a4 (ix (nI 0))) (hI h a4 (ix (nI 1))) (hI h a4 (ix (nI 2))) (hI h a4 (ix (nI 3))) (hI h a4 (ix (nI 4)))) fun h8 r9 =>
    lq (a3 + (nI 20)) fun x10 =>
    k7 h8 a0 a1 a2 x10
  else
    gd (hT h a4 = 101 ∧ inb (a5 / (nI 4)) (hL h a4)) <|
    if a2 ≤ (a3 + a5) then
      f_Law_say_b63 k7 k20 h a0 a1 a2 a3 a4 a5 a4 (a5 / (nI 4)) ((hI h a4 (ix (a5 / (nI 4)))) <<< ((nI 8) &&& 31)) (nI 0)
    else
      gd (hT h a1 = 15) <|
      bn (f_String_charAt h a1 (a3 + a5)) fun h14 r15 =>
      f_Law_say_b63 k7 k20 h14 a0 a1 a2 a3 a4 a5 a4 (a5 / (nI 4)) ((hI h a4 (ix (a5 / (nI 4)))) <<< ((nI 8) &&& 31)) r15
def f_Law_say_l20 (k7 : AH → Nat → Nat → Int32 → Int32 → Option (AH × Int32)) : Nat → AH → Nat → Nat → Int32 → Int32 → Nat → Int32 → Option (AH × Int32)
  | 0, _, _, _, _, _, _, _ => none
  | n + 1, h, a0, a1, a2, a3, a4, a5 => f_Law_say_b20 k7 (f_Law_say_l20 k7 n) h a0 a1 a2 a3 a4 a5
def f_Law_say_b7 (k7 : AH → Nat → Nat → Int32 → Int32 → Option (AH × Int32)) (h : AH) (a0 : Nat) (a1 : Nat) (a2 : Int32) (a3 : Int32)  : Option (AH × Int32) :=
  if a2 ≤ a3 then
    if a2 ≤ 0 then
      f_Law_say_b112  h a0
    else
      gd (hT h a0 = 1) <|
      bn (f_QuillBoats_trim h a0 a2) fun h4 r5 =>
      f_Law_say_b112  h4 a0
  else
    lq (hA h 101 (ix (nI 5))) fun h6 =>
    lq (hN h) fun x7 =>
    f_Law_say_l20 k7 FU h6 a0 a1 a2 a3 x7 (nI 0)
def f_Law_say_l7 : Nat → AH → Nat → Nat → Int32 → Int32 → Option (AH × Int32)
  | 0, _, _, _, _, _ => none
  | n + 1, h, a0, a1, a2, a3 => f_Law_say_b7 (f_Law_say_l7  n) h a0 a1 a2 a3
def f_Law_say (h : AH) (a0 : Nat) (a1 : Nat) : Option (AH × Int32) :=
  gd (hT h a1 = 15) <|
  bn (f_String_length h a1) fun h2 r3 =>
  f_Law_say_l7  FU h2 a0 a1 r3 (nI 0)
def f_Sim_canWhet (h : AH) (a0 : Nat) (a1 : Int32) : Option (AH × Int32) :=
  gd (hT h a0 = 13) <|
  gd (hT h (hR h a0 15) = 109 ∧ inb a1 (hL h (hR h a0 15))) <|
  gd (hT h (hR h (hR h a0 15) (ix a1)) = 101 ∧ inb (nI 3) (hL h (hR h (hR h a0 15) (ix a1)))) <|
  if (nI 20) ≤ (hI h (hR h (hR h a0 15) (ix a1)) (ix (nI 3))) then
    some (h, (nI 0))
  else
    if (hI h a0 1) ≤ (nI 1) then
      some (h, (nI 0))
    else
      some (h, (nI 1))
def f_Sim_whet (h : AH) (a0 : Nat) (a1 : Int32) : Option AH :=
  gd (hT h a0 = 13) <|
  lq (wI h a0 1 ((hI h a0 1) - (nI 2))) fun h2 =>
  gd (hT h2 a0 = 13) <|
  gd (hT h2 (hR h2 a0 15) = 109 ∧ inb a1 (hL h2 (hR h2 a0 15))) <|
  gd (hT h2 (hR h2 (hR h2 a0 15) (ix a1)) = 101 ∧ inb (nI 3) (hL h2 (hR h2 (hR h2 a0 15) (ix a1)))) <|
  lq (wI h2 (hR h2 (hR h2 a0 15) (ix a1)) (ix (nI 3)) (nI 20)) fun h6 =>
  gd (hT h6 a0 = 13) <|
  gd (hT h6 (hR h6 a0 15) = 109 ∧ inb a1 (hL h6 (hR h6 a0 15))) <|
  gd (hT h6 (hR h6 (hR h6 a0 15) (ix a1)) = 101 ∧ inb (nI 5) (hL h6 (hR h6 (hR h6 a0 15) (ix a1)))) <|
  lq (wI h6 (hR h6 (hR h6 a0 15) (ix a1)) (ix (nI 5)) ((hI h6 (hR h6 (hR h6 a0 15) (ix a1)) (ix (nI 5))) + (nI 1))) fun h10 =>
  some h10
def f_River_whetsKnife (h : AH) (a0 : Nat) (a1 : Int32) : Option (AH × Int32) :=
  gd (hT h a0 = 3) <|
  bn (f_River_hasPeeler h a0 a1) fun h2 r3 =>
  if r3 = 0 then
    some (h2, (nI 0))
  else
    gd (hT h2 a0 = 3) <|
    gd (hT h2 (hR h2 a0 2) = 106 ∧ inb a1 (hL h2 (hR h2 a0 2))) <|
    gd (hT h2 (hR h2 (hR h2 a0 2) (ix a1)) = 6) <|
    if (nI 20) ≤ (hI h2 (hR h2 (hR h2 a0 2) (ix a1)) 3) then
      some (h2, (nI 0))
    else
      if (nI 2) ≤ (hI h2 a0 12) then
        lq (wI h2 a0 12 ((hI h2 a0 12) - (nI 2))) fun h10 =>
        gd (hT h10 a0 = 3) <|
        gd (hT h10 (hR h10 a0 2) = 106 ∧ inb a1 (hL h10 (hR h10 a0 2))) <|
        gd (hT h10 (hR h10 (hR h10 a0 2) (ix a1)) = 6) <|
        lq (wI h10 (hR h10 (hR h10 a0 2) (ix a1)) 3 (nI 20)) fun h14 =>
        gd (hT h14 a0 = 3) <|
        gd (hT h14 (hR h14 a0 2) = 106 ∧ inb a1 (hL h14 (hR h14 a0 2))) <|
        gd (hT h14 (hR h14 (hR h14 a0 2) (ix a1)) = 6) <|
        lq (wI h14 (hR h14 (hR h14 a0 2) (ix a1)) 5 ((hI h14 (hR h14 (hR h14 a0 2) (ix a1)) 5) + (nI 1))) fun h18 =>
        some (h18, (nI 1))
      else
        some (h2, (nI 0))
def f_QuillBoats_whet (h : AH) (a0 : Nat) (a1 : Int32) : Option (AH × Int32) :=
  gd (hT h a0 = 1) <|
  gd (hT h (hR h a0 4) = 3) <|
  bn (f_River_hasPeeler h (hR h a0 4) a1) fun h3 r4 =>
  if ¬ r4 = 0 then
    gd (hT h3 a0 = 1) <|
    gd (hT h3 (hR h3 a0 4) = 3) <|
    bn (f_River_whetsKnife h3 (hR h3 a0 4) a1) fun h8 r9 =>
    if ¬ r9 = 0 then
      gd (hT h8 a0 = 1) <|
      gd (hT h8 (hR h8 a0 4) = 3) <|
      some (h8, (hI h8 (hR h8 a0 4) 12))
    else
      none
  else
    none
def f_River_hasGrade (h : AH) (a0 : Nat) (a1 : Int32) : Option (AH × Int32) :=
  if a1 < 0 then
    some (h, (nI 0))
  else
    if (nI 4) ≤ a1 then
      some (h, (nI 0))
    else
      some (h, (nI 1))
def f_River_loadBoat (h : AH) (a0 : Nat) (a1 : Int32) (a2 : Int32) (a3 : Int32) : Option (AH × Int32) :=
  gd (hT h a0 = 3) <|
  bn (f_River_hasBoat h a0 a1) fun h2 r3 =>
  if r3 = 0 then
    some (h2, (nI 0))
  else
    gd (hT h2 a0 = 3) <|
    bn (f_River_hasGrade h2 a0 a2) fun h6 r7 =>
    if r7 = 0 then
      some (h6, (nI 0))
    else
      gd (hT h6 a0 = 3) <|
      gd (hT h6 (hR h6 a0 3) = 107 ∧ inb a1 (hL h6 (hR h6 a0 3))) <|
      gd (hT h6 (hR h6 (hR h6 a0 3) (ix a1)) = 7) <|
      if (hI h6 (hR h6 (hR h6 a0 3) (ix a1)) 3) = 0 then
        bn (f_Math_min h6 a3 (hI h6 (hR h6 (hR h6 a0 3) (ix a1)) 0)) fun h13 r14 =>
        gd (hT h13 a0 = 3) <|
        gd (hT h13 (hR h13 a0 4) = 108 ∧ inb a2 (hL h13 (hR h13 a0 4))) <|
        gd (hT h13 (hR h13 (hR h13 a0 4) (ix a2)) = 8) <|
        bn (f_Math_min h13 r14 (hI h13 (hR h13 (hR h13 a0 4) (ix a2)) 0)) fun h18 r19 =>
        if (nI 1) ≤ r19 then
          gd (hT h18 a0 = 3) <|
          gd (hT h18 (hR h18 a0 4) = 108 ∧ inb a2 (hL h18 (hR h18 a0 4))) <|
          gd (hT h18 (hR h18 (hR h18 a0 4) (ix a2)) = 8) <|
          lq (wI h18 (hR h18 (hR h18 a0 4) (ix a2)) 0 ((hI h18 (hR h18 (hR h18 a0 4) (ix a2)) 0) - r19)) fun h24 =>
          gd (hT h24 a0 = 3) <|
          gd (hT h24 (hR h24 a0 3) = 107 ∧ inb a1 (hL h24 (hR h24 a0 3))) <|
          gd (hT h24 (hR h24 (hR h24 a0 3) (ix a1)) = 7) <|
          lq (wI h24 (hR h24 (hR h24 a0 3) (ix a1)) 4 r19) fun h28 =>
          gd (hT h28 a0 = 3) <|
          gd (hT h28 (hR h28 a0 3) = 107 ∧ inb a1 (hL h28 (hR h28 a0 3))) <|
          gd (hT h28 (hR h28 (hR h28 a0 3) (ix a1)) = 7) <|
          lq (wI h28 (hR h28 (hR h28 a0 3) (ix a1)) 5 a2) fun h32 =>
          gd (hT h32 a0 = 3) <|
          gd (hT h32 (hR h32 a0 3) = 107 ∧ inb a1 (hL h32 (hR h32 a0 3))) <|
          gd (hT h32 (hR h32 (hR h32 a0 3) (ix a1)) = 7) <|
          lq (wI h32 (hR h32 (hR h32 a0 3) (ix a1)) 3 (nI 1)) fun h36 =>
          some (h36, r19)
        else
          some (h18, (nI 0))
      else
        some (h6, (nI 0))
def f_QuillBoats_load_b22 (h : AH)   : Option (AH × Int32) :=
  none
def f_QuillBoats_load (h : AH) (a0 : Nat) (a1 : Int32) (a2 : Int32) (a3 : Int32) : Option (AH × Int32) :=
  gd (hT h a0 = 1) <|
  gd (hT h (hR h a0 4) = 3) <|
  bn (f_River_hasBoat h (hR h a0 4) a1) fun h3 r4 =>
  if r4 = 0 then
    f_QuillBoats_load_b22  h3 
  else
    gd (hT h3 a0 = 1) <|
    gd (hT h3 (hR h3 a0 4) = 3) <|
    bn (f_River_hasGrade h3 (hR h3 a0 4) a2) fun h8 r9 =>
    if ¬ r9 = 0 then
      gd (hT h8 a0 = 1) <|
      gd (hT h8 (hR h8 a0 4) = 3) <|
      gd (hT h8 (hR h8 (hR h8 a0 4) 3) = 107 ∧ inb a1 (hL h8 (hR h8 (hR h8 a0 4) 3))) <|
      gd (hT h8 (hR h8 (hR h8 (hR h8 a0 4) 3) (ix a1)) = 7) <|
      bn (f_QuillBoats_isWithin h8 a3 (nI 1) (hI h8 (hR h8 (hR h8 (hR h8 a0 4) 3) (ix a1)) 0)) fun h15 r16 =>
      if ¬ r16 = 0 then
        gd (hT h15 a0 = 1) <|
        gd (hT h15 (hR h15 a0 4) = 3) <|
        bn (f_River_loadBoat h15 (hR h15 a0 4) a1 a2 a3) fun h20 r21 =>
        if (nI 1) ≤ r21 then
          some (h20, r21)
        else
          none
      else
        none
    else
      f_QuillBoats_load_b22  h8 
def f_Sim_load_b53 (h : AH) (a0 : Nat) (a2 : Int32) (a4 : Nat) (a5 : Int32)  : Option (AH × Int32) :=
  gd (hT h a4 = 101 ∧ inb (nI 3) (hL h a4)) <|
  if ¬ (hI h a4 (ix (nI 3))) = 0 then
    some (h, (nI 0))
  else
    if ¬ a5 = 0 then
      gd (hT h a0 = 13) <|
      gd (hT h (hR h a0 9) = 101 ∧ inb a2 (hL h (hR h a0 9))) <|
      lq (wI h (hR h a0 9) (ix a2) ((hI h (hR h a0 9) (ix a2)) - a5)) fun h6 =>
      gd (hT h6 a4 = 101 ∧ inb (nI 2) (hL h6 a4)) <|
      lq (wI h6 a4 (ix (nI 2)) (nI 0)) fun h8 =>
      gd (hT h8 a4 = 101 ∧ inb (nI 3) (hL h8 a4)) <|
      lq (wI h8 a4 (ix (nI 3)) (nI 1)) fun h10 =>
      gd (hT h10 a4 = 101 ∧ inb (nI 4) (hL h10 a4)) <|
      lq (wI h10 a4 (ix (nI 4)) a5) fun h12 =>
      gd (hT h12 a4 = 101 ∧ inb (nI 5) (hL h12 a4)) <|
      lq (wI h12 a4 (ix (nI 5)) a2) fun h14 =>
      some (h14, a5)
    else
      some (h, (nI 0))
def f_Sim_load_b32 (h : AH) (a0 : Nat) (a2 : Int32) (a4 : Nat) (s0 : Int32) : Option (AH × Int32) :=
  gd (hT h a0 = 13) <|
  gd (hT h (hR h a0 9) = 101 ∧ inb a2 (hL h (hR h a0 9))) <|
  if s0 ≤ (hI h (hR h a0 9) (ix a2)) then
    f_Sim_load_b53  h a0 a2 a4 s0
  else
    lq (hI h (hR h a0 9) (ix a2)) fun x4 =>
    f_Sim_load_b53  h a0 a2 a4 x4
def f_Sim_load (h : AH) (a0 : Nat) (a1 : Int32) (a2 : Int32) (a3 : Int32) : Option (AH × Int32) :=
  gd (hT h a0 = 13) <|
  gd (hT h (hR h a0 16) = 109 ∧ inb a1 (hL h (hR h a0 16))) <|
  lq (hR h (hR h a0 16) (ix a1)) fun x3 =>
  if 0 ≤ a3 then
    gd (hT h x3 = 101 ∧ inb (nI 0) (hL h x3)) <|
    if a3 ≤ (hI h x3 (ix (nI 0))) then
      f_Sim_load_b32  h a0 a2 x3 a3
    else
      f_Sim_load_b32  h a0 a2 x3 (hI h x3 (ix (nI 0)))
  else
    f_Sim_load_b32  h a0 a2 x3 (nI 0)
def f_QuillBoats_setShade (h : AH) (a0 : Nat) (a1 : Int32) (a2 : Int32) : Option (AH × Int32) :=
  bn (f_QuillBoats_isWithin h a1 (nI 0) (nI 11)) fun h1 r2 =>
  if ¬ r2 = 0 then
    bn (f_QuillBoats_isWithin h1 a2 (nI 0) (nI 3)) fun h4 r5 =>
    if ¬ r5 = 0 then
      gd (hT h4 a0 = 1) <|
      gd (hT h4 (hR h4 a0 4) = 3) <|
      gd (hT h4 (hR h4 (hR h4 a0 4) 5) = 101 ∧ inb a1 (hL h4 (hR h4 (hR h4 a0 4) 5))) <|
      lq (hI h4 (hR h4 (hR h4 a0 4) 5) (ix a1)) fun x10 =>
      lq (wI h4 (hR h4 (hR h4 a0 4) 5) (ix a1) a2) fun h11 =>
      some (h11, x10)
    else
      none
  else
    none
def f_QuillBoats_setCurrent (h : AH) (a0 : Nat) (a1 : Int32) : Option (AH × Int32) :=
  bn (f_QuillBoats_isWithin h a1 (nI 0) (nI 5)) fun h1 r2 =>
  if ¬ r2 = 0 then
    gd (hT h1 a0 = 1) <|
    gd (hT h1 (hR h1 a0 4) = 3) <|
    lq (hI h1 (hR h1 a0 4) 14) fun x6 =>
    lq (wI h1 (hR h1 a0 4) 14 a1) fun h7 =>
    some (h7, x6)
  else
    none
def f_QuillBoats_grant (h : AH) (a0 : Nat) (a1 : Int32) : Option (AH × Int32) :=
  bn (f_QuillBoats_isWithin h a1 (nI 1) (nI 9999)) fun h1 r2 =>
  if ¬ r2 = 0 then
    gd (hT h1 a0 = 1) <|
    gd (hT h1 (hR h1 a0 4) = 3) <|
    bn (f_Math_min h1 (nI 99999) ((hI h1 (hR h1 a0 4) 12) + a1)) fun h6 r7 =>
    gd (hT h6 (hR h1 a0 4) = 3) <|
    lq (wI h6 (hR h1 a0 4) 12 r7) fun h9 =>
    gd (hT h9 a0 = 1) <|
    gd (hT h9 (hR h9 a0 4) = 3) <|
    some (h9, (hI h9 (hR h9 a0 4) 12))
  else
    none
def f_Sim_room_b21 (k21 : AH → Int32 → Nat → Int32 → Int32 → Option (AH × Int32)) (h : AH) (a2 : Int32) (a3 : Nat) (a4 : Int32) (a5 : Int32)  : Option (AH × Int32) :=
  if a4 ≤ a5 then
    some (h, a2)
  else
    gd (hT h a3 = 109 ∧ inb a5 (hL h a3)) <|
    lq (hR h a3 (ix a5)) fun x3 =>
    gd (hT h x3 = 101 ∧ inb (nI 0) (hL h x3)) <|
    lq (a2 - (hI h x3 (ix (nI 0)))) fun x5 =>
    lq (a5 + (nI 1)) fun x6 =>
    k21 h x5 a3 a4 x6
def f_Sim_room_l21 : Nat → AH → Int32 → Nat → Int32 → Int32 → Option (AH × Int32)
  | 0, _, _, _, _, _ => none
  | n + 1, h, a2, a3, a4, a5 => f_Sim_room_b21 (f_Sim_room_l21  n) h a2 a3 a4 a5
def f_Sim_room (h : AH) (a0 : Nat) (a1 : Int32) : Option (AH × Int32) :=
  gd (hT h a0 = 13) <|
  gd (hT h (hR h a0 13) = 101 ∧ inb a1 (hL h (hR h a0 13))) <|
  lq (hI h (hR h a0 13) (ix a1)) fun x3 =>
  gd (hT h (hR h a0 14) = 110 ∧ inb a1 (hL h (hR h a0 14))) <|
  lq (hR h (hR h a0 14) (ix a1)) fun x5 =>
  gd (hT h x5 = 109) <|
  lq (nI (hL h x5)) fun x7 =>
  f_Sim_room_l21  FU h x3 x5 x7 (nI 0)
def f_Sim_priceOf (h : AH) (a0 : Nat) (a1 : Int32) : Option (AH × Int32) :=
  gd (hT h a0 = 13) <|
  gd (hT h (hR h a0 8) = 101 ∧ inb a1 (hL h (hR h a0 8))) <|
  gd (hT h (hR h a0 10) = 101 ∧ inb a1 (hL h (hR h a0 10))) <|
  lq ((hI h (hR h a0 8) (ix a1)) - ((hI h (hR h a0 10) (ix a1)) / (nI 4))) fun x4 =>
  if 0 ≤ x4 then
    some (h, x4)
  else
    some (h, (nI 0))
def f_Sim_holds_b200 (h : AH)   : Option (AH × Int32) :=
  some (h, (nI 1))
def f_Sim_holds (h : AH) (a0 : Nat) (a1 : Nat) : Option (AH × Int32) :=
  gd (hT h a1 = 101 ∧ inb (nI 6) (hL h a1)) <|
  lq (hI h a1 (ix (nI 6))) fun x2 =>
  gd (hT h a1 = 101 ∧ inb (nI 7) (hL h a1)) <|
  lq (hI h a1 (ix (nI 7))) fun x4 =>
  gd (hT h a1 = 101 ∧ inb (nI 5) (hL h a1)) <|
  lq (hI h a1 (ix (nI 5))) fun x6 =>
  if x6 = nI 0 then
    gd (hT h a0 = 13) <|
    if ((hI h a0 0) - (hI h a0 0) / (nI 12) * (nI 12)) < (x4 - x4 / (nI 12) * (nI 12)) then
      some (h, (nI 0))
    else
      some (h, (nI 1))
  else
  if x6 = nI 1 then
    gd (hT h a0 = 13) <|
    gd (hT h (hR h a0 15) = 109) <|
    gd (¬ (nI (hL h (hR h a0 15))) = 0) <|
    gd (hT h (hR h a0 15) = 109 ∧ inb (x2 - x2 / (nI (hL h (hR h a0 15))) * (nI (hL h (hR h a0 15)))) (hL h (hR h a0 15))) <|
    gd (hT h (hR h (hR h a0 15) (ix (x2 - x2 / (nI (hL h (hR h a0 15))) * (nI (hL h (hR h a0 15)))))) = 101 ∧ inb (nI 3) (hL h (hR h (hR h a0 15) (ix (x2 - x2 / (nI (hL h (hR h a0 15))) * (nI (hL h (hR h a0 15)))))))) <|
    if (x4 - x4 / (nI 21) * (nI 21)) ≤ (hI h (hR h (hR h a0 15) (ix (x2 - x2 / (nI (hL h (hR h a0 15))) * (nI (hL h (hR h a0 15)))))) (ix (nI 3))) then
      some (h, (nI 0))
    else
      some (h, (nI 1))
  else
  if x6 = nI 2 then
    gd (hT h a0 = 13) <|
    gd (hT h (hR h a0 15) = 109) <|
    gd (¬ (nI (hL h (hR h a0 15))) = 0) <|
    gd (hT h (hR h a0 15) = 109 ∧ inb (x2 - x2 / (nI (hL h (hR h a0 15))) * (nI (hL h (hR h a0 15)))) (hL h (hR h a0 15))) <|
    gd (hT h (hR h (hR h a0 15) (ix (x2 - x2 / (nI (hL h (hR h a0 15))) * (nI (hL h (hR h a0 15)))))) = 101 ∧ inb (nI 3) (hL h (hR h (hR h a0 15) (ix (x2 - x2 / (nI (hL h (hR h a0 15))) * (nI (hL h (hR h a0 15)))))))) <|
    if ¬ (hI h (hR h (hR h a0 15) (ix (x2 - x2 / (nI (hL h (hR h a0 15))) * (nI (hL h (hR h a0 15)))))) (ix (nI 3))) = 0 then
      some (h, (nI 0))
    else
      some (h, (nI 1))
  else
  if x6 = nI 3 then
    gd (hT h a0 = 13) <|
    gd (hT h (hR h a0 16) = 109) <|
    gd (¬ (nI (hL h (hR h a0 16))) = 0) <|
    gd (hT h (hR h a0 16) = 109 ∧ inb (x2 - x2 / (nI (hL h (hR h a0 16))) * (nI (hL h (hR h a0 16)))) (hL h (hR h a0 16))) <|
    gd (hT h (hR h (hR h a0 16) (ix (x2 - x2 / (nI (hL h (hR h a0 16))) * (nI (hL h (hR h a0 16)))))) = 101 ∧ inb (nI 3) (hL h (hR h (hR h a0 16) (ix (x2 - x2 / (nI (hL h (hR h a0 16))) * (nI (hL h (hR h a0 16)))))))) <|
    if ¬ (hI h (hR h (hR h a0 16) (ix (x2 - x2 / (nI (hL h (hR h a0 16))) * (nI (hL h (hR h a0 16)))))) (ix (nI 3))) = 0 then
      some (h, (nI 0))
    else
      some (h, (nI 1))
  else
  if x6 = nI 4 then
    gd (hT h a0 = 13) <|
    if (hI h a0 1) ≤ x4 then
      some (h, (nI 0))
    else
      some (h, (nI 1))
  else
  if x6 = nI 5 then
    gd (hT h a0 = 13) <|
    gd (hT h (hR h a0 14) = 110) <|
    gd (¬ (nI (hL h (hR h a0 14))) = 0) <|
    bn (f_Sim_room h a0 (x2 - x2 / (nI (hL h (hR h a0 14))) * (nI (hL h (hR h a0 14))))) fun h38 r39 =>
    if (x4 - x4 / (nI 30) * (nI 30)) < r39 then
      f_Sim_holds_b200  h38 
    else
      gd (hT h38 a0 = 13) <|
      gd (hT h38 (hR h38 a0 9) = 101 ∧ inb (x2 - x2 / (nI 4) * (nI 4)) (hL h38 (hR h38 a0 9))) <|
      if (x4 - x4 / (nI 9) * (nI 9)) ≤ (hI h38 (hR h38 a0 9) (ix (x2 - x2 / (nI 4) * (nI 4)))) then
        some (h38, (nI 0))
      else
        f_Sim_holds_b200  h38 
  else
  if x6 = nI 6 then
    gd (hT h a0 = 13) <|
    gd (hT h (hR h a0 12) = 109) <|
    gd (¬ (nI (hL h (hR h a0 12))) = 0) <|
    gd (hT h (hR h a0 12) = 109 ∧ inb (x2 - x2 / (nI (hL h (hR h a0 12))) * (nI (hL h (hR h a0 12)))) (hL h (hR h a0 12))) <|
    gd (hT h (hR h (hR h a0 12) (ix (x2 - x2 / (nI (hL h (hR h a0 12))) * (nI (hL h (hR h a0 12)))))) = 101 ∧ inb (nI 0) (hL h (hR h (hR h a0 12) (ix (x2 - x2 / (nI (hL h (hR h a0 12))) * (nI (hL h (hR h a0 12)))))))) <|
    if (hI h (hR h (hR h a0 12) (ix (x2 - x2 / (nI (hL h (hR h a0 12))) * (nI (hL h (hR h a0 12)))))) (ix (nI 0))) < (x4 - x4 / (nI 60) * (nI 60)) then
      some (h, (nI 0))
    else
      bn (f_Sim_priceOf h a0 (x2 - x2 / (nI 4) * (nI 4))) fun h51 r52 =>
      if r52 < (nI 1) then
        some (h51, (nI 0))
      else
        some (h51, (nI 1))
  else
  if x6 = nI 7 then
    gd (hT h a0 = 13) <|
    gd (hT h (hR h a0 16) = 109) <|
    gd (¬ (nI (hL h (hR h a0 16))) = 0) <|
    gd (hT h (hR h a0 16) = 109 ∧ inb (x2 - x2 / (nI (hL h (hR h a0 16))) * (nI (hL h (hR h a0 16)))) (hL h (hR h a0 16))) <|
    gd (hT h (hR h (hR h a0 16) (ix (x2 - x2 / (nI (hL h (hR h a0 16))) * (nI (hL h (hR h a0 16)))))) = 101 ∧ inb (nI 2) (hL h (hR h (hR h a0 16) (ix (x2 - x2 / (nI (hL h (hR h a0 16))) * (nI (hL h (hR h a0 16)))))))) <|
    if (x4 - x4 / (nI 20) * (nI 20)) < (hI h (hR h (hR h a0 16) (ix (x2 - x2 / (nI (hL h (hR h a0 16))) * (nI (hL h (hR h a0 16)))))) (ix (nI 2))) then
      some (h, (nI 0))
    else
      some (h, (nI 1))
  else
  some (h, (nI 1))
def f_Sim_sum (h : AH) (a0 : Nat) (a1 : Nat) : Option (AH × Int32) :=
  gd (hT h a1 = 101 ∧ inb (nI 2) (hL h a1)) <|
  lq (hI h a1 (ix (nI 2))) fun x2 =>
  gd (hT h a1 = 101 ∧ inb (nI 3) (hL h a1)) <|
  if ¬ (hI h a1 (ix (nI 3))) = 0 then
    if ¬ (hI h a1 (ix (nI 3))) = (nI 1) then
      if ¬ (hI h a1 (ix (nI 3))) = (nI 2) then
        gd (hT h a0 = 13) <|
        bn (f_Sim_priceOf h a0 x2) fun h8 r9 =>
        gd (hT h8 a1 = 101 ∧ inb (nI 4) (hL h8 a1)) <|
        some (h8, ((r9 * (nI 2)) + ((hI h8 a1 (ix (nI 4))) - (hI h8 a1 (ix (nI 4))) / (nI 5) * (nI 5))))
      else
        gd (hT h a0 = 13) <|
        gd (hT h (hR h a0 9) = 101 ∧ inb x2 (hL h (hR h a0 9))) <|
        gd (hT h a1 = 101 ∧ inb (nI 4) (hL h a1)) <|
        bn (f_Math_max h ((hI h (hR h a0 9) (ix x2)) / (nI 2)) ((hI h a1 (ix (nI 4))) - (hI h a1 (ix (nI 4))) / (nI 9) * (nI 9))) fun h14 r15 =>
        some (h14, r15)
    else
      gd (hT h a0 = 13) <|
      gd (hT h (hR h a0 9) = 101 ∧ inb x2 (hL h (hR h a0 9))) <|
      gd (hT h a1 = 101 ∧ inb (nI 4) (hL h a1)) <|
      some (h, ((hI h (hR h a0 9) (ix x2)) - ((hI h a1 (ix (nI 4))) - (hI h a1 (ix (nI 4))) / (nI 7) * (nI 7))))
  else
    gd (hT h a1 = 101 ∧ inb (nI 4) (hL h a1)) <|
    some (h, ((hI h a1 (ix (nI 4))) - (hI h a1 (ix (nI 4))) / (nI 50) * (nI 50)))
def f_Sim_grade (h : AH) (a0 : Nat) : Option (AH × Int32) :=
  gd (hT h a0 = 101 ∧ inb (nI 1) (hL h a0)) <|
  gd (hT h a0 = 101 ∧ inb (nI 3) (hL h a0)) <|
  lq ((((hI h a0 (ix (nI 1))) - (nI 1)) / (nI 3)) + ((hI h a0 (ix (nI 3))) / (nI 3))) fun x3 =>
  if x3 ≤ (nI 3) then
    some (h, x3)
  else
    some (h, (nI 3))
def f_Sim_pass_b929 (k905 : AH → Nat → Int32 → Option AH) (h : AH) (a0 : Nat) (a2 : Int32)  : Option AH :=
  lq (a2 + (nI 1)) fun x1 =>
  k905 h a0 x1
def f_Sim_pass_b905 (k905 : AH → Nat → Int32 → Option AH) (h : AH) (a0 : Nat) (a2 : Int32)  : Option AH :=
  if (nI 4) ≤ a2 then
    gd (hT h a0 = 13) <|
    lq (wI h a0 0 ((hI h a0 0) + (nI 1))) fun h3 =>
    gd (hT h3 a0 = 13) <|
    if (hI h3 a0 1) ≤ (nI 99999) then
      some h3
    else
      lq (wI h3 a0 1 (nI 99999)) fun h6 =>
      some h6
  else
    gd (hT h a0 = 13) <|
    gd (hT h (hR h a0 10) = 101 ∧ inb a2 (hL h (hR h a0 10))) <|
    if (hI h (hR h a0 10) (ix a2)) ≤ 0 then
      f_Sim_pass_b929 k905 h a0 a2
    else
      lq (wI h (hR h a0 10) (ix a2) ((hI h (hR h a0 10) (ix a2)) - (nI 1))) fun h10 =>
      f_Sim_pass_b929 k905 h10 a0 a2
def f_Sim_pass_l905 : Nat → AH → Nat → Int32 → Option AH
  | 0, _, _, _ => none
  | n + 1, h, a0, a2 => f_Sim_pass_b905 (f_Sim_pass_l905  n) h a0 a2
def f_Sim_pass_b897 (k688 : AH → Nat → Nat → Int32 → Int32 → Option AH) (h : AH) (a0 : Nat) (a2 : Nat) (a3 : Int32) (a4 : Int32)  : Option AH :=
  lq (a4 + (nI 1)) fun x1 =>
  k688 h a0 a2 a3 x1
def f_Sim_pass_b766 (k688 : AH → Nat → Nat → Int32 → Int32 → Option AH) (k766 : AH → Nat → Nat → Int32 → Int32 → Nat → Option AH) (h : AH) (a0 : Nat) (a2 : Nat) (a3 : Int32) (a4 : Int32) (a5 : Nat)  : Option AH :=
  gd (hT h a5 = 101 ∧ inb (nI 4) (hL h a5)) <|
  if (hI h a5 (ix (nI 4))) ≤ 0 then
    f_Sim_pass_b897 k688 h a0 a2 a3 a4
  else
    gd (hT h a5 = 101 ∧ inb (nI 6) (hL h a5)) <|
    gd (hT h a5 = 101 ∧ inb (nI 5) (hL h a5)) <|
    gd (hT h a0 = 13) <|
    bn (f_Sim_priceOf h a0 (hI h a5 (ix (nI 5)))) fun h6 r7 =>
    gd (hT h6 a5 = 101 ∧ inb (nI 6) (hL h6 a5)) <|
    lq (wI h6 a5 (ix (nI 6)) ((hI h a5 (ix (nI 6))) + r7)) fun h9 =>
    gd (hT h9 a0 = 13) <|
    gd (hT h9 a5 = 101 ∧ inb (nI 5) (hL h9 a5)) <|
    bn (f_Sim_priceOf h9 a0 (hI h9 a5 (ix (nI 5)))) fun h12 r13 =>
    gd (hT h12 a0 = 13) <|
    lq (wI h12 a0 1 ((hI h9 a0 1) + r13)) fun h15 =>
    gd (hT h15 a0 = 13) <|
    gd (hT h15 a5 = 101 ∧ inb (nI 5) (hL h15 a5)) <|
    gd (hT h15 (hR h15 a0 10) = 101 ∧ inb (hI h15 a5 (ix (nI 5))) (hL h15 (hR h15 a0 10))) <|
    lq (wI h15 (hR h15 a0 10) (ix (hI h15 a5 (ix (nI 5)))) ((hI h15 (hR h15 a0 10) (ix (hI h15 a5 (ix (nI 5))))) + (nI 1))) fun h19 =>
    gd (hT h19 a0 = 13) <|
    gd (hT h19 a5 = 101 ∧ inb (nI 5) (hL h19 a5)) <|
    gd (hT h19 (hR h19 a0 11) = 101 ∧ inb (hI h19 a5 (ix (nI 5))) (hL h19 (hR h19 a0 11))) <|
    lq (wI h19 (hR h19 a0 11) (ix (hI h19 a5 (ix (nI 5)))) ((hI h19 (hR h19 a0 11) (ix (hI h19 a5 (ix (nI 5))))) + (nI 1))) fun h23 =>
    gd (hT h23 a0 = 13) <|
    lq (wI h23 a0 3 ((hI h23 a0 3) + (nI 1))) fun h25 =>
    gd (hT h25 a5 = 101 ∧ inb (nI 4) (hL h25 a5)) <|
    lq (wI h25 a5 (ix (nI 4)) ((hI h25 a5 (ix (nI 4))) - (nI 1))) fun h27 =>
    k766 h27 a0 a2 a3 a4 a5
def f_Sim_pass_l766 (k688 : AH → Nat → Nat → Int32 → Int32 → Option AH) : Nat → AH → Nat → Nat → Int32 → Int32 → Nat → Option AH
  | 0, _, _, _, _, _, _ => none
  | n + 1, h, a0, a2, a3, a4, a5 => f_Sim_pass_b766 k688 (f_Sim_pass_l766 k688 n) h a0 a2 a3 a4 a5
def f_Sim_pass_b737 (k688 : AH → Nat → Nat → Int32 → Int32 → Option AH) (h : AH) (a0 : Nat) (a2 : Nat) (a3 : Int32) (a4 : Int32) (a5 : Nat) (s0 : Nat) (s1 : Int32) (s2 : Int32) (s3 : Int32) : Option AH :=
  gd (hT h s0 = 101 ∧ inb s1 (hL h s0)) <|
  lq (wI h s0 (ix s1) (s2 + s3)) fun h2 =>
  gd (hT h2 a5 = 101 ∧ inb (nI 2) (hL h2 a5)) <|
  gd (hT h2 a0 = 13) <|
  if (hI h2 a0 5) ≤ (hI h2 a5 (ix (nI 2))) then
    lq (wI h2 a5 (ix (nI 2)) (hI h2 a0 5)) fun h6 =>
    gd (hT h6 a5 = 101 ∧ inb (nI 3) (hL h6 a5)) <|
    lq (wI h6 a5 (ix (nI 3)) (nI 2)) fun h8 =>
    f_Sim_pass_l766 k688 FU h8 a0 a2 a3 a4 a5
  else
    f_Sim_pass_b897 k688 h2 a0 a2 a3 a4
def f_Sim_pass_b688 (k688 : AH → Nat → Nat → Int32 → Int32 → Option AH) (h : AH) (a0 : Nat) (a2 : Nat) (a3 : Int32) (a4 : Int32)  : Option AH :=
  if a3 ≤ a4 then
    f_Sim_pass_l905  FU h a0 (nI 0)
  else
    gd (hT h a2 = 109 ∧ inb a4 (hL h a2)) <|
    lq (hR h a2 (ix a4)) fun x3 =>
    gd (hT h x3 = 101 ∧ inb (nI 3) (hL h x3)) <|
    if ¬ (hI h x3 (ix (nI 3))) = (nI 1) then
      if ¬ (hI h x3 (ix (nI 3))) = (nI 2) then
        f_Sim_pass_b897 k688 h a0 a2 a3 a4
      else
        gd (hT h x3 = 101 ∧ inb (nI 2) (hL h x3)) <|
        gd (hT h x3 = 101 ∧ inb (nI 1) (hL h x3)) <|
        gd (hT h a0 = 13) <|
        lq (wI h x3 (ix (nI 2)) ((hI h x3 (ix (nI 2))) - ((hI h x3 (ix (nI 1))) + (hI h a0 6)))) fun h10 =>
        gd (hT h10 x3 = 101 ∧ inb (nI 2) (hL h10 x3)) <|
        if (hI h10 x3 (ix (nI 2))) ≤ 0 then
          lq (wI h10 x3 (ix (nI 2)) (nI 0)) fun h13 =>
          gd (hT h13 x3 = 101 ∧ inb (nI 3) (hL h13 x3)) <|
          lq (wI h13 x3 (ix (nI 3)) (nI 0)) fun h15 =>
          f_Sim_pass_b897 k688 h15 a0 a2 a3 a4
        else
          f_Sim_pass_b897 k688 h10 a0 a2 a3 a4
    else
      gd (hT h x3 = 101 ∧ inb (nI 2) (hL h x3)) <|
      gd (hT h x3 = 101 ∧ inb (nI 1) (hL h x3)) <|
      gd (hT h a0 = 13) <|
      if (hI h x3 (ix (nI 1))) ≤ (hI h a0 6) then
        f_Sim_pass_b737 k688 h a0 a2 a3 a4 x3 x3 (nI 2) (hI h x3 (ix (nI 2))) (nI 1)
      else
        f_Sim_pass_b737 k688 h a0 a2 a3 a4 x3 x3 (nI 2) (hI h x3 (ix (nI 2))) ((hI h x3 (ix (nI 1))) - (hI h a0 6))
def f_Sim_pass_l688 : Nat → AH → Nat → Nat → Int32 → Int32 → Option AH
  | 0, _, _, _, _, _ => none
  | n + 1, h, a0, a2, a3, a4 => f_Sim_pass_b688 (f_Sim_pass_l688  n) h a0 a2 a3 a4
def f_Sim_pass_b657 (k486 : AH → Nat → Int32 → Int32 → Option AH) (k617 : AH → Nat → Int32 → Int32 → Nat → Int32 → Nat → Int32 → Int32 → Option AH) (h : AH) (a0 : Nat) (a1 : Int32) (a2 : Int32) (a4 : Nat) (a5 : Int32) (a6 : Nat) (a7 : Int32) (a8 : Int32)  : Option AH :=
  lq (a8 + (nI 1)) fun x1 =>
  k617 h a0 a1 a2 a4 a5 a6 a7 x1
def f_Sim_pass_b617 (k486 : AH → Nat → Int32 → Int32 → Option AH) (k617 : AH → Nat → Int32 → Int32 → Nat → Int32 → Nat → Int32 → Int32 → Option AH) (h : AH) (a0 : Nat) (a1 : Int32) (a2 : Int32) (a4 : Nat) (a5 : Int32) (a6 : Nat) (a7 : Int32) (a8 : Int32)  : Option AH :=
  if a7 ≤ a8 then
    gd (hT h a0 = 13) <|
    gd (hT h (hR h a0 14) = 110 ∧ inb a2 (hL h (hR h a0 14)) ∧ hT h a4 = 109) <|
    lq (wR h (hR h a0 14) (ix a2) a4) fun h4 =>
    lq (a2 + (nI 1)) fun x5 =>
    k486 h4 a0 a1 x5
  else
    gd (hT h a6 = 109 ∧ inb a8 (hL h a6)) <|
    lq (hR h a6 (ix a8)) fun x7 =>
    gd (hT h x7 = 101 ∧ inb (nI 2) (hL h x7)) <|
    gd (hT h x7 = 101 ∧ inb (nI 1) (hL h x7)) <|
    if (hI h x7 (ix (nI 2))) < ((nI 3) * (hI h x7 (ix (nI 1)))) then
      gd (hT h a4 = 109 ∧ inb a5 (hL h a4) ∧ hT h x7 = 101) <|
      lq (wR h a4 (ix a5) x7) fun h12 =>
      lq (a5 + (nI 1)) fun x13 =>
      f_Sim_pass_b657 k486 k617 h12 a0 a1 a2 a4 x13 a6 a7 a8
    else
      f_Sim_pass_b657 k486 k617 h a0 a1 a2 a4 a5 a6 a7 a8
def f_Sim_pass_l617 (k486 : AH → Nat → Int32 → Int32 → Option AH) : Nat → AH → Nat → Int32 → Int32 → Nat → Int32 → Nat → Int32 → Int32 → Option AH
  | 0, _, _, _, _, _, _, _, _, _ => none
  | n + 1, h, a0, a1, a2, a4, a5, a6, a7, a8 => f_Sim_pass_b617 k486 (f_Sim_pass_l617 k486 n) h a0 a1 a2 a4 a5 a6 a7 a8
def f_Sim_pass_b586 (k486 : AH → Nat → Int32 → Int32 → Option AH) (k513 : AH → Nat → Int32 → Int32 → Int32 → Nat → Int32 → Int32 → Option AH) (h : AH) (a0 : Nat) (a1 : Int32) (a2 : Int32) (a3 : Int32) (a4 : Nat) (a5 : Int32) (a6 : Int32)  : Option AH :=
  lq (a6 + (nI 1)) fun x1 =>
  k513 h a0 a1 a2 a3 a4 a5 x1
def f_Sim_pass_b550 (k486 : AH → Nat → Int32 → Int32 → Option AH) (k513 : AH → Nat → Int32 → Int32 → Int32 → Nat → Int32 → Int32 → Option AH) (h : AH) (a0 : Nat) (a1 : Int32) (a2 : Int32) (a3 : Int32) (a4 : Nat) (a5 : Int32) (a6 : Int32) (a7 : Nat)  : Option AH :=
  gd (hT h a7 = 101 ∧ inb (nI 2) (hL h a7)) <|
  gd (hT h a7 = 101 ∧ inb (nI 1) (hL h a7)) <|
  if (hI h a7 (ix (nI 2))) < ((nI 3) * (hI h a7 (ix (nI 1)))) then
    lq (a3 + (nI 1)) fun x4 =>
    f_Sim_pass_b586 k486 k513 h a0 a1 a2 x4 a4 a5 a6
  else
    gd (hT h a0 = 13) <|
    bn (f_Sim_grade h a7) fun h6 r7 =>
    gd (hT h6 (hR h a0 9) = 101 ∧ inb r7 (hL h6 (hR h a0 9))) <|
    gd (hT h6 a7 = 101 ∧ inb (nI 0) (hL h6 a7)) <|
    lq (wI h6 (hR h a0 9) (ix r7) ((hI h6 (hR h a0 9) (ix r7)) + (hI h6 a7 (ix (nI 0))))) fun h10 =>
    f_Sim_pass_b586 k486 k513 h10 a0 a1 a2 a3 a4 a5 a6
def f_Sim_pass_b513 (k486 : AH → Nat → Int32 → Int32 → Option AH) (k513 : AH → Nat → Int32 → Int32 → Int32 → Nat → Int32 → Int32 → Option AH) (h : AH) (a0 : Nat) (a1 : Int32) (a2 : Int32) (a3 : Int32) (a4 : Nat) (a5 : Int32) (a6 : Int32)  : Option AH :=
  if a5 ≤ a6 then
    gd (¬ a3 < 0 ∧ ix a3 ≤ 65536) <|
    lq (hA h 109 (ix a3)) fun h3 =>
    lq (hN h) fun x4 =>
    gd (hT h3 a0 = 13) <|
    gd (hT h3 (hR h3 a0 14) = 110 ∧ inb a2 (hL h3 (hR h3 a0 14))) <|
    lq (hR h3 (hR h3 a0 14) (ix a2)) fun x7 =>
    gd (hT h3 x7 = 109) <|
    lq (nI (hL h3 x7)) fun x9 =>
    f_Sim_pass_l617 k486 FU h3 a0 a1 a2 x4 (nI 0) x7 x9 (nI 0)
  else
    gd (hT h a4 = 109 ∧ inb a6 (hL h a4)) <|
    lq (hR h a4 (ix a6)) fun x11 =>
    if ¬ a1 = 0 then
      gd (hT h x11 = 101 ∧ inb (nI 2) (hL h x11)) <|
      lq (wI h x11 (ix (nI 2)) ((hI h x11 (ix (nI 2))) + a1)) fun h14 =>
      f_Sim_pass_b550 k486 k513 h14 a0 a1 a2 a3 a4 a5 a6 x11
    else
      gd (hT h x11 = 101 ∧ inb (nI 3) (hL h x11)) <|
      lq (wI h x11 (ix (nI 3)) ((hI h x11 (ix (nI 3))) + (nI 1))) fun h16 =>
      f_Sim_pass_b550 k486 k513 h16 a0 a1 a2 a3 a4 a5 a6 x11
def f_Sim_pass_l513 (k486 : AH → Nat → Int32 → Int32 → Option AH) : Nat → AH → Nat → Int32 → Int32 → Int32 → Nat → Int32 → Int32 → Option AH
  | 0, _, _, _, _, _, _, _, _ => none
  | n + 1, h, a0, a1, a2, a3, a4, a5, a6 => f_Sim_pass_b513 k486 (f_Sim_pass_l513 k486 n) h a0 a1 a2 a3 a4 a5 a6
def f_Sim_pass_b486 (k486 : AH → Nat → Int32 → Int32 → Option AH) (h : AH) (a0 : Nat) (a1 : Int32) (a2 : Int32)  : Option AH :=
  gd (hT h a0 = 13) <|
  gd (hT h (hR h a0 14) = 110) <|
  if (nI (hL h (hR h a0 14))) ≤ a2 then
    lq (hR h a0 16) fun x4 =>
    gd (hT h x4 = 109) <|
    lq (nI (hL h x4)) fun x6 =>
    f_Sim_pass_l688  FU h a0 x4 x6 (nI 0)
  else
    gd (hT h (hR h a0 14) = 110 ∧ inb a2 (hL h (hR h a0 14))) <|
    lq (hR h (hR h a0 14) (ix a2)) fun x8 =>
    gd (hT h x8 = 109) <|
    lq (nI (hL h x8)) fun x10 =>
    f_Sim_pass_l513 k486 FU h a0 a1 a2 (nI 0) x8 x10 (nI 0)
def f_Sim_pass_l486 : Nat → AH → Nat → Int32 → Int32 → Option AH
  | 0, _, _, _, _ => none
  | n + 1, h, a0, a1, a2 => f_Sim_pass_b486 (f_Sim_pass_l486  n) h a0 a1 a2
def f_Sim_pass_b465 (k235 : AH → Nat → Nat → Int32 → Int32 → Option AH) (h : AH) (a0 : Nat) (a1 : Nat) (a2 : Int32) (a3 : Int32)  : Option AH :=
  lq (a3 + (nI 1)) fun x1 =>
  k235 h a0 a1 a2 x1
def f_Sim_pass_b366 (k235 : AH → Nat → Nat → Int32 → Int32 → Option AH) (k366 : AH → Nat → Nat → Int32 → Int32 → Nat → Int32 → Nat → Nat → Int32 → Option AH) (h : AH) (a0 : Nat) (a1 : Nat) (a2 : Int32) (a3 : Int32) (a4 : Nat) (a5 : Int32) (a6 : Nat) (a7 : Nat) (a8 : Int32)  : Option AH :=
  gd (hT h a6 = 109) <|
  if (nI (hL h a6)) ≤ a8 then
    lq (hA h 101 (ix (nI 4))) fun h3 =>
    gd (hT h3 (hN h) = 101 ∧ inb (nI 0) (hL h3 (hN h))) <|
    lq (wI h3 (hN h) (ix (nI 0)) a5) fun h5 =>
    gd (hT h5 a0 = 13) <|
    gd (hT h5 a4 = 101 ∧ inb (nI 0) (hL h5 a4)) <|
    gd (hT h5 (hR h5 a0 12) = 109 ∧ inb (hI h5 a4 (ix (nI 0))) (hL h5 (hR h5 a0 12))) <|
    gd (hT h5 (hR h5 (hR h5 a0 12) (ix (hI h5 a4 (ix (nI 0))))) = 101 ∧ inb (nI 2) (hL h5 (hR h5 (hR h5 a0 12) (ix (hI h5 a4 (ix (nI 0))))))) <|
    gd (hT h5 (hN h) = 101 ∧ inb (nI 1) (hL h5 (hN h))) <|
    lq (wI h5 (hN h) (ix (nI 1)) (hI h5 (hR h5 (hR h5 a0 12) (ix (hI h5 a4 (ix (nI 0))))) (ix (nI 2)))) fun h11 =>
    gd (hT h11 (hN h) = 101 ∧ inb (nI 2) (hL h11 (hN h))) <|
    lq (wI h11 (hN h) (ix (nI 2)) (nI 0)) fun h13 =>
    gd (hT h13 (hN h) = 101 ∧ inb (nI 3) (hL h13 (hN h))) <|
    lq (wI h13 (hN h) (ix (nI 3)) (nI 0)) fun h15 =>
    gd (hT h15 a7 = 109 ∧ inb (nI (hL h a6)) (hL h15 a7) ∧ hT h15 (hN h) = 101) <|
    lq (wR h15 a7 (ix (nI (hL h a6))) (hN h)) fun h17 =>
    gd (hT h17 a0 = 13) <|
    gd (hT h17 a4 = 101 ∧ inb (nI 1) (hL h17 a4)) <|
    gd (hT h17 (hR h17 a0 14) = 110 ∧ inb (hI h17 a4 (ix (nI 1))) (hL h17 (hR h17 a0 14)) ∧ hT h17 a7 = 109) <|
    lq (wR h17 (hR h17 a0 14) (ix (hI h17 a4 (ix (nI 1)))) a7) fun h21 =>
    gd (hT h21 a4 = 101 ∧ inb (nI 3) (hL h21 a4)) <|
    lq (wI h21 a4 (ix (nI 3)) ((hI h21 a4 (ix (nI 3))) - (nI 1))) fun h23 =>
    gd (hT h23 a4 = 101 ∧ inb (nI 4) (hL h23 a4)) <|
    lq (wI h23 a4 (ix (nI 4)) ((hI h23 a4 (ix (nI 4))) + a5)) fun h25 =>
    gd (hT h25 a0 = 13) <|
    lq (wI h25 a0 2 ((hI h25 a0 2) + a5)) fun h27 =>
    f_Sim_pass_b465 k235 h27 a0 a1 a2 a3
  else
    gd (hT h a6 = 109 ∧ inb a8 (hL h a6)) <|
    gd (hT h a7 = 109 ∧ inb a8 (hL h a7) ∧ hT h (hR h a6 (ix a8)) = 101) <|
    lq (wR h a7 (ix a8) (hR h a6 (ix a8))) fun h30 =>
    lq (a8 + (nI 1)) fun x31 =>
    k366 h30 a0 a1 a2 a3 a4 a5 a6 a7 x31
def f_Sim_pass_l366 (k235 : AH → Nat → Nat → Int32 → Int32 → Option AH) : Nat → AH → Nat → Nat → Int32 → Int32 → Nat → Int32 → Nat → Nat → Int32 → Option AH
  | 0, _, _, _, _, _, _, _, _, _, _ => none
  | n + 1, h, a0, a1, a2, a3, a4, a5, a6, a7, a8 => f_Sim_pass_b366 k235 (f_Sim_pass_l366 k235 n) h a0 a1 a2 a3 a4 a5 a6 a7 a8
def f_Sim_pass_b278 (k235 : AH → Nat → Nat → Int32 → Int32 → Option AH) (h : AH) (a0 : Nat) (a1 : Nat) (a2 : Int32) (a3 : Int32) (a4 : Nat) (s0 : Int32) : Option AH :=
  gd (hT h a0 = 13) <|
  gd (hT h a4 = 101 ∧ inb (nI 0) (hL h a4)) <|
  gd (hT h (hR h a0 12) = 109 ∧ inb (hI h a4 (ix (nI 0))) (hL h (hR h a0 12))) <|
  gd (hT h (hR h (hR h a0 12) (ix (hI h a4 (ix (nI 0))))) = 101 ∧ inb (nI 0) (hL h (hR h (hR h a0 12) (ix (hI h a4 (ix (nI 0))))))) <|
  gd (hT h a4 = 101 ∧ inb (nI 1) (hL h a4)) <|
  bn (f_Sim_room h a0 (hI h a4 (ix (nI 1)))) fun h6 r7 =>
  bn (f_Math_min h6 (hI h (hR h (hR h a0 12) (ix (hI h a4 (ix (nI 0))))) (ix (nI 0))) r7) fun h8 r9 =>
  bn (f_Math_min h8 s0 r9) fun h10 r11 =>
  gd (hT h10 a4 = 101 ∧ inb (nI 6) (hL h10 a4)) <|
  if (hI h10 a4 (ix (nI 6))) = (nI 1) then
    f_Sim_pass_b465 k235 h10 a0 a1 a2 a3
  else
    if ¬ r11 = 0 then
      gd (hT h10 a0 = 13) <|
      gd (hT h10 a4 = 101 ∧ inb (nI 0) (hL h10 a4)) <|
      gd (hT h10 (hR h10 a0 12) = 109 ∧ inb (hI h10 a4 (ix (nI 0))) (hL h10 (hR h10 a0 12))) <|
      gd (hT h10 (hR h10 (hR h10 a0 12) (ix (hI h10 a4 (ix (nI 0))))) = 101 ∧ inb (nI 0) (hL h10 (hR h10 (hR h10 a0 12) (ix (hI h10 a4 (ix (nI 0))))))) <|
      lq (wI h10 (hR h10 (hR h10 a0 12) (ix (hI h10 a4 (ix (nI 0))))) (ix (nI 0)) ((hI h10 (hR h10 (hR h10 a0 12) (ix (hI h10 a4 (ix (nI 0))))) (ix (nI 0))) - r11)) fun h19 =>
      gd (hT h19 a0 = 13) <|
      gd (hT h19 a4 = 101 ∧ inb (nI 1) (hL h19 a4)) <|
      gd (hT h19 (hR h19 a0 14) = 110 ∧ inb (hI h19 a4 (ix (nI 1))) (hL h19 (hR h19 a0 14))) <|
      lq (hR h19 (hR h19 a0 14) (ix (hI h19 a4 (ix (nI 1))))) fun x23 =>
      gd (hT h19 x23 = 109) <|
      gd (¬ ((nI (hL h19 x23)) + (nI 1)) < 0 ∧ ix ((nI (hL h19 x23)) + (nI 1)) ≤ 65536) <|
      lq (hA h19 109 (ix ((nI (hL h19 x23)) + (nI 1)))) fun h26 =>
      lq (hN h19) fun x27 =>
      f_Sim_pass_l366 k235 FU h26 a0 a1 a2 a3 a4 r11 x23 x27 (nI 0)
    else
      f_Sim_pass_b465 k235 h10 a0 a1 a2 a3
def f_Sim_pass_b235 (k235 : AH → Nat → Nat → Int32 → Int32 → Option AH) (h : AH) (a0 : Nat) (a1 : Nat) (a2 : Int32) (a3 : Int32)  : Option AH :=
  if a2 ≤ a3 then
    gd (hT h a0 = 13) <|
    gd (hT h (hR h a0 7) = 101 ∧ inb ((hI h a0 0) - (hI h a0 0) / (nI 12) * (nI 12)) (hL h (hR h a0 7))) <|
    lq (hI h (hR h a0 7) (ix ((hI h a0 0) - (hI h a0 0) / (nI 12) * (nI 12)))) fun x4 =>
    f_Sim_pass_l486  FU h a0 x4 (nI 0)
  else
    gd (hT h a1 = 109 ∧ inb a3 (hL h a1)) <|
    lq (hR h a1 (ix a3)) fun x6 =>
    gd (hT h x6 = 101 ∧ inb (nI 3) (hL h x6)) <|
    if (hI h x6 (ix (nI 3))) < (nI 10) then
      if ¬ (hI h x6 (ix (nI 3))) = 0 then
        gd (hT h x6 = 101 ∧ inb (nI 2) (hL h x6)) <|
        f_Sim_pass_b278 k235 h a0 a1 a2 a3 x6 ((hI h x6 (ix (nI 2))) / (nI 2))
      else
        f_Sim_pass_b278 k235 h a0 a1 a2 a3 x6 (nI 0)
    else
      gd (hT h x6 = 101 ∧ inb (nI 2) (hL h x6)) <|
      f_Sim_pass_b278 k235 h a0 a1 a2 a3 x6 (hI h x6 (ix (nI 2)))
def f_Sim_pass_l235 : Nat → AH → Nat → Nat → Int32 → Int32 → Option AH
  | 0, _, _, _, _, _ => none
  | n + 1, h, a0, a1, a2, a3 => f_Sim_pass_b235 (f_Sim_pass_l235  n) h a0 a1 a2 a3
def f_Sim_pass_b225 (h : AH) (a0 : Nat)  : Option AH :=
  gd (hT h a0 = 13) <|
  lq (hR h a0 15) fun x2 =>
  gd (hT h x2 = 109) <|
  lq (nI (hL h x2)) fun x4 =>
  f_Sim_pass_l235  FU h a0 x2 x4 (nI 0)
def f_Sim_pass_b218 (k177 : AH → Nat → Nat → Int32 → Int32 → Option AH) (h : AH) (a0 : Nat) (a1 : Nat) (a2 : Int32) (a3 : Int32) (s0 : Nat) (s1 : Int32) (s2 : Int32) : Option AH :=
  gd (hT h s0 = 101 ∧ inb s1 (hL h s0)) <|
  lq (wI h s0 (ix s1) s2) fun h2 =>
  lq (a3 + (nI 1)) fun x3 =>
  k177 h2 a0 a1 a2 x3
def f_Sim_pass_b177 (k177 : AH → Nat → Nat → Int32 → Int32 → Option AH) (h : AH) (a0 : Nat) (a1 : Nat) (a2 : Int32) (a3 : Int32)  : Option AH :=
  if a2 ≤ a3 then
    f_Sim_pass_b225  h a0
  else
    gd (hT h a1 = 109 ∧ inb a3 (hL h a1)) <|
    lq (hR h a1 (ix a3)) fun x3 =>
    gd (hT h x3 = 101 ∧ inb (nI 0) (hL h x3)) <|
    gd (hT h x3 = 101 ∧ inb (nI 1) (hL h x3)) <|
    if ((hI h x3 (ix (nI 0))) + (hI h x3 (ix (nI 1)))) ≤ (nI 99) then
      f_Sim_pass_b218 k177 h a0 a1 a2 a3 x3 (nI 0) ((hI h x3 (ix (nI 0))) + (hI h x3 (ix (nI 1))))
    else
      f_Sim_pass_b218 k177 h a0 a1 a2 a3 x3 (nI 0) (nI 99)
def f_Sim_pass_l177 : Nat → AH → Nat → Nat → Int32 → Int32 → Option AH
  | 0, _, _, _, _, _ => none
  | n + 1, h, a0, a1, a2, a3 => f_Sim_pass_b177 (f_Sim_pass_l177  n) h a0 a1 a2 a3
def f_Sim_pass_b151 (k42 : AH → Nat → Nat → Int32 → Int32 → Option AH) (h : AH) (a0 : Nat) (a1 : Nat) (a2 : Int32) (a3 : Int32)  : Option AH :=
  lq (a3 + (nI 1)) fun x1 =>
  k42 h a0 a1 a2 x1
def f_Sim_pass_b141 (k42 : AH → Nat → Nat → Int32 → Int32 → Option AH) (h : AH) (a0 : Nat) (a1 : Nat) (a2 : Int32) (a3 : Int32)  : Option AH :=
  gd (hT h a0 = 13) <|
  lq (wI h a0 4 ((hI h a0 4) + (nI 1))) fun h2 =>
  f_Sim_pass_b151 k42 h2 a0 a1 a2 a3
def f_Sim_pass_b42 (k42 : AH → Nat → Nat → Int32 → Int32 → Option AH) (h : AH) (a0 : Nat) (a1 : Nat) (a2 : Int32) (a3 : Int32)  : Option AH :=
  if a2 ≤ a3 then
    gd (hT h a0 = 13) <|
    if ¬ ((hI h a0 0) - (hI h a0 0) / (nI 12) * (nI 12)) = 0 then
      f_Sim_pass_b225  h a0
    else
      lq (hR h a0 12) fun x4 =>
      gd (hT h x4 = 109) <|
      lq (nI (hL h x4)) fun x6 =>
      f_Sim_pass_l177  FU h a0 x4 x6 (nI 0)
  else
    gd (hT h a1 = 109 ∧ inb a3 (hL h a1)) <|
    lq (hR h a1 (ix a3)) fun x8 =>
    gd (hT h a0 = 13) <|
    bn (f_Sim_holds h a0 x8) fun h10 r11 =>
    if ¬ r11 = 0 then
      gd (hT h10 x8 = 101 ∧ inb (nI 0) (hL h10 x8)) <|
      if ¬ (hI h10 x8 (ix (nI 0))) = 0 then
        if ¬ (hI h10 x8 (ix (nI 0))) = (nI 1) then
          gd (hT h10 a0 = 13) <|
          gd (hT h10 x8 = 101 ∧ inb (nI 1) (hL h10 x8)) <|
          gd (hT h10 (hR h10 a0 15) = 109 ∧ inb (hI h10 x8 (ix (nI 1))) (hL h10 (hR h10 a0 15))) <|
          gd (hT h10 (hR h10 (hR h10 a0 15) (ix (hI h10 x8 (ix (nI 1))))) = 101 ∧ inb (nI 6) (hL h10 (hR h10 (hR h10 a0 15) (ix (hI h10 x8 (ix (nI 1))))))) <|
          lq (wI h10 (hR h10 (hR h10 a0 15) (ix (hI h10 x8 (ix (nI 1))))) (ix (nI 6)) (nI 1)) fun h20 =>
          f_Sim_pass_b141 k42 h20 a0 a1 a2 a3
        else
          gd (hT h10 x8 = 101 ∧ inb (nI 1) (hL h10 x8)) <|
          gd (hT h10 x8 = 101 ∧ inb (nI 2) (hL h10 x8)) <|
          gd (hT h10 a0 = 13) <|
          bn (f_Sim_sum h10 a0 x8) fun h24 r25 =>
          gd (hT h24 a0 = 13) <|
          bn (f_Sim_load h24 a0 (hI h10 x8 (ix (nI 1))) (hI h10 x8 (ix (nI 2))) r25) fun h27 r28 =>
          if ¬ r28 = 0 then
            f_Sim_pass_b141 k42 h27 a0 a1 a2 a3
          else
            f_Sim_pass_b151 k42 h27 a0 a1 a2 a3
      else
        gd (hT h10 x8 = 101 ∧ inb (nI 1) (hL h10 x8)) <|
        gd (hT h10 a0 = 13) <|
        bn (f_Sim_canWhet h10 a0 (hI h10 x8 (ix (nI 1)))) fun h32 r33 =>
        if ¬ r33 = 0 then
          gd (hT h32 x8 = 101 ∧ inb (nI 1) (hL h32 x8)) <|
          gd (hT h32 a0 = 13) <|
          bv (f_Sim_whet h32 a0 (hI h32 x8 (ix (nI 1)))) fun h37 =>
          f_Sim_pass_b141 k42 h37 a0 a1 a2 a3
        else
          f_Sim_pass_b151 k42 h32 a0 a1 a2 a3
    else
      f_Sim_pass_b151 k42 h10 a0 a1 a2 a3
def f_Sim_pass_l42 : Nat → AH → Nat → Nat → Int32 → Int32 → Option AH
  | 0, _, _, _, _, _ => none
  | n + 1, h, a0, a1, a2, a3 => f_Sim_pass_b42 (f_Sim_pass_l42  n) h a0 a1 a2 a3
def f_Sim_pass_b10 (k10 : AH → Nat → Nat → Int32 → Int32 → Option AH) (h : AH) (a0 : Nat) (a1 : Nat) (a2 : Int32) (a3 : Int32)  : Option AH :=
  if a2 ≤ a3 then
    gd (hT h a0 = 13) <|
    lq (hR h a0 17) fun x3 =>
    gd (hT h x3 = 109) <|
    lq (nI (hL h x3)) fun x5 =>
    f_Sim_pass_l42  FU h a0 x3 x5 (nI 0)
  else
    gd (hT h a1 = 109 ∧ inb a3 (hL h a1)) <|
    lq (hR h a1 (ix a3)) fun x7 =>
    gd (hT h x7 = 101 ∧ inb (nI 6) (hL h x7)) <|
    lq (wI h x7 (ix (nI 6)) (nI 0)) fun h9 =>
    lq (a3 + (nI 1)) fun x10 =>
    k10 h9 a0 a1 a2 x10
def f_Sim_pass_l10 : Nat → AH → Nat → Nat → Int32 → Int32 → Option AH
  | 0, _, _, _, _, _ => none
  | n + 1, h, a0, a1, a2, a3 => f_Sim_pass_b10 (f_Sim_pass_l10  n) h a0 a1 a2 a3
def f_Sim_pass (h : AH) (a0 : Nat) : Option AH :=
  gd (hT h a0 = 13) <|
  lq (hR h a0 15) fun x2 =>
  gd (hT h x2 = 109) <|
  lq (nI (hL h x2)) fun x4 =>
  f_Sim_pass_l10  FU h a0 x2 x4 (nI 0)
def f_Sim_behind_b2 (k2 : AH → Nat → Int32 → Int32 → Option (AH × Nat)) (h : AH) (a0 : Nat) (a1 : Int32) (a2 : Int32)  : Option (AH × Nat) :=
  if a1 ≤ a2 then
    some (h, a0)
  else
    gd (hT h a0 = 13) <|
    bv (f_Sim_pass h a0) fun h3 =>
    lq (a2 + (nI 1)) fun x4 =>
    k2 h3 a0 a1 x4
def f_Sim_behind_l2 : Nat → AH → Nat → Int32 → Int32 → Option (AH × Nat)
  | 0, _, _, _, _ => none
  | n + 1, h, a0, a1, a2 => f_Sim_behind_b2 (f_Sim_behind_l2  n) h a0 a1 a2
def f_Sim_behind (h : AH) (a0 : Nat) (a1 : Int32) : Option (AH × Nat) :=
  f_Sim_behind_l2  FU h a0 a1 (nI 0)
def f_Orders_pop (h : AH) (a0 : Nat) : Option (AH × Int32) :=
  gd (hT h a0 = 2) <|
  if (hI h a0 4) < (nI 1) then
    some (h, (nI 0))
  else
    gd (hT h (hR h a0 3) = 101) <|
    if (hI h a0 4) ≤ (nI (hL h (hR h a0 3))) then
      lq (wI h a0 4 ((hI h a0 4) - (nI 1))) fun h5 =>
      gd (hT h5 a0 = 2) <|
      gd (hT h5 (hR h5 a0 3) = 101 ∧ inb (hI h5 a0 4) (hL h5 (hR h5 a0 3))) <|
      some (h5, (hI h5 (hR h5 a0 3) (ix (hI h5 a0 4))))
    else
      some (h, (nI 0))
def f_Orders_whetByOrder_b12 (h : AH) (a1 : Int32) (a2 : Nat) (s0 : Int32) : Option AH :=
  if s0 = 0 then
    some h
  else
    gd (hT h a2 = 3) <|
    bn (f_River_hasPeeler h a2 a1) fun h3 r4 =>
    if r4 = 0 then
      some h3
    else
      gd (hT h3 a2 = 3) <|
      bn (f_River_whetsKnife h3 a2 a1) fun h7 r8 =>
      if r8 = 0 then
        some h7
      else
        gd (hT h7 a2 = 3) <|
        lq (wI h7 a2 17 ((hI h7 a2 17) + (nI 1))) fun h11 =>
        some h11
def f_Orders_whetByOrder (h : AH) (a0 : Nat) (a1 : Int32) (a2 : Nat) : Option AH :=
  gd (hT h a0 = 2) <|
  bn (f_Orders_pop h a0) fun h2 r3 =>
  if r3 = 0 then
    f_Orders_whetByOrder_b12  h2 a1 a2 (nI 0)
  else
    f_Orders_whetByOrder_b12  h2 a1 a2 (nI 1)
def f_Orders_loadByOrder_b12 (h : AH) (a0 : Nat) (a1 : Int32) (a2 : Nat) (s0 : Int32) : Option AH :=
  gd (hT h a0 = 2) <|
  bn (f_Orders_pop h a0) fun h2 r3 =>
  gd (hT h2 a0 = 2) <|
  bn (f_Orders_pop h2 a0) fun h5 r6 =>
  if s0 = 0 then
    some h5
  else
    gd (hT h5 a2 = 3) <|
    bn (f_River_hasBoat h5 a2 a1) fun h9 r10 =>
    if r10 = 0 then
      some h9
    else
      gd (hT h9 a2 = 3) <|
      bn (f_River_hasGrade h9 a2 r3) fun h13 r14 =>
      if r14 = 0 then
        some h13
      else
        gd (hT h13 a2 = 3) <|
        bn (f_River_loadBoat h13 a2 a1 r3 r6) fun h17 r18 =>
        if r18 ≤ 0 then
          some h17
        else
          gd (hT h17 a2 = 3) <|
          lq (wI h17 a2 17 ((hI h17 a2 17) + (nI 1))) fun h21 =>
          some h21
def f_Orders_loadByOrder (h : AH) (a0 : Nat) (a1 : Int32) (a2 : Nat) : Option AH :=
  gd (hT h a0 = 2) <|
  bn (f_Orders_pop h a0) fun h2 r3 =>
  if r3 = 0 then
    f_Orders_loadByOrder_b12  h2 a0 a1 a2 (nI 0)
  else
    f_Orders_loadByOrder_b12  h2 a0 a1 a2 (nI 1)
def f_Orders_restByOrder_b12 (h : AH) (a1 : Int32) (a2 : Nat) (s0 : Int32) : Option AH :=
  if s0 = 0 then
    some h
  else
    gd (hT h a2 = 3) <|
    bn (f_River_hasPeeler h a2 a1) fun h3 r4 =>
    if r4 = 0 then
      some h3
    else
      gd (hT h3 a2 = 3) <|
      gd (hT h3 (hR h3 a2 2) = 106 ∧ inb a1 (hL h3 (hR h3 a2 2))) <|
      gd (hT h3 (hR h3 (hR h3 a2 2) (ix a1)) = 6 ∧ ((nI 1) = 0 ∨ (nI 1) = 1)) <|
      lq (wI h3 (hR h3 (hR h3 a2 2) (ix a1)) 6 (nI 1)) fun h9 =>
      gd (hT h9 a2 = 3) <|
      lq (wI h9 a2 17 ((hI h9 a2 17) + (nI 1))) fun h11 =>
      some h11
def f_Orders_restByOrder (h : AH) (a0 : Nat) (a1 : Int32) (a2 : Nat) : Option AH :=
  gd (hT h a0 = 2) <|
  bn (f_Orders_pop h a0) fun h2 r3 =>
  if r3 = 0 then
    f_Orders_restByOrder_b12  h2 a1 a2 (nI 0)
  else
    f_Orders_restByOrder_b12  h2 a1 a2 (nI 1)
def f_Orders_push (h : AH) (a0 : Nat) (a1 : Int32) : Option AH :=
  gd (hT h a0 = 2) <|
  if (hI h a0 4) < 0 then
    some h
  else
    gd (hT h (hR h a0 3) = 101) <|
    if (nI (hL h (hR h a0 3))) ≤ (hI h a0 4) then
      some h
    else
      gd (hT h (hR h a0 3) = 101 ∧ inb (hI h a0 4) (hL h (hR h a0 3))) <|
      lq (wI h (hR h a0 3) (ix (hI h a0 4)) a1) fun h6 =>
      gd (hT h6 a0 = 2) <|
      lq (wI h6 a0 4 ((hI h6 a0 4) + (nI 1))) fun h8 =>
      some h8
def f_Orders_joinsTwo_b24 (h : AH)   : Option (AH × Int32) :=
  some (h, (nI 1))
def f_Orders_joinsTwo_b12 (h : AH) (a0 : Int32)  : Option (AH × Int32) :=
  if a0 < (nI 36) then
    some (h, (nI 0))
  else
    if (nI 39) < a0 then
      some (h, (nI 0))
    else
      f_Orders_joinsTwo_b24  h 
def f_Orders_joinsTwo (h : AH) (a0 : Int32) : Option (AH × Int32) :=
  if a0 < (nI 46) then
    f_Orders_joinsTwo_b12  h a0
  else
    if a0 ≤ (nI 54) then
      f_Orders_joinsTwo_b24  h 
    else
      f_Orders_joinsTwo_b12  h a0
def f_Orders_holds_b169 (h : AH)   : Option (AH × Int32) :=
  some (h, (nI 1))
def f_Orders_holds (h : AH) (a0 : Int32) (a1 : Int32) (a2 : Int32) : Option (AH × Int32) :=
  if a0 = nI 36 then
    if a1 = 0 then
      some (h, (nI 0))
    else
      if a2 = 0 then
        some (h, (nI 0))
      else
        some (h, (nI 1))
  else
  if a0 = nI 37 then
    if ¬ a1 = 0 then
      f_Orders_holds_b169  h 
    else
      if a2 = 0 then
        some (h, (nI 0))
      else
        f_Orders_holds_b169  h 
  else
  if a0 = nI 38 then
    some (h, (nI 0))
  else
  if a0 = nI 39 then
    some (h, (nI 0))
  else
  if a0 = nI 40 then
    some (h, (nI 0))
  else
  if a0 = nI 41 then
    some (h, (nI 0))
  else
  if a0 = nI 42 then
    some (h, (nI 0))
  else
  if a0 = nI 43 then
    some (h, (nI 0))
  else
  if a0 = nI 44 then
    some (h, (nI 0))
  else
  if a0 = nI 45 then
    some (h, (nI 0))
  else
  if a0 = nI 46 then
    some (h, (nI 0))
  else
  if a0 = nI 47 then
    some (h, (nI 0))
  else
  if a0 = nI 48 then
    some (h, (nI 0))
  else
  if a0 = nI 49 then
    some (h, (nI 0))
  else
  if a0 = nI 50 then
    if a2 ≤ a1 then
      some (h, (nI 0))
    else
      some (h, (nI 1))
  else
  if a0 = nI 51 then
    if a1 ≤ a2 then
      some (h, (nI 0))
    else
      some (h, (nI 1))
  else
  if a0 = nI 52 then
    if ¬ a1 = a2 then
      some (h, (nI 0))
    else
      some (h, (nI 1))
  else
  if a0 = nI 53 then
    if a2 < a1 then
      some (h, (nI 0))
    else
      some (h, (nI 1))
  else
  if a0 = nI 54 then
    if a1 < a2 then
      some (h, (nI 0))
    else
      some (h, (nI 1))
  else
  some (h, (nI 0))
def f_Orders_join (h : AH) (a0 : Int32) (a1 : Int32) (a2 : Int32) : Option (AH × Int32) :=
  if a0 = nI 38 then
    bn (f_Math_min h a1 a2) fun h2 r3 =>
    some (h2, r3)
  else
  if a0 = nI 39 then
    bn (f_Math_max h a1 a2) fun h5 r6 =>
    some (h5, r6)
  else
  if a0 = nI 40 then
    bn (f_Orders_holds h a0 a1 a2) fun h8 r9 =>
    if r9 = 0 then
      some (h8, (nI 0))
    else
      some (h8, (nI 1))
  else
  if a0 = nI 41 then
    bn (f_Orders_holds h a0 a1 a2) fun h12 r13 =>
    if r13 = 0 then
      some (h12, (nI 0))
    else
      some (h12, (nI 1))
  else
  if a0 = nI 42 then
    bn (f_Orders_holds h a0 a1 a2) fun h16 r17 =>
    if r17 = 0 then
      some (h16, (nI 0))
    else
      some (h16, (nI 1))
  else
  if a0 = nI 43 then
    bn (f_Orders_holds h a0 a1 a2) fun h20 r21 =>
    if r21 = 0 then
      some (h20, (nI 0))
    else
      some (h20, (nI 1))
  else
  if a0 = nI 44 then
    bn (f_Orders_holds h a0 a1 a2) fun h24 r25 =>
    if r25 = 0 then
      some (h24, (nI 0))
    else
      some (h24, (nI 1))
  else
  if a0 = nI 45 then
    bn (f_Orders_holds h a0 a1 a2) fun h28 r29 =>
    if r29 = 0 then
      some (h28, (nI 0))
    else
      some (h28, (nI 1))
  else
  if a0 = nI 46 then
    some (h, (a1 + a2))
  else
  if a0 = nI 47 then
    some (h, (a1 - a2))
  else
  if a0 = nI 48 then
    some (h, (a1 * a2))
  else
  if a0 = nI 49 then
    if ¬ a2 = 0 then
      gd (¬ a2 = 0) <|
      some (h, (a1 / a2))
    else
      some (h, (nI 0))
  else
  bn (f_Orders_holds h a0 a1 a2) fun h37 r38 =>
  if r38 = 0 then
    some (h37, (nI 0))
  else
    some (h37, (nI 1))
def f_Math_floorMod (h : AH) (a0 : Int32) (a1 : Int32) : Option (AH × Int32) :=
  gd (¬ a1 = 0) <|
  lq (a0 - a0 / a1 * a1) fun x2 =>
  if 0 ≤ (a0 ^^^ a1) then
    some (h, x2)
  else
    if x2 = 0 then
      some (h, x2)
    else
      some (h, (x2 + a1))
def f_River_hourOfDay (h : AH) (a0 : Nat) : Option (AH × Int32) :=
  gd (hT h a0 = 3) <|
  bn (f_Math_floorMod h (hI h a0 11) (nI 12)) fun h2 r3 =>
  some (h2, r3)
def f_River_peelersOfGarden_b37 (k4 : AH → Nat → Int32 → Int32 → Int32 → Option (AH × Int32)) (h : AH) (a0 : Nat) (a1 : Int32) (a3 : Int32) (s0 : Int32) (s1 : Int32) : Option (AH × Int32) :=
  lq (s0 + s1) fun x1 =>
  lq (a3 + (nI 1)) fun x2 =>
  k4 h a0 a1 x1 x2
def f_River_peelersOfGarden_b4 (k4 : AH → Nat → Int32 → Int32 → Int32 → Option (AH × Int32)) (h : AH) (a0 : Nat) (a1 : Int32) (a2 : Int32) (a3 : Int32)  : Option (AH × Int32) :=
  gd (hT h a0 = 3) <|
  if (hI h a0 8) ≤ a3 then
    some (h, a2)
  else
    if (nI 8) ≤ a3 then
      some (h, a2)
    else
      gd (hT h (hR h a0 2) = 106 ∧ inb a3 (hL h (hR h a0 2))) <|
      gd (hT h (hR h (hR h a0 2) (ix a3)) = 6) <|
      if ¬ (hI h (hR h (hR h a0 2) (ix a3)) 0) = a1 then
        f_River_peelersOfGarden_b37 k4 h a0 a1 a3 a2 (nI 0)
      else
        f_River_peelersOfGarden_b37 k4 h a0 a1 a3 a2 (nI 1)
def f_River_peelersOfGarden_l4 : Nat → AH → Nat → Int32 → Int32 → Int32 → Option (AH × Int32)
  | 0, _, _, _, _, _ => none
  | n + 1, h, a0, a1, a2, a3 => f_River_peelersOfGarden_b4 (f_River_peelersOfGarden_l4  n) h a0 a1 a2 a3
def f_River_peelersOfGarden (h : AH) (a0 : Nat) (a1 : Int32) : Option (AH × Int32) :=
  f_River_peelersOfGarden_l4  FU h a0 a1 (nI 0) (nI 0)
def f_River_ofGarden (h : AH) (a0 : Nat) (a1 : Int32) (a2 : Int32) : Option (AH × Int32) :=
  gd (hT h a0 = 3) <|
  bn (f_River_hasGarden h a0 a1) fun h2 r3 =>
  if ¬ r3 = 0 then
    if a2 = nI 0 then
      gd (hT h2 a0 = 3) <|
      gd (hT h2 (hR h2 a0 0) = 104 ∧ inb a1 (hL h2 (hR h2 a0 0))) <|
      gd (hT h2 (hR h2 (hR h2 a0 0) (ix a1)) = 4) <|
      some (h2, (hI h2 (hR h2 (hR h2 a0 0) (ix a1)) 0))
    else
    if a2 = nI 1 then
      gd (hT h2 a0 = 3) <|
      gd (hT h2 (hR h2 a0 0) = 104 ∧ inb a1 (hL h2 (hR h2 a0 0))) <|
      gd (hT h2 (hR h2 (hR h2 a0 0) (ix a1)) = 4) <|
      some (h2, (hI h2 (hR h2 (hR h2 a0 0) (ix a1)) 1))
    else
    if a2 = nI 2 then
      gd (hT h2 a0 = 3) <|
      gd (hT h2 (hR h2 a0 0) = 104 ∧ inb a1 (hL h2 (hR h2 a0 0))) <|
      gd (hT h2 (hR h2 (hR h2 a0 0) (ix a1)) = 4) <|
      some (h2, (hI h2 (hR h2 (hR h2 a0 0) (ix a1)) 2))
    else
    gd (hT h2 a0 = 3) <|
    bn (f_River_peelersOfGarden h2 a0 a1) fun h18 r19 =>
    some (h18, r19)
  else
    some (h2, (nI 0))
def f_Rack_free (h : AH) (a0 : Nat) : Option (AH × Int32) :=
  gd (hT h a0 = 5) <|
  some (h, ((hI h a0 0) - (hI h a0 1)))
def f_Rack_bundles (h : AH) (a0 : Nat) : Option (AH × Int32) :=
  gd (hT h a0 = 5) <|
  some (h, (hI h a0 2))
def f_River_peelersToRack_b37 (k4 : AH → Nat → Int32 → Int32 → Int32 → Option (AH × Int32)) (h : AH) (a0 : Nat) (a1 : Int32) (a3 : Int32) (s0 : Int32) (s1 : Int32) : Option (AH × Int32) :=
  lq (s0 + s1) fun x1 =>
  lq (a3 + (nI 1)) fun x2 =>
  k4 h a0 a1 x1 x2
def f_River_peelersToRack_b4 (k4 : AH → Nat → Int32 → Int32 → Int32 → Option (AH × Int32)) (h : AH) (a0 : Nat) (a1 : Int32) (a2 : Int32) (a3 : Int32)  : Option (AH × Int32) :=
  gd (hT h a0 = 3) <|
  if (hI h a0 8) ≤ a3 then
    some (h, a2)
  else
    if (nI 8) ≤ a3 then
      some (h, a2)
    else
      gd (hT h (hR h a0 2) = 106 ∧ inb a3 (hL h (hR h a0 2))) <|
      gd (hT h (hR h (hR h a0 2) (ix a3)) = 6) <|
      if ¬ (hI h (hR h (hR h a0 2) (ix a3)) 1) = a1 then
        f_River_peelersToRack_b37 k4 h a0 a1 a3 a2 (nI 0)
      else
        f_River_peelersToRack_b37 k4 h a0 a1 a3 a2 (nI 1)
def f_River_peelersToRack_l4 : Nat → AH → Nat → Int32 → Int32 → Int32 → Option (AH × Int32)
  | 0, _, _, _, _, _ => none
  | n + 1, h, a0, a1, a2, a3 => f_River_peelersToRack_b4 (f_River_peelersToRack_l4  n) h a0 a1 a2 a3
def f_River_peelersToRack (h : AH) (a0 : Nat) (a1 : Int32) : Option (AH × Int32) :=
  f_River_peelersToRack_l4  FU h a0 a1 (nI 0) (nI 0)
def f_River_ofRack (h : AH) (a0 : Nat) (a1 : Int32) (a2 : Int32) : Option (AH × Int32) :=
  gd (hT h a0 = 3) <|
  bn (f_River_hasRack h a0 a1) fun h2 r3 =>
  if ¬ r3 = 0 then
    if a2 = nI 0 then
      gd (hT h2 a0 = 3) <|
      gd (hT h2 (hR h2 a0 1) = 105 ∧ inb a1 (hL h2 (hR h2 a0 1))) <|
      gd (hT h2 (hR h2 (hR h2 a0 1) (ix a1)) = 5) <|
      some (h2, (hI h2 (hR h2 (hR h2 a0 1) (ix a1)) 0))
    else
    if a2 = nI 1 then
      gd (hT h2 a0 = 3) <|
      gd (hT h2 (hR h2 a0 1) = 105 ∧ inb a1 (hL h2 (hR h2 a0 1))) <|
      gd (hT h2 (hR h2 (hR h2 a0 1) (ix a1)) = 5) <|
      bn (f_Rack_free h2 (hR h2 (hR h2 a0 1) (ix a1))) fun h13 r14 =>
      some (h13, r14)
    else
    if a2 = nI 2 then
      gd (hT h2 a0 = 3) <|
      gd (hT h2 (hR h2 a0 1) = 105 ∧ inb a1 (hL h2 (hR h2 a0 1))) <|
      gd (hT h2 (hR h2 (hR h2 a0 1) (ix a1)) = 5) <|
      bn (f_Rack_bundles h2 (hR h2 (hR h2 a0 1) (ix a1))) fun h19 r20 =>
      some (h19, r20)
    else
    gd (hT h2 a0 = 3) <|
    bn (f_River_peelersToRack h2 a0 a1) fun h22 r23 =>
    some (h22, r23)
  else
    some (h2, (nI 0))
def f_River_ofPeeler (h : AH) (a0 : Nat) (a1 : Int32) (a2 : Int32) : Option (AH × Int32) :=
  gd (hT h a0 = 3) <|
  bn (f_River_hasPeeler h a0 a1) fun h2 r3 =>
  if ¬ r3 = 0 then
    if a2 = nI 0 then
      gd (hT h2 a0 = 3) <|
      gd (hT h2 (hR h2 a0 2) = 106 ∧ inb a1 (hL h2 (hR h2 a0 2))) <|
      gd (hT h2 (hR h2 (hR h2 a0 2) (ix a1)) = 6) <|
      some (h2, (hI h2 (hR h2 (hR h2 a0 2) (ix a1)) 0))
    else
    if a2 = nI 1 then
      gd (hT h2 a0 = 3) <|
      gd (hT h2 (hR h2 a0 2) = 106 ∧ inb a1 (hL h2 (hR h2 a0 2))) <|
      gd (hT h2 (hR h2 (hR h2 a0 2) (ix a1)) = 6) <|
      some (h2, (hI h2 (hR h2 (hR h2 a0 2) (ix a1)) 1))
    else
    if a2 = nI 2 then
      gd (hT h2 a0 = 3) <|
      gd (hT h2 (hR h2 a0 2) = 106 ∧ inb a1 (hL h2 (hR h2 a0 2))) <|
      gd (hT h2 (hR h2 (hR h2 a0 2) (ix a1)) = 6) <|
      some (h2, (hI h2 (hR h2 (hR h2 a0 2) (ix a1)) 2))
    else
    if a2 = nI 3 then
      gd (hT h2 a0 = 3) <|
      gd (hT h2 (hR h2 a0 2) = 106 ∧ inb a1 (hL h2 (hR h2 a0 2))) <|
      gd (hT h2 (hR h2 (hR h2 a0 2) (ix a1)) = 6) <|
      some (h2, (hI h2 (hR h2 (hR h2 a0 2) (ix a1)) 3))
    else
    if a2 = nI 4 then
      gd (hT h2 a0 = 3) <|
      gd (hT h2 (hR h2 a0 2) = 106 ∧ inb a1 (hL h2 (hR h2 a0 2))) <|
      gd (hT h2 (hR h2 (hR h2 a0 2) (ix a1)) = 6) <|
      some (h2, (hI h2 (hR h2 (hR h2 a0 2) (ix a1)) 4))
    else
    gd (hT h2 a0 = 3) <|
    gd (hT h2 (hR h2 a0 2) = 106 ∧ inb a1 (hL h2 (hR h2 a0 2))) <|
    gd (hT h2 (hR h2 (hR h2 a0 2) (ix a1)) = 6) <|
    some (h2, (hI h2 (hR h2 (hR h2 a0 2) (ix a1)) 5))
  else
    some (h2, (nI 0))
def f_River_ofBoat (h : AH) (a0 : Nat) (a1 : Int32) (a2 : Int32) : Option (AH × Int32) :=
  gd (hT h a0 = 3) <|
  bn (f_River_hasBoat h a0 a1) fun h2 r3 =>
  if ¬ r3 = 0 then
    if a2 = nI 0 then
      gd (hT h2 a0 = 3) <|
      gd (hT h2 (hR h2 a0 3) = 107 ∧ inb a1 (hL h2 (hR h2 a0 3))) <|
      gd (hT h2 (hR h2 (hR h2 a0 3) (ix a1)) = 7) <|
      some (h2, (hI h2 (hR h2 (hR h2 a0 3) (ix a1)) 0))
    else
    if a2 = nI 1 then
      gd (hT h2 a0 = 3) <|
      gd (hT h2 (hR h2 a0 3) = 107 ∧ inb a1 (hL h2 (hR h2 a0 3))) <|
      gd (hT h2 (hR h2 (hR h2 a0 3) (ix a1)) = 7) <|
      some (h2, (hI h2 (hR h2 (hR h2 a0 3) (ix a1)) 1))
    else
    if a2 = nI 2 then
      gd (hT h2 a0 = 3) <|
      gd (hT h2 (hR h2 a0 3) = 107 ∧ inb a1 (hL h2 (hR h2 a0 3))) <|
      gd (hT h2 (hR h2 (hR h2 a0 3) (ix a1)) = 7) <|
      some (h2, (hI h2 (hR h2 (hR h2 a0 3) (ix a1)) 2))
    else
    if a2 = nI 3 then
      gd (hT h2 a0 = 3) <|
      gd (hT h2 (hR h2 a0 3) = 107 ∧ inb a1 (hL h2 (hR h2 a0 3))) <|
      gd (hT h2 (hR h2 (hR h2 a0 3) (ix a1)) = 7) <|
      some (h2, (hI h2 (hR h2 (hR h2 a0 3) (ix a1)) 3))
    else
    if a2 = nI 4 then
      gd (hT h2 a0 = 3) <|
      gd (hT h2 (hR h2 a0 3) = 107 ∧ inb a1 (hL h2 (hR h2 a0 3))) <|
      gd (hT h2 (hR h2 (hR h2 a0 3) (ix a1)) = 7) <|
      some (h2, (hI h2 (hR h2 (hR h2 a0 3) (ix a1)) 4))
    else
    if a2 = nI 5 then
      gd (hT h2 a0 = 3) <|
      gd (hT h2 (hR h2 a0 3) = 107 ∧ inb a1 (hL h2 (hR h2 a0 3))) <|
      gd (hT h2 (hR h2 (hR h2 a0 3) (ix a1)) = 7) <|
      some (h2, (hI h2 (hR h2 (hR h2 a0 3) (ix a1)) 5))
    else
    gd (hT h2 a0 = 3) <|
    gd (hT h2 (hR h2 a0 3) = 107 ∧ inb a1 (hL h2 (hR h2 a0 3))) <|
    gd (hT h2 (hR h2 (hR h2 a0 3) (ix a1)) = 7) <|
    some (h2, (hI h2 (hR h2 (hR h2 a0 3) (ix a1)) 6))
  else
    some (h2, (nI 0))
def f_Grade_priceAt (h : AH) (a0 : Nat) (a1 : Int32) : Option (AH × Int32) :=
  gd (hT h a0 = 8) <|
  lq ((hI h a0 1) - (a1 / (nI 4))) fun x2 =>
  if x2 ≤ 0 then
    some (h, (nI 0))
  else
    some (h, x2)
def f_River_ofGrade (h : AH) (a0 : Nat) (a1 : Int32) (a2 : Int32) : Option (AH × Int32) :=
  gd (hT h a0 = 3) <|
  bn (f_River_hasGrade h a0 a1) fun h2 r3 =>
  if ¬ r3 = 0 then
    if a2 = nI 0 then
      gd (hT h2 a0 = 3) <|
      gd (hT h2 (hR h2 a0 4) = 108 ∧ inb a1 (hL h2 (hR h2 a0 4))) <|
      gd (hT h2 (hR h2 (hR h2 a0 4) (ix a1)) = 8) <|
      some (h2, (hI h2 (hR h2 (hR h2 a0 4) (ix a1)) 0))
    else
    if a2 = nI 1 then
      gd (hT h2 a0 = 3) <|
      gd (hT h2 (hR h2 a0 4) = 108 ∧ inb a1 (hL h2 (hR h2 a0 4))) <|
      gd (hT h2 (hR h2 (hR h2 a0 4) (ix a1)) = 8) <|
      some (h2, (hI h2 (hR h2 (hR h2 a0 4) (ix a1)) 1))
    else
    if a2 = nI 2 then
      gd (hT h2 a0 = 3) <|
      gd (hT h2 (hR h2 a0 4) = 108 ∧ inb a1 (hL h2 (hR h2 a0 4))) <|
      gd (hT h2 (hR h2 (hR h2 a0 4) (ix a1)) = 8) <|
      some (h2, (hI h2 (hR h2 (hR h2 a0 4) (ix a1)) 2))
    else
    if a2 = nI 3 then
      gd (hT h2 a0 = 3) <|
      gd (hT h2 (hR h2 a0 4) = 108 ∧ inb a1 (hL h2 (hR h2 a0 4))) <|
      gd (hT h2 (hR h2 (hR h2 a0 4) (ix a1)) = 8) <|
      bn (f_Grade_priceAt h2 (hR h2 (hR h2 a0 4) (ix a1)) (hI h2 (hR h2 (hR h2 a0 4) (ix a1)) 2)) fun h21 r22 =>
      some (h21, r22)
    else
    gd (hT h2 a0 = 3) <|
    gd (hT h2 (hR h2 a0 4) = 108 ∧ inb a1 (hL h2 (hR h2 a0 4))) <|
    gd (hT h2 (hR h2 (hR h2 a0 4) (ix a1)) = 8) <|
    some (h2, (hI h2 (hR h2 (hR h2 a0 4) (ix a1)) 3))
  else
    some (h2, (nI 0))
def f_River_told (h : AH) (a0 : Nat) (a1 : Int32) (a2 : Int32) : Option (AH × Int32) :=
  if a1 = nI 2 then
    gd (hT h a0 = 3) <|
    bn (f_River_ofGarden h a0 a2 (nI 0)) fun h3 r4 =>
    some (h3, r4)
  else
  if a1 = nI 3 then
    some (h, (nI 0))
  else
  if a1 = nI 4 then
    some (h, (nI 0))
  else
  if a1 = nI 5 then
    some (h, (nI 0))
  else
  if a1 = nI 6 then
    some (h, (nI 0))
  else
  if a1 = nI 7 then
    some (h, (nI 0))
  else
  if a1 = nI 8 then
    some (h, (nI 0))
  else
  if a1 = nI 9 then
    some (h, (nI 0))
  else
  if a1 = nI 10 then
    some (h, (nI 0))
  else
  if a1 = nI 11 then
    some (h, (nI 0))
  else
  if a1 = nI 12 then
    some (h, (nI 0))
  else
  if a1 = nI 13 then
    some (h, (nI 0))
  else
  if a1 = nI 14 then
    some (h, (nI 0))
  else
  if a1 = nI 15 then
    some (h, (nI 0))
  else
  if a1 = nI 16 then
    some (h, (nI 0))
  else
  if a1 = nI 17 then
    gd (hT h a0 = 3) <|
    bn (f_River_ofGrade h a0 a2 (nI 3)) fun h21 r22 =>
    some (h21, r22)
  else
  if a1 = nI 18 then
    some (h, (nI 0))
  else
  if a1 = nI 19 then
    some (h, (nI 0))
  else
  if a1 = nI 20 then
    some (h, (nI 0))
  else
  if a1 = nI 21 then
    some (h, (nI 0))
  else
  if a1 = nI 22 then
    some (h, (nI 0))
  else
  if a1 = nI 23 then
    some (h, (nI 0))
  else
  if a1 = nI 24 then
    some (h, (nI 0))
  else
  if a1 = nI 25 then
    some (h, (nI 0))
  else
  if a1 = nI 26 then
    some (h, (nI 0))
  else
  if a1 = nI 27 then
    gd (hT h a0 = 3) <|
    bn (f_River_hourOfDay h a0) fun h34 r35 =>
    some (h34, r35)
  else
  if a1 = nI 28 then
    gd (hT h a0 = 3) <|
    some (h, (hI h a0 12))
  else
  if a1 = nI 29 then
    gd (hT h a0 = 3) <|
    bn (f_River_ofPeeler h a0 a2 (nI 3)) fun h40 r41 =>
    some (h40, r41)
  else
  if a1 = nI 30 then
    gd (hT h a0 = 3) <|
    bn (f_River_ofRack h a0 a2 (nI 1)) fun h44 r45 =>
    some (h44, r45)
  else
  if a1 = nI 31 then
    gd (hT h a0 = 3) <|
    bn (f_River_ofGrade h a0 a2 (nI 0)) fun h48 r49 =>
    some (h48, r49)
  else
  if a1 = nI 32 then
    gd (hT h a0 = 3) <|
    bn (f_River_ofBoat h a0 a2 (nI 2)) fun h52 r53 =>
    some (h52, r53)
  else
  if a1 = nI 33 then
    gd (hT h a0 = 3) <|
    bn (f_River_ofBoat h a0 a2 (nI 3)) fun h56 r57 =>
    if ¬ r57 = 0 then
      some (h56, (nI 1))
    else
      some (h56, (nI 0))
  else
  if a1 = nI 34 then
    gd (hT h a0 = 3) <|
    bn (f_River_ofPeeler h a0 a2 (nI 3)) fun h61 r62 =>
    if ¬ r62 = 0 then
      some (h61, (nI 0))
    else
      some (h61, (nI 1))
  else
  some (h, (nI 0))
def f_Orders_take_b136 (h : AH)  (s0 : Nat) (s1 : Int32) : Option AH :=
  gd (hT h s0 = 2) <|
  bv (f_Orders_push h s0 s1) fun h2 =>
  some h2
def f_Orders_take (h : AH) (a0 : Nat) (a1 : Int32) (a2 : Int32) (a3 : Nat) : Option AH :=
  if a1 = nI 22 then
    gd (hT h a0 = 2) <|
    bv (f_Orders_whetByOrder h a0 a2 a3) fun h3 =>
    some h3
  else
  if a1 = nI 23 then
    gd (hT h a0 = 2) <|
    bv (f_Orders_loadByOrder h a0 a2 a3) fun h6 =>
    some h6
  else
  if a1 = nI 25 then
    gd (hT h a0 = 2) <|
    bv (f_Orders_restByOrder h a0 a2 a3) fun h9 =>
    some h9
  else
  if a1 = nI 35 then
    gd (hT h a0 = 2) <|
    bn (f_Orders_pop h a0) fun h12 r13 =>
    if ¬ r13 = 0 then
      f_Orders_take_b136  h12 a0 (nI 0)
    else
      f_Orders_take_b136  h12 a0 (nI 1)
  else
  if a1 = nI 56 then
    gd (hT h a0 = 2) <|
    bv (f_Orders_push h a0 a2) fun h17 =>
    some h17
  else
  if a1 = nI 59 then
    gd (hT h a0 = 2) <|
    bn (f_Orders_pop h a0) fun h20 r21 =>
    gd (hT h20 a0 = 2) <|
    bv (f_Orders_push h20 a0 (-r21)) fun h23 =>
    some h23
  else
  if a1 = nI 60 then
    gd (hT h a0 = 2) <|
    bv (f_Orders_push h a0 (nI 1)) fun h26 =>
    some h26
  else
  bn (f_Orders_joinsTwo h a1) fun h27 r28 =>
  if r28 = 0 then
    gd (hT h27 a3 = 3) <|
    bn (f_River_told h27 a3 a1 a2) fun h31 r32 =>
    gd (hT h31 a0 = 2) <|
    bv (f_Orders_push h31 a0 r32) fun h34 =>
    some h34
  else
    gd (hT h27 a0 = 2) <|
    bn (f_Orders_pop h27 a0) fun h36 r37 =>
    gd (hT h36 a0 = 2) <|
    bn (f_Orders_pop h36 a0) fun h39 r40 =>
    bn (f_Orders_join h39 a1 r40 r37) fun h41 r42 =>
    gd (hT h41 a0 = 2) <|
    bv (f_Orders_push h41 a0 r42) fun h44 =>
    some h44
def f_Orders_carryOut_b7 (k7 : AH → Nat → Nat → Int32 → Option AH) (h : AH) (a0 : Nat) (a1 : Nat) (a2 : Int32)  : Option AH :=
  gd (hT h a0 = 2) <|
  if (hI h a0 2) ≤ a2 then
    some h
  else
    gd (hT h (hR h a0 0) = 101) <|
    if (nI (hL h (hR h a0 0))) ≤ a2 then
      some h
    else
      gd (hT h (hR h a0 1) = 101) <|
      if (nI (hL h (hR h a0 1))) ≤ a2 then
        some h
      else
        gd (hT h (hR h a0 0) = 101 ∧ inb a2 (hL h (hR h a0 0))) <|
        gd (hT h (hR h a0 1) = 101 ∧ inb a2 (hL h (hR h a0 1))) <|
        bv (f_Orders_take h a0 (hI h (hR h a0 0) (ix a2)) (hI h (hR h a0 1) (ix a2)) a1) fun h9 =>
        lq (a2 + (nI 1)) fun x10 =>
        k7 h9 a0 a1 x10
def f_Orders_carryOut_l7 : Nat → AH → Nat → Nat → Int32 → Option AH
  | 0, _, _, _, _ => none
  | n + 1, h, a0, a1, a2 => f_Orders_carryOut_b7 (f_Orders_carryOut_l7  n) h a0 a1 a2
def f_Orders_carryOut (h : AH) (a0 : Nat) (a1 : Nat) : Option AH :=
  gd (hT h a0 = 2) <|
  lq (wI h a0 4 (nI 0)) fun h2 =>
  f_Orders_carryOut_l7  FU h2 a0 a1 (nI 0)
def f_River_growSticks_b2 (k2 : AH → Nat → Int32 → Option AH) (h : AH) (a0 : Nat) (a1 : Int32)  : Option AH :=
  gd (hT h a0 = 3) <|
  if (hI h a0 6) ≤ a1 then
    some h
  else
    if (nI 4) ≤ a1 then
      some h
    else
      gd (hT h (hR h a0 0) = 104 ∧ inb a1 (hL h (hR h a0 0))) <|
      gd (hT h (hR h (hR h a0 0) (ix a1)) = 4) <|
      bn (f_Math_min h (nI 99) ((hI h (hR h (hR h a0 0) (ix a1)) 0) + (hI h (hR h (hR h a0 0) (ix a1)) 1))) fun h6 r7 =>
      gd (hT h6 (hR h (hR h a0 0) (ix a1)) = 4) <|
      lq (wI h6 (hR h (hR h a0 0) (ix a1)) 0 r7) fun h9 =>
      lq (a1 + (nI 1)) fun x10 =>
      k2 h9 a0 x10
def f_River_growSticks_l2 : Nat → AH → Nat → Int32 → Option AH
  | 0, _, _, _ => none
  | n + 1, h, a0, a1 => f_River_growSticks_b2 (f_River_growSticks_l2  n) h a0 a1
def f_River_growSticks (h : AH) (a0 : Nat) : Option AH :=
  f_River_growSticks_l2  FU h a0 (nI 0)
def f_Peeler_mostInAnHour (h : AH) (a0 : Nat) : Option (AH × Int32) :=
  gd (hT h a0 = 6) <|
  if (nI 1) ≤ (hI h a0 3) then
    if (hI h a0 3) < (nI 10) then
      some (h, ((hI h a0 2) / (nI 2)))
    else
      some (h, (hI h a0 2))
  else
    some (h, (nI 0))
def f_Rack_lay (h : AH) (a0 : Nat) (a1 : Int32) (a2 : Int32) : Option AH :=
  gd (hT h a0 = 5) <|
  if (hI h a0 2) < 0 then
    some h
  else
    if (hI h a0 2) < (nI 60) then
      gd (hT h (hR h a0 3) = 101 ∧ inb (hI h a0 2) (hL h (hR h a0 3))) <|
      lq (wI h (hR h a0 3) (ix (hI h a0 2)) a1) fun h5 =>
      gd (hT h5 a0 = 5) <|
      gd (hT h5 (hR h5 a0 4) = 101 ∧ inb (hI h5 a0 2) (hL h5 (hR h5 a0 4))) <|
      lq (wI h5 (hR h5 a0 4) (ix (hI h5 a0 2)) a2) fun h8 =>
      gd (hT h8 a0 = 5) <|
      gd (hT h8 (hR h8 a0 5) = 101 ∧ inb (hI h8 a0 2) (hL h8 (hR h8 a0 5))) <|
      lq (wI h8 (hR h8 a0 5) (ix (hI h8 a0 2)) (nI 0)) fun h11 =>
      gd (hT h11 a0 = 5) <|
      gd (hT h11 (hR h11 a0 6) = 101 ∧ inb (hI h11 a0 2) (hL h11 (hR h11 a0 6))) <|
      lq (wI h11 (hR h11 a0 6) (ix (hI h11 a0 2)) (nI 0)) fun h14 =>
      gd (hT h14 a0 = 5) <|
      lq (wI h14 a0 2 ((hI h14 a0 2) + (nI 1))) fun h16 =>
      gd (hT h16 a0 = 5) <|
      lq (wI h16 a0 1 ((hI h16 a0 1) + a1)) fun h18 =>
      some h18
    else
      some h
def f_River_letPeel (h : AH) (a0 : Nat) (a1 : Nat) : Option AH :=
  gd (hT h a1 = 6) <|
  if ¬ (hI h a1 6) = 0 then
    some h
  else
    gd (hT h a0 = 3) <|
    bn (f_River_hasGarden h a0 (hI h a1 0)) fun h4 r5 =>
    if r5 = 0 then
      some h4
    else
      gd (hT h4 a1 = 6) <|
      gd (hT h4 a0 = 3) <|
      bn (f_River_hasRack h4 a0 (hI h4 a1 1)) fun h9 r10 =>
      if ¬ r10 = 0 then
        gd (hT h9 a0 = 3) <|
        gd (hT h9 a1 = 6) <|
        gd (hT h9 (hR h9 a0 0) = 104 ∧ inb (hI h9 a1 0) (hL h9 (hR h9 a0 0))) <|
        lq (hR h9 (hR h9 a0 0) (ix (hI h9 a1 0))) fun x15 =>
        gd (hT h9 (hR h9 a0 1) = 105 ∧ inb (hI h9 a1 1) (hL h9 (hR h9 a0 1))) <|
        lq (hR h9 (hR h9 a0 1) (ix (hI h9 a1 1))) fun x17 =>
        bn (f_Peeler_mostInAnHour h9 a1) fun h18 r19 =>
        gd (hT h18 x15 = 4) <|
        gd (hT h18 x17 = 5) <|
        bn (f_Rack_free h18 x17) fun h22 r23 =>
        bn (f_Math_min h22 (hI h18 x15 0) r23) fun h24 r25 =>
        bn (f_Math_min h24 r19 r25) fun h26 r27 =>
        if (nI 1) ≤ r27 then
          gd (hT h26 x15 = 4) <|
          lq (wI h26 x15 0 ((hI h26 x15 0) - r27)) fun h30 =>
          gd (hT h30 x15 = 4) <|
          gd (hT h30 x17 = 5) <|
          bv (f_Rack_lay h30 x17 r27 (hI h30 x15 2)) fun h33 =>
          gd (hT h33 a1 = 6) <|
          lq (wI h33 a1 3 ((hI h33 a1 3) - (nI 1))) fun h35 =>
          gd (hT h35 a1 = 6) <|
          lq (wI h35 a1 4 ((hI h35 a1 4) + r27)) fun h37 =>
          gd (hT h37 a0 = 3) <|
          lq (wI h37 a0 15 ((hI h37 a0 15) + r27)) fun h39 =>
          some h39
        else
          some h26
      else
        some h9
def f_Rack_isDry (h : AH) (a0 : Int32) (a1 : Int32) : Option (AH × Int32) :=
  if a1 < ((nI 3) * a0) then
    some (h, (nI 0))
  else
    some (h, (nI 1))
def f_Rack_gradeOf (h : AH) (a0 : Int32) (a1 : Int32) : Option (AH × Int32) :=
  bn (f_Math_max h (nI 0) (((a0 - (nI 1)) / (nI 3)) + (a1 / (nI 3)))) fun h1 r2 =>
  bn (f_Math_min h1 (nI 3) r2) fun h3 r4 =>
  some (h3, r4)
def f_Rack_storeAt_b43 (h : AH) (a0 : Nat) (a1 : Int32)  : Option AH :=
  gd (hT h a0 = 5) <|
  gd (hT h (hR h a0 3) = 101 ∧ inb a1 (hL h (hR h a0 3))) <|
  lq (wI h a0 1 ((hI h a0 1) - (hI h (hR h a0 3) (ix a1)))) fun h3 =>
  some h3
def f_Rack_storeAt (h : AH) (a0 : Nat) (a1 : Int32) (a2 : Nat) : Option AH :=
  gd (hT h a0 = 5) <|
  gd (hT h (hR h a0 4) = 101 ∧ inb a1 (hL h (hR h a0 4))) <|
  gd (hT h (hR h a0 6) = 101 ∧ inb a1 (hL h (hR h a0 6))) <|
  bn (f_Rack_gradeOf h (hI h (hR h a0 4) (ix a1)) (hI h (hR h a0 6) (ix a1))) fun h4 r5 =>
  if r5 < 0 then
    f_Rack_storeAt_b43  h4 a0 a1
  else
    gd (hT h4 a2 = 108) <|
    if (nI (hL h4 a2)) ≤ r5 then
      f_Rack_storeAt_b43  h4 a0 a1
    else
      gd (hT h4 a2 = 108 ∧ inb r5 (hL h4 a2)) <|
      gd (hT h4 (hR h4 a2 (ix r5)) = 8) <|
      gd (hT h4 a0 = 5) <|
      gd (hT h4 (hR h4 a0 3) = 101 ∧ inb a1 (hL h4 (hR h4 a0 3))) <|
      lq (wI h4 (hR h4 a2 (ix r5)) 0 ((hI h4 (hR h4 a2 (ix r5)) 0) + (hI h4 (hR h4 a0 3) (ix a1)))) fun h13 =>
      f_Rack_storeAt_b43  h13 a0 a1
def f_Rack_moveTo (h : AH) (a0 : Nat) (a1 : Int32) (a2 : Int32) : Option AH :=
  gd (hT h a0 = 5) <|
  gd (hT h (hR h a0 3) = 101 ∧ inb a2 (hL h (hR h a0 3))) <|
  gd (hT h (hR h a0 3) = 101 ∧ inb a1 (hL h (hR h a0 3))) <|
  lq (wI h (hR h a0 3) (ix a1) (hI h (hR h a0 3) (ix a2))) fun h4 =>
  gd (hT h4 a0 = 5) <|
  gd (hT h4 (hR h4 a0 4) = 101 ∧ inb a2 (hL h4 (hR h4 a0 4))) <|
  gd (hT h4 (hR h4 a0 4) = 101 ∧ inb a1 (hL h4 (hR h4 a0 4))) <|
  lq (wI h4 (hR h4 a0 4) (ix a1) (hI h4 (hR h4 a0 4) (ix a2))) fun h8 =>
  gd (hT h8 a0 = 5) <|
  gd (hT h8 (hR h8 a0 5) = 101 ∧ inb a2 (hL h8 (hR h8 a0 5))) <|
  gd (hT h8 (hR h8 a0 5) = 101 ∧ inb a1 (hL h8 (hR h8 a0 5))) <|
  lq (wI h8 (hR h8 a0 5) (ix a1) (hI h8 (hR h8 a0 5) (ix a2))) fun h12 =>
  gd (hT h12 a0 = 5) <|
  gd (hT h12 (hR h12 a0 6) = 101 ∧ inb a2 (hL h12 (hR h12 a0 6))) <|
  gd (hT h12 (hR h12 a0 6) = 101 ∧ inb a1 (hL h12 (hR h12 a0 6))) <|
  lq (wI h12 (hR h12 a0 6) (ix a1) (hI h12 (hR h12 a0 6) (ix a2))) fun h16 =>
  some h16
def f_Rack_letDry_b96 (h : AH) (a0 : Nat) (a3 : Int32)  : Option AH :=
  gd (hT h a0 = 5) <|
  lq (wI h a0 2 a3) fun h2 =>
  some h2
def f_Rack_letDry_b90 (k5 : AH → Nat → Int32 → Nat → Int32 → Int32 → Option AH) (h : AH) (a0 : Nat) (a1 : Int32) (a2 : Nat) (a3 : Int32) (a4 : Int32)  : Option AH :=
  lq (a4 + (nI 1)) fun x1 =>
  k5 h a0 a1 a2 a3 x1
def f_Rack_letDry_b50 (k5 : AH → Nat → Int32 → Nat → Int32 → Int32 → Option AH) (h : AH) (a0 : Nat) (a1 : Int32) (a2 : Nat) (a3 : Int32) (a4 : Int32)  : Option AH :=
  gd (hT h a0 = 5) <|
  gd (hT h (hR h a0 4) = 101 ∧ inb a4 (hL h (hR h a0 4))) <|
  gd (hT h (hR h a0 5) = 101 ∧ inb a4 (hL h (hR h a0 5))) <|
  bn (f_Rack_isDry h (hI h (hR h a0 4) (ix a4)) (hI h (hR h a0 5) (ix a4))) fun h4 r5 =>
  if r5 = 0 then
    gd (hT h4 a0 = 5) <|
    bv (f_Rack_moveTo h4 a0 a3 a4) fun h8 =>
    lq (a3 + (nI 1)) fun x9 =>
    f_Rack_letDry_b90 k5 h8 a0 a1 a2 x9 a4
  else
    gd (hT h4 a0 = 5) <|
    bv (f_Rack_storeAt h4 a0 a4 a2) fun h11 =>
    f_Rack_letDry_b90 k5 h11 a0 a1 a2 a3 a4
def f_Rack_letDry_b5 (k5 : AH → Nat → Int32 → Nat → Int32 → Int32 → Option AH) (h : AH) (a0 : Nat) (a1 : Int32) (a2 : Nat) (a3 : Int32) (a4 : Int32)  : Option AH :=
  gd (hT h a0 = 5) <|
  if (hI h a0 2) ≤ a4 then
    f_Rack_letDry_b96  h a0 a3
  else
    if (nI 60) ≤ a4 then
      f_Rack_letDry_b96  h a0 a3
    else
      if ¬ a1 = 0 then
        gd (hT h (hR h a0 5) = 101 ∧ inb a4 (hL h (hR h a0 5))) <|
        lq (wI h (hR h a0 5) (ix a4) ((hI h (hR h a0 5) (ix a4)) + a1)) fun h6 =>
        f_Rack_letDry_b50 k5 h6 a0 a1 a2 a3 a4
      else
        gd (hT h (hR h a0 6) = 101 ∧ inb a4 (hL h (hR h a0 6))) <|
        lq (wI h (hR h a0 6) (ix a4) ((hI h (hR h a0 6) (ix a4)) + (nI 1))) fun h8 =>
        f_Rack_letDry_b50 k5 h8 a0 a1 a2 a3 a4
def f_Rack_letDry_l5 : Nat → AH → Nat → Int32 → Nat → Int32 → Int32 → Option AH
  | 0, _, _, _, _, _, _ => none
  | n + 1, h, a0, a1, a2, a3, a4 => f_Rack_letDry_b5 (f_Rack_letDry_l5  n) h a0 a1 a2 a3 a4
def f_Rack_letDry (h : AH) (a0 : Nat) (a1 : Int32) (a2 : Nat) : Option AH :=
  f_Rack_letDry_l5  FU h a0 a1 a2 (nI 0) (nI 0)
def f_Boat_comesToMarket_b91 (h : AH) (a0 : Nat) (s0 : Nat) (s1 : Int32) : Option (AH × Int32) :=
  gd (hT h s0 = 7) <|
  lq (wI h s0 3 s1) fun h2 =>
  gd (hT h2 a0 = 7) <|
  if ¬ (hI h2 a0 3) = (nI 2) then
    some (h2, (nI 0))
  else
    some (h2, (nI 1))
def f_Boat_comesToMarket_b40 (h : AH)  (s0 : Nat) (s1 : Int32) : Option (AH × Int32) :=
  gd (hT h s0 = 7) <|
  lq (wI h s0 3 s1) fun h2 =>
  some (h2, (nI 0))
def f_Boat_comesToMarket (h : AH) (a0 : Nat) (a1 : Int32) (a2 : Int32) : Option (AH × Int32) :=
  gd (hT h a0 = 7) <|
  if ¬ (hI h a0 3) = (nI 2) then
    if ¬ (hI h a0 3) = 0 then
      bn (f_Math_max h (nI 1) ((hI h a0 1) - a2)) fun h4 r5 =>
      bn (f_Math_min h4 a1 ((hI h a0 2) + r5)) fun h6 r7 =>
      gd (hT h6 a0 = 7) <|
      lq (wI h6 a0 2 r7) fun h9 =>
      gd (hT h9 a0 = 7) <|
      if ¬ (hI h9 a0 2) = a1 then
        f_Boat_comesToMarket_b91  h9 a0 a0 (nI 1)
      else
        f_Boat_comesToMarket_b91  h9 a0 a0 (nI 2)
    else
      some (h, (nI 0))
  else
    bn (f_Math_max h (nI 0) (((hI h a0 2) - (hI h a0 1)) - a2)) fun h12 r13 =>
    gd (hT h12 a0 = 7) <|
    lq (wI h12 a0 2 r13) fun h15 =>
    gd (hT h15 a0 = 7) <|
    if ¬ (hI h15 a0 2) = 0 then
      f_Boat_comesToMarket_b40  h15 a0 (nI 2)
    else
      f_Boat_comesToMarket_b40  h15 a0 (nI 0)
def f_Grade_worthOf_b4 (k4 : AH → Nat → Int32 → Int32 → Int32 → Option (AH × Int32)) (h : AH) (a0 : Nat) (a1 : Int32) (a2 : Int32) (a3 : Int32)  : Option (AH × Int32) :=
  if a1 ≤ a3 then
    some (h, a2)
  else
    gd (hT h a0 = 8) <|
    bn (f_Grade_priceAt h a0 ((hI h a0 2) + a3)) fun h3 r4 =>
    lq (a2 + r4) fun x5 =>
    lq (a3 + (nI 1)) fun x6 =>
    k4 h3 a0 a1 x5 x6
def f_Grade_worthOf_l4 : Nat → AH → Nat → Int32 → Int32 → Int32 → Option (AH × Int32)
  | 0, _, _, _, _, _ => none
  | n + 1, h, a0, a1, a2, a3 => f_Grade_worthOf_b4 (f_Grade_worthOf_l4  n) h a0 a1 a2 a3
def f_Grade_worthOf (h : AH) (a0 : Nat) (a1 : Int32) : Option (AH × Int32) :=
  f_Grade_worthOf_l4  FU h a0 a1 (nI 0) (nI 0)
def f_River_sellQuills_b89 (h : AH) (a1 : Nat)  : Option AH :=
  gd (hT h a1 = 7) <|
  lq (wI h a1 4 (nI 0)) fun h2 =>
  gd (hT h2 a1 = 7) <|
  lq (wI h2 a1 5 (-nI 1)) fun h4 =>
  some h4
def f_River_sellQuills (h : AH) (a0 : Nat) (a1 : Nat) : Option AH :=
  gd (hT h a1 = 7) <|
  gd (hT h a0 = 3) <|
  bn (f_River_hasGrade h a0 (hI h a1 5)) fun h3 r4 =>
  if r4 = 0 then
    f_River_sellQuills_b89  h3 a1
  else
    gd (hT h3 a0 = 3) <|
    gd (hT h3 a1 = 7) <|
    gd (hT h3 (hR h3 a0 4) = 108 ∧ inb (hI h3 a1 5) (hL h3 (hR h3 a0 4))) <|
    lq (hR h3 (hR h3 a0 4) (ix (hI h3 a1 5))) fun x9 =>
    gd (hT h3 x9 = 8) <|
    bn (f_Grade_worthOf h3 x9 (hI h3 a1 4)) fun h11 r12 =>
    gd (hT h11 x9 = 8) <|
    gd (hT h11 a1 = 7) <|
    lq (wI h11 x9 2 ((hI h11 x9 2) + (hI h11 a1 4))) fun h15 =>
    gd (hT h15 x9 = 8) <|
    gd (hT h15 a1 = 7) <|
    lq (wI h15 x9 3 ((hI h15 x9 3) + (hI h15 a1 4))) fun h18 =>
    gd (hT h18 a0 = 3) <|
    gd (hT h18 a1 = 7) <|
    lq (wI h18 a0 16 ((hI h18 a0 16) + (hI h18 a1 4))) fun h21 =>
    gd (hT h21 a0 = 3) <|
    lq (wI h21 a0 12 ((hI h21 a0 12) + r12)) fun h23 =>
    gd (hT h23 a1 = 7) <|
    lq (wI h23 a1 6 ((hI h23 a1 6) + r12)) fun h25 =>
    f_River_sellQuills_b89  h25 a1
def f_River_endHour_b2 (k2 : AH → Nat → Int32 → Option AH) (h : AH) (a0 : Nat) (a1 : Int32)  : Option AH :=
  if (nI 4) ≤ a1 then
    gd (hT h a0 = 3) <|
    lq (wI h a0 11 ((hI h a0 11) + (nI 1))) fun h3 =>
    gd (hT h3 a0 = 3) <|
    bn (f_Math_min h3 (nI 99999) (hI h3 a0 12)) fun h5 r6 =>
    gd (hT h5 a0 = 3) <|
    lq (wI h5 a0 12 r6) fun h8 =>
    some h8
  else
    gd (hT h a0 = 3) <|
    gd (hT h (hR h a0 4) = 108 ∧ inb a1 (hL h (hR h a0 4))) <|
    gd (hT h (hR h (hR h a0 4) (ix a1)) = 8) <|
    bn (f_Math_max h (nI 0) ((hI h (hR h (hR h a0 4) (ix a1)) 2) - (nI 1))) fun h12 r13 =>
    gd (hT h12 (hR h (hR h a0 4) (ix a1)) = 8) <|
    lq (wI h12 (hR h (hR h a0 4) (ix a1)) 2 r13) fun h15 =>
    lq (a1 + (nI 1)) fun x16 =>
    k2 h15 a0 x16
def f_River_endHour_l2 : Nat → AH → Nat → Int32 → Option AH
  | 0, _, _, _ => none
  | n + 1, h, a0, a1 => f_River_endHour_b2 (f_River_endHour_l2  n) h a0 a1
def f_River_endHour (h : AH) (a0 : Nat) : Option AH :=
  f_River_endHour_l2  FU h a0 (nI 0)
def f_River_letHourGo_b176 (h : AH) (a0 : Nat)  : Option AH :=
  gd (hT h a0 = 3) <|
  bv (f_River_endHour h a0) fun h2 =>
  some h2
def f_River_letHourGo_b170 (k127 : AH → Nat → Int32 → Option AH) (h : AH) (a0 : Nat) (a3 : Int32)  : Option AH :=
  lq (a3 + (nI 1)) fun x1 =>
  k127 h a0 x1
def f_River_letHourGo_b127 (k127 : AH → Nat → Int32 → Option AH) (h : AH) (a0 : Nat) (a3 : Int32)  : Option AH :=
  gd (hT h a0 = 3) <|
  if (hI h a0 9) ≤ a3 then
    f_River_letHourGo_b176  h a0
  else
    if (nI 4) ≤ a3 then
      f_River_letHourGo_b176  h a0
    else
      gd (hT h (hR h a0 3) = 107 ∧ inb a3 (hL h (hR h a0 3))) <|
      gd (hT h (hR h (hR h a0 3) (ix a3)) = 7) <|
      bn (f_Boat_comesToMarket h (hR h (hR h a0 3) (ix a3)) (hI h a0 13) (hI h a0 14)) fun h6 r7 =>
      if r7 = 0 then
        f_River_letHourGo_b170 k127 h6 a0 a3
      else
        gd (hT h6 a0 = 3) <|
        gd (hT h6 (hR h6 a0 3) = 107 ∧ inb a3 (hL h6 (hR h6 a0 3))) <|
        bv (f_River_sellQuills h6 a0 (hR h6 (hR h6 a0 3) (ix a3))) fun h11 =>
        f_River_letHourGo_b170 k127 h11 a0 a3
def f_River_letHourGo_l127 : Nat → AH → Nat → Int32 → Option AH
  | 0, _, _, _ => none
  | n + 1, h, a0, a3 => f_River_letHourGo_b127 (f_River_letHourGo_l127  n) h a0 a3
def f_River_letHourGo_b125 (h : AH) (a0 : Nat)  : Option AH :=
  f_River_letHourGo_l127  FU h a0 (nI 0)
def f_River_letHourGo_b92 (k92 : AH → Nat → Int32 → Int32 → Option AH) (h : AH) (a0 : Nat) (a2 : Int32) (a3 : Int32)  : Option AH :=
  gd (hT h a0 = 3) <|
  if (hI h a0 7) ≤ a3 then
    f_River_letHourGo_b125  h a0
  else
    if (nI 4) ≤ a3 then
      f_River_letHourGo_b125  h a0
    else
      gd (hT h (hR h a0 1) = 105 ∧ inb a3 (hL h (hR h a0 1))) <|
      gd (hT h (hR h (hR h a0 1) (ix a3)) = 5) <|
      bv (f_Rack_letDry h (hR h (hR h a0 1) (ix a3)) a2 (hR h a0 4)) fun h6 =>
      lq (a3 + (nI 1)) fun x7 =>
      k92 h6 a0 a2 x7
def f_River_letHourGo_l92 : Nat → AH → Nat → Int32 → Int32 → Option AH
  | 0, _, _, _, _ => none
  | n + 1, h, a0, a2, a3 => f_River_letHourGo_b92 (f_River_letHourGo_l92  n) h a0 a2 a3
def f_River_letHourGo_b80 (h : AH) (a0 : Nat)  : Option AH :=
  gd (hT h a0 = 3) <|
  bn (f_River_hourOfDay h a0) fun h2 r3 =>
  gd (hT h2 (hR h a0 5) = 101 ∧ inb r3 (hL h2 (hR h a0 5))) <|
  lq (hI h2 (hR h a0 5) (ix r3)) fun x5 =>
  f_River_letHourGo_l92  FU h2 a0 x5 (nI 0)
def f_River_letHourGo_b50 (k50 : AH → Nat → Int32 → Option AH) (h : AH) (a0 : Nat) (a2 : Int32)  : Option AH :=
  gd (hT h a0 = 3) <|
  if (hI h a0 8) ≤ a2 then
    f_River_letHourGo_b80  h a0
  else
    if (nI 8) ≤ a2 then
      f_River_letHourGo_b80  h a0
    else
      gd (hT h (hR h a0 2) = 106 ∧ inb a2 (hL h (hR h a0 2))) <|
      bv (f_River_letPeel h a0 (hR h (hR h a0 2) (ix a2))) fun h5 =>
      lq (a2 + (nI 1)) fun x6 =>
      k50 h5 a0 x6
def f_River_letHourGo_l50 : Nat → AH → Nat → Int32 → Option AH
  | 0, _, _, _ => none
  | n + 1, h, a0, a2 => f_River_letHourGo_b50 (f_River_letHourGo_l50  n) h a0 a2
def f_River_letHourGo_b48 (h : AH) (a0 : Nat)  : Option AH :=
  f_River_letHourGo_l50  FU h a0 (nI 0)
def f_River_letHourGo_b32 (h : AH) (a0 : Nat) (a1 : Nat)  : Option AH :=
  gd (hT h a1 = 2) <|
  bv (f_Orders_carryOut h a1 a0) fun h2 =>
  gd (hT h2 a0 = 3) <|
  bn (f_River_hourOfDay h2 a0) fun h4 r5 =>
  if ¬ r5 = 0 then
    f_River_letHourGo_b48  h4 a0
  else
    gd (hT h4 a0 = 3) <|
    bv (f_River_growSticks h4 a0) fun h8 =>
    f_River_letHourGo_b48  h8 a0
def f_River_letHourGo_b2 (k2 : AH → Nat → Nat → Int32 → Option AH) (h : AH) (a0 : Nat) (a1 : Nat) (a2 : Int32)  : Option AH :=
  gd (hT h a0 = 3) <|
  if (hI h a0 8) ≤ a2 then
    f_River_letHourGo_b32  h a0 a1
  else
    if (nI 8) ≤ a2 then
      f_River_letHourGo_b32  h a0 a1
    else
      gd (hT h (hR h a0 2) = 106 ∧ inb a2 (hL h (hR h a0 2))) <|
      gd (hT h (hR h (hR h a0 2) (ix a2)) = 6 ∧ ((nI 0) = 0 ∨ (nI 0) = 1)) <|
      lq (wI h (hR h (hR h a0 2) (ix a2)) 6 (nI 0)) fun h6 =>
      lq (a2 + (nI 1)) fun x7 =>
      k2 h6 a0 a1 x7
def f_River_letHourGo_l2 : Nat → AH → Nat → Nat → Int32 → Option AH
  | 0, _, _, _, _ => none
  | n + 1, h, a0, a1, a2 => f_River_letHourGo_b2 (f_River_letHourGo_l2  n) h a0 a1 a2
def f_River_letHourGo (h : AH) (a0 : Nat) (a1 : Nat) : Option AH :=
  f_River_letHourGo_l2  FU h a0 a1 (nI 0)
def f_QuillBoats_letHoursGo_b2 (k2 : AH → Nat → Nat → Int32 → Int32 → Option AH) (h : AH) (a0 : Nat) (a1 : Nat) (a2 : Int32) (a3 : Int32)  : Option AH :=
  if a2 ≤ a3 then
    some h
  else
    gd (hT h a0 = 1) <|
    gd (hT h a1 = 3) <|
    bv (f_River_letHourGo h a1 (hR h a0 3)) fun h4 =>
    lq (a3 + (nI 1)) fun x5 =>
    k2 h4 a0 a1 a2 x5
def f_QuillBoats_letHoursGo_l2 : Nat → AH → Nat → Nat → Int32 → Int32 → Option AH
  | 0, _, _, _, _, _ => none
  | n + 1, h, a0, a1, a2, a3 => f_QuillBoats_letHoursGo_b2 (f_QuillBoats_letHoursGo_l2  n) h a0 a1 a2 a3
def f_QuillBoats_letHoursGo (h : AH) (a0 : Nat) (a1 : Nat) (a2 : Int32) : Option AH :=
  f_QuillBoats_letHoursGo_l2  FU h a0 a1 a2 (nI 0)
def f_QuillBoats_pass (h : AH) (a0 : Nat) (a1 : Int32) : Option (AH × Int32) :=
  bn (f_QuillBoats_isWithin h a1 (nI 1) (nI 120)) fun h1 r2 =>
  if ¬ r2 = 0 then
    gd (hT h1 a0 = 1) <|
    gd (hT h1 (hR h1 a0 4) = 3) <|
    lq (hI h1 (hR h1 a0 4) 15) fun x6 =>
    bv (f_QuillBoats_letHoursGo h1 a0 (hR h1 a0 4) a1) fun h7 =>
    gd (hT h7 a0 = 1) <|
    gd (hT h7 (hR h7 a0 4) = 3) <|
    some (h7, ((hI h7 (hR h7 a0 4) 15) - x6))
  else
    none
def f_Law_act (h : AH) (a0 : Nat) (a1 : Nat) (a2 : Int32) : Option (AH × Int32) :=
  bn (f_Law_below h (a2 >>> ((nI 7) &&& 31)) (nI 8)) fun h1 r2 =>
  if r2 = nI 0 then
    gd (hT h1 a1 = 13) <|
    gd (hT h1 (hR h1 a1 15) = 109) <|
    bn (f_Law_below h1 (a2 >>> ((nI 1) &&& 31)) (nI (hL h1 (hR h1 a1 15)))) fun h6 r7 =>
    gd (hT h6 a1 = 13) <|
    bn (f_Sim_canWhet h6 a1 r7) fun h9 r10 =>
    if ¬ r10 = 0 then
      gd (hT h9 a1 = 13) <|
      bv (f_Sim_whet h9 a1 r7) fun h13 =>
      gd (hT h13 a0 = 1) <|
      bn (f_QuillBoats_whet h13 a0 r7) fun h15 r16 =>
      gd (hT h15 a1 = 13) <|
      if ¬ r16 = (hI h15 a1 1) then
        some (h15, (nI 0))
      else
        some (h15, (nI 1))
    else
      some (h9, (nI 1))
  else
  if r2 = nI 1 then
    gd (hT h1 a1 = 13) <|
    gd (hT h1 (hR h1 a1 16) = 109) <|
    bn (f_Law_below h1 (a2 >>> ((nI 1) &&& 31)) (nI (hL h1 (hR h1 a1 16)))) fun h22 r23 =>
    bn (f_Law_below h22 (a2 >>> ((nI 2) &&& 31)) (nI 4)) fun h24 r25 =>
    gd (hT h24 a1 = 13) <|
    gd (hT h24 (hR h24 a1 16) = 109 ∧ inb r23 (hL h24 (hR h24 a1 16))) <|
    gd (hT h24 (hR h24 (hR h24 a1 16) (ix r23)) = 101 ∧ inb (nI 0) (hL h24 (hR h24 (hR h24 a1 16) (ix r23)))) <|
    bn (f_Law_below h24 (a2 >>> ((nI 3) &&& 31)) (hI h24 (hR h24 (hR h24 a1 16) (ix r23)) (ix (nI 0)))) fun h29 r30 =>
    lq ((nI 1) + r30) fun x31 =>
    gd (hT h29 a1 = 13) <|
    gd (hT h29 (hR h29 a1 16) = 109 ∧ inb r23 (hL h29 (hR h29 a1 16))) <|
    gd (hT h29 (hR h29 (hR h29 a1 16) (ix r23)) = 101 ∧ inb (nI 3) (hL h29 (hR h29 (hR h29 a1 16) (ix r23)))) <|
    if ¬ (hI h29 (hR h29 (hR h29 a1 16) (ix r23)) (ix (nI 3))) = 0 then
      some (h29, (nI 1))
    else
      gd (hT h29 (hR h29 a1 9) = 101 ∧ inb r25 (hL h29 (hR h29 a1 9))) <|
      if ¬ (hI h29 (hR h29 a1 9) (ix r25)) = 0 then
        gd (hT h29 a0 = 1) <|
        bn (f_QuillBoats_load h29 a0 r23 r25 x31) fun h39 r40 =>
        gd (hT h39 a1 = 13) <|
        bn (f_Sim_load h39 a1 r23 r25 x31) fun h42 r43 =>
        if ¬ r40 = r43 then
          some (h42, (nI 0))
        else
          some (h42, (nI 1))
      else
        some (h29, (nI 1))
  else
  if r2 = nI 2 then
    gd (hT h1 a1 = 13) <|
    gd (hT h1 (hR h1 a1 16) = 109) <|
    bn (f_Law_below h1 (a2 >>> ((nI 1) &&& 31)) (nI (hL h1 (hR h1 a1 16)))) fun h48 r49 =>
    bn (f_Law_below h48 (a2 >>> ((nI 2) &&& 31)) (nI 4)) fun h50 r51 =>
    gd (hT h50 a1 = 13) <|
    gd (hT h50 (hR h50 a1 16) = 109 ∧ inb r49 (hL h50 (hR h50 a1 16))) <|
    gd (hT h50 (hR h50 (hR h50 a1 16) (ix r49)) = 101 ∧ inb (nI 0) (hL h50 (hR h50 (hR h50 a1 16) (ix r49)))) <|
    bn (f_Law_below h50 (a2 >>> ((nI 3) &&& 31)) (hI h50 (hR h50 (hR h50 a1 16) (ix r49)) (ix (nI 0)))) fun h55 r56 =>
    lq ((nI 1) + r56) fun x57 =>
    gd (hT h55 a1 = 13) <|
    gd (hT h55 (hR h55 a1 16) = 109 ∧ inb r49 (hL h55 (hR h55 a1 16))) <|
    gd (hT h55 (hR h55 (hR h55 a1 16) (ix r49)) = 101 ∧ inb (nI 3) (hL h55 (hR h55 (hR h55 a1 16) (ix r49)))) <|
    if ¬ (hI h55 (hR h55 (hR h55 a1 16) (ix r49)) (ix (nI 3))) = 0 then
      some (h55, (nI 1))
    else
      gd (hT h55 (hR h55 a1 9) = 101 ∧ inb r51 (hL h55 (hR h55 a1 9))) <|
      if ¬ (hI h55 (hR h55 a1 9) (ix r51)) = 0 then
        gd (hT h55 a0 = 1) <|
        bn (f_QuillBoats_load h55 a0 r49 r51 x57) fun h65 r66 =>
        gd (hT h65 a1 = 13) <|
        bn (f_Sim_load h65 a1 r49 r51 x57) fun h68 r69 =>
        if ¬ r66 = r69 then
          some (h68, (nI 0))
        else
          some (h68, (nI 1))
      else
        some (h55, (nI 1))
  else
  if r2 = nI 3 then
    bn (f_Law_below h1 (a2 >>> ((nI 1) &&& 31)) (nI 12)) fun h72 r73 =>
    gd (hT h72 a1 = 13) <|
    gd (hT h72 (hR h72 a1 7) = 101 ∧ inb r73 (hL h72 (hR h72 a1 7))) <|
    lq (hI h72 (hR h72 a1 7) (ix r73)) fun x76 =>
    bn (f_Law_below h72 (a2 >>> ((nI 3) &&& 31)) (nI 4)) fun h77 r78 =>
    gd (hT h77 (hR h72 a1 7) = 101 ∧ inb r73 (hL h77 (hR h72 a1 7))) <|
    lq (wI h77 (hR h72 a1 7) (ix r73) r78) fun h80 =>
    gd (hT h80 a1 = 13) <|
    gd (hT h80 (hR h80 a1 7) = 101 ∧ inb r73 (hL h80 (hR h80 a1 7))) <|
    gd (hT h80 a0 = 1) <|
    bn (f_QuillBoats_setShade h80 a0 r73 (hI h80 (hR h80 a1 7) (ix r73))) fun h84 r85 =>
    if ¬ r85 = x76 then
      some (h84, (nI 0))
    else
      some (h84, (nI 1))
  else
  if r2 = nI 4 then
    bn (f_Law_below h1 a2 (nI 3)) fun h88 r89 =>
    if r89 ≤ 0 then
      gd (hT h88 a1 = 13) <|
      lq (hI h88 a1 6) fun x92 =>
      bn (f_Law_below h88 (a2 >>> ((nI 2) &&& 31)) (nI 6)) fun h93 r94 =>
      gd (hT h93 a1 = 13) <|
      lq (wI h93 a1 6 r94) fun h96 =>
      gd (hT h96 a1 = 13) <|
      gd (hT h96 a0 = 1) <|
      bn (f_QuillBoats_setCurrent h96 a0 (hI h96 a1 6)) fun h99 r100 =>
      if ¬ r100 = x92 then
        some (h99, (nI 0))
      else
        some (h99, (nI 1))
    else
      some (h88, (nI 1))
  else
  if r2 = nI 5 then
    bn (f_Law_below h1 (a2 >>> ((nI 2) &&& 31)) (nI 300)) fun h103 r104 =>
    lq ((nI 1) + r104) fun x105 =>
    gd (hT h103 a1 = 13) <|
    bn (f_Math_min h103 (nI 99999) ((hI h103 a1 1) + x105)) fun h107 r108 =>
    gd (hT h107 a1 = 13) <|
    lq (wI h107 a1 1 r108) fun h110 =>
    gd (hT h110 a0 = 1) <|
    bn (f_QuillBoats_grant h110 a0 x105) fun h112 r113 =>
    gd (hT h112 a1 = 13) <|
    if ¬ r113 = (hI h112 a1 1) then
      some (h112, (nI 0))
    else
      some (h112, (nI 1))
  else
  bn (f_Law_below h1 (a2 >>> ((nI 2) &&& 31)) (nI 9)) fun h116 r117 =>
  lq ((nI 1) + r117) fun x118 =>
  gd (hT h116 a1 = 13) <|
  lq (hI h116 a1 2) fun x120 =>
  bn (f_Sim_behind h116 a1 x118) fun h121 r122 =>
  gd (hT h121 a0 = 1) <|
  bn (f_QuillBoats_pass h121 a0 x118) fun h124 r125 =>
  gd (hT h124 a1 = 13) <|
  if ¬ r125 = ((hI h124 a1 2) - x120) then
    some (h124, (nI 0))
  else
    some (h124, (nI 1))
def f_River_storedQuills_b4 (k4 : AH → Nat → Int32 → Int32 → Option (AH × Int32)) (h : AH) (a0 : Nat) (a1 : Int32) (a2 : Int32)  : Option (AH × Int32) :=
  if (nI 4) ≤ a2 then
    some (h, a1)
  else
    gd (hT h a0 = 3) <|
    gd (hT h (hR h a0 4) = 108 ∧ inb a2 (hL h (hR h a0 4))) <|
    gd (hT h (hR h (hR h a0 4) (ix a2)) = 8) <|
    lq (a1 + (hI h (hR h (hR h a0 4) (ix a2)) 0)) fun x5 =>
    lq (a2 + (nI 1)) fun x6 =>
    k4 h a0 x5 x6
def f_River_storedQuills_l4 : Nat → AH → Nat → Int32 → Int32 → Option (AH × Int32)
  | 0, _, _, _, _ => none
  | n + 1, h, a0, a1, a2 => f_River_storedQuills_b4 (f_River_storedQuills_l4  n) h a0 a1 a2
def f_River_storedQuills (h : AH) (a0 : Nat) : Option (AH × Int32) :=
  f_River_storedQuills_l4  FU h a0 (nI 0) (nI 0)
def f_Rack_lyingQuills (h : AH) (a0 : Nat) : Option (AH × Int32) :=
  gd (hT h a0 = 5) <|
  some (h, (hI h a0 1))
def f_River_dryingQuills_b4 (k4 : AH → Nat → Int32 → Int32 → Option (AH × Int32)) (h : AH) (a0 : Nat) (a1 : Int32) (a2 : Int32)  : Option (AH × Int32) :=
  gd (hT h a0 = 3) <|
  if (hI h a0 7) ≤ a2 then
    some (h, a1)
  else
    if (nI 4) ≤ a2 then
      some (h, a1)
    else
      gd (hT h (hR h a0 1) = 105 ∧ inb a2 (hL h (hR h a0 1))) <|
      gd (hT h (hR h (hR h a0 1) (ix a2)) = 5) <|
      bn (f_Rack_lyingQuills h (hR h (hR h a0 1) (ix a2))) fun h6 r7 =>
      lq (a1 + r7) fun x8 =>
      lq (a2 + (nI 1)) fun x9 =>
      k4 h6 a0 x8 x9
def f_River_dryingQuills_l4 : Nat → AH → Nat → Int32 → Int32 → Option (AH × Int32)
  | 0, _, _, _, _ => none
  | n + 1, h, a0, a1, a2 => f_River_dryingQuills_b4 (f_River_dryingQuills_l4  n) h a0 a1 a2
def f_River_dryingQuills (h : AH) (a0 : Nat) : Option (AH × Int32) :=
  f_River_dryingQuills_l4  FU h a0 (nI 0) (nI 0)
def f_River_shippedQuills_b4 (k4 : AH → Nat → Int32 → Int32 → Option (AH × Int32)) (h : AH) (a0 : Nat) (a1 : Int32) (a2 : Int32)  : Option (AH × Int32) :=
  gd (hT h a0 = 3) <|
  if (hI h a0 9) ≤ a2 then
    some (h, a1)
  else
    if (nI 4) ≤ a2 then
      some (h, a1)
    else
      gd (hT h (hR h a0 3) = 107 ∧ inb a2 (hL h (hR h a0 3))) <|
      gd (hT h (hR h (hR h a0 3) (ix a2)) = 7) <|
      lq (a1 + (hI h (hR h (hR h a0 3) (ix a2)) 4)) fun x6 =>
      lq (a2 + (nI 1)) fun x7 =>
      k4 h a0 x6 x7
def f_River_shippedQuills_l4 : Nat → AH → Nat → Int32 → Int32 → Option (AH × Int32)
  | 0, _, _, _, _ => none
  | n + 1, h, a0, a1, a2 => f_River_shippedQuills_b4 (f_River_shippedQuills_l4  n) h a0 a1 a2
def f_River_shippedQuills (h : AH) (a0 : Nat) : Option (AH × Int32) :=
  f_River_shippedQuills_l4  FU h a0 (nI 0) (nI 0)
def f_River_total (h : AH) (a0 : Nat) (a1 : Int32) : Option (AH × Int32) :=
  if a1 = nI 0 then
    gd (hT h a0 = 3) <|
    some (h, (hI h a0 11))
  else
  if a1 = nI 1 then
    gd (hT h a0 = 3) <|
    some (h, (hI h a0 12))
  else
  if a1 = nI 2 then
    gd (hT h a0 = 3) <|
    some (h, (hI h a0 6))
  else
  if a1 = nI 3 then
    gd (hT h a0 = 3) <|
    some (h, (hI h a0 7))
  else
  if a1 = nI 4 then
    gd (hT h a0 = 3) <|
    some (h, (hI h a0 8))
  else
  if a1 = nI 5 then
    gd (hT h a0 = 3) <|
    some (h, (hI h a0 9))
  else
  if a1 = nI 6 then
    gd (hT h a0 = 3) <|
    some (h, (hI h a0 10))
  else
  if a1 = nI 7 then
    gd (hT h a0 = 3) <|
    bn (f_River_storedQuills h a0) fun h17 r18 =>
    some (h17, r18)
  else
  if a1 = nI 8 then
    gd (hT h a0 = 3) <|
    bn (f_River_dryingQuills h a0) fun h21 r22 =>
    some (h21, r22)
  else
  if a1 = nI 9 then
    gd (hT h a0 = 3) <|
    bn (f_River_shippedQuills h a0) fun h25 r26 =>
    some (h25, r26)
  else
  if a1 = nI 10 then
    gd (hT h a0 = 3) <|
    some (h, (hI h a0 15))
  else
  if a1 = nI 11 then
    gd (hT h a0 = 3) <|
    some (h, (hI h a0 16))
  else
  if a1 = nI 12 then
    gd (hT h a0 = 3) <|
    some (h, (hI h a0 17))
  else
  if a1 = nI 13 then
    gd (hT h a0 = 3) <|
    some (h, (hI h a0 13))
  else
  gd (hT h a0 = 3) <|
  some (h, (hI h a0 14))
def f_QuillBoats_counted (h : AH) (a0 : Nat) (a1 : Int32) : Option (AH × Int32) :=
  if ¬ a1 = (nI 15) then
    gd (hT h a0 = 1) <|
    gd (hT h (hR h a0 4) = 3) <|
    bn (f_River_total h (hR h a0 4) a1) fun h4 r5 =>
    some (h4, r5)
  else
    gd (hT h a0 = 1) <|
    some (h, (hI h a0 1))
def f_QuillBoats_count (h : AH) (a0 : Nat) (a1 : Int32) : Option (AH × Int32) :=
  bn (f_QuillBoats_isWithin h a1 (nI 0) (nI 15)) fun h1 r2 =>
  if ¬ r2 = 0 then
    gd (hT h1 a0 = 1) <|
    bn (f_QuillBoats_counted h1 a0 a1) fun h5 r6 =>
    some (h5, r6)
  else
    none
def f_QuillBoats_garden_b20 (h : AH)   : Option (AH × Int32) :=
  none
def f_QuillBoats_garden (h : AH) (a0 : Nat) (a1 : Int32) (a2 : Int32) : Option (AH × Int32) :=
  gd (hT h a0 = 1) <|
  gd (hT h (hR h a0 4) = 3) <|
  bn (f_River_hasGarden h (hR h a0 4) a1) fun h3 r4 =>
  if r4 = 0 then
    f_QuillBoats_garden_b20  h3 
  else
    bn (f_QuillBoats_isWithin h3 a2 (nI 0) (nI 3)) fun h6 r7 =>
    if ¬ r7 = 0 then
      gd (hT h6 a0 = 1) <|
      gd (hT h6 (hR h6 a0 4) = 3) <|
      bn (f_River_ofGarden h6 (hR h6 a0 4) a1 a2) fun h11 r12 =>
      some (h11, r12)
    else
      f_QuillBoats_garden_b20  h6 
def f_QuillBoats_rack_b20 (h : AH)   : Option (AH × Int32) :=
  none
def f_QuillBoats_rack (h : AH) (a0 : Nat) (a1 : Int32) (a2 : Int32) : Option (AH × Int32) :=
  gd (hT h a0 = 1) <|
  gd (hT h (hR h a0 4) = 3) <|
  bn (f_River_hasRack h (hR h a0 4) a1) fun h3 r4 =>
  if r4 = 0 then
    f_QuillBoats_rack_b20  h3 
  else
    bn (f_QuillBoats_isWithin h3 a2 (nI 0) (nI 3)) fun h6 r7 =>
    if ¬ r7 = 0 then
      gd (hT h6 a0 = 1) <|
      gd (hT h6 (hR h6 a0 4) = 3) <|
      bn (f_River_ofRack h6 (hR h6 a0 4) a1 a2) fun h11 r12 =>
      some (h11, r12)
    else
      f_QuillBoats_rack_b20  h6 
def f_River_hasBundle (h : AH) (a0 : Nat) (a1 : Int32) (a2 : Int32) : Option (AH × Int32) :=
  gd (hT h a0 = 3) <|
  bn (f_River_hasRack h a0 a1) fun h2 r3 =>
  if r3 = 0 then
    some (h2, (nI 0))
  else
    if a2 < 0 then
      some (h2, (nI 0))
    else
      gd (hT h2 a0 = 3) <|
      gd (hT h2 (hR h2 a0 1) = 105 ∧ inb a1 (hL h2 (hR h2 a0 1))) <|
      gd (hT h2 (hR h2 (hR h2 a0 1) (ix a1)) = 5) <|
      bn (f_Rack_bundles h2 (hR h2 (hR h2 a0 1) (ix a1))) fun h9 r10 =>
      if r10 ≤ a2 then
        some (h9, (nI 0))
      else
        some (h9, (nI 1))
def f_Rack_tell (h : AH) (a0 : Nat) (a1 : Int32) (a2 : Int32) : Option (AH × Int32) :=
  if a1 < 0 then
    some (h, (nI 0))
  else
    gd (hT h a0 = 5) <|
    if (hI h a0 2) ≤ a1 then
      some (h, (nI 0))
    else
      if a1 < (nI 60) then
        if a2 = nI 0 then
          gd (hT h (hR h a0 3) = 101 ∧ inb a1 (hL h (hR h a0 3))) <|
          some (h, (hI h (hR h a0 3) (ix a1)))
        else
        if a2 = nI 1 then
          gd (hT h (hR h a0 4) = 101 ∧ inb a1 (hL h (hR h a0 4))) <|
          some (h, (hI h (hR h a0 4) (ix a1)))
        else
        if a2 = nI 2 then
          gd (hT h (hR h a0 5) = 101 ∧ inb a1 (hL h (hR h a0 5))) <|
          some (h, (hI h (hR h a0 5) (ix a1)))
        else
        if a2 = nI 3 then
          gd (hT h (hR h a0 6) = 101 ∧ inb a1 (hL h (hR h a0 6))) <|
          some (h, (hI h (hR h a0 6) (ix a1)))
        else
        gd (hT h (hR h a0 4) = 101 ∧ inb a1 (hL h (hR h a0 4))) <|
        gd (hT h (hR h a0 6) = 101 ∧ inb a1 (hL h (hR h a0 6))) <|
        bn (f_Rack_gradeOf h (hI h (hR h a0 4) (ix a1)) (hI h (hR h a0 6) (ix a1))) fun h15 r16 =>
        some (h15, r16)
      else
        some (h, (nI 0))
def f_River_ofBundle (h : AH) (a0 : Nat) (a1 : Int32) (a2 : Int32) (a3 : Int32) : Option (AH × Int32) :=
  gd (hT h a0 = 3) <|
  bn (f_River_hasRack h a0 a1) fun h2 r3 =>
  if r3 = 0 then
    some (h2, (nI 0))
  else
    gd (hT h2 a0 = 3) <|
    gd (hT h2 (hR h2 a0 1) = 105 ∧ inb a1 (hL h2 (hR h2 a0 1))) <|
    gd (hT h2 (hR h2 (hR h2 a0 1) (ix a1)) = 5) <|
    bn (f_Rack_tell h2 (hR h2 (hR h2 a0 1) (ix a1)) a2 a3) fun h8 r9 =>
    some (h8, r9)
def f_QuillBoats_bundle_b21 (h : AH)   : Option (AH × Int32) :=
  none
def f_QuillBoats_bundle (h : AH) (a0 : Nat) (a1 : Int32) (a2 : Int32) (a3 : Int32) : Option (AH × Int32) :=
  gd (hT h a0 = 1) <|
  gd (hT h (hR h a0 4) = 3) <|
  bn (f_River_hasBundle h (hR h a0 4) a1 a2) fun h3 r4 =>
  if r4 = 0 then
    f_QuillBoats_bundle_b21  h3 
  else
    bn (f_QuillBoats_isWithin h3 a3 (nI 0) (nI 4)) fun h6 r7 =>
    if ¬ r7 = 0 then
      gd (hT h6 a0 = 1) <|
      gd (hT h6 (hR h6 a0 4) = 3) <|
      bn (f_River_ofBundle h6 (hR h6 a0 4) a1 a2 a3) fun h11 r12 =>
      some (h11, r12)
    else
      f_QuillBoats_bundle_b21  h6 
def f_River_drying_b71 (k30 : AH → Nat → Int32 → Int32 → Int32 → Int32 → Int32 → Option (AH × Int32)) (h : AH) (a0 : Nat) (a3 : Int32) (a4 : Int32) (a5 : Int32) (a7 : Int32) (a8 : Int32) (s0 : Int32) (s1 : Int32) : Option (AH × Int32) :=
  lq (s0 + s1) fun x1 =>
  lq (a5 + a8) fun x2 =>
  bn (f_Rack_isDry h a4 x2) fun h3 r4 =>
  if r4 = 0 then
    lq (a7 + (nI 1)) fun x6 =>
    k30 h3 a0 a3 a4 x2 x1 x6
  else
    if ¬ a3 = 0 then
      bn (f_Rack_gradeOf h3 a4 x1) fun h8 r9 =>
      some (h8, r9)
    else
      some (h3, a7)
def f_River_drying_b30 (k30 : AH → Nat → Int32 → Int32 → Int32 → Int32 → Int32 → Option (AH × Int32)) (h : AH) (a0 : Nat) (a3 : Int32) (a4 : Int32) (a5 : Int32) (a6 : Int32) (a7 : Int32)  : Option (AH × Int32) :=
  if (nI 300) < a7 then
    some (h, (-nI 1))
  else
    gd (hT h a0 = 3) <|
    bn (f_Math_floorMod h (((hI h a0 11) + a7) - (nI 1)) (nI 12)) fun h3 r4 =>
    gd (hT h3 (hR h a0 5) = 101 ∧ inb r4 (hL h3 (hR h a0 5))) <|
    lq (hI h3 (hR h a0 5) (ix r4)) fun x6 =>
    if ¬ x6 = 0 then
      f_River_drying_b71 k30 h3 a0 a3 a4 a5 a7 x6 a6 (nI 0)
    else
      f_River_drying_b71 k30 h3 a0 a3 a4 a5 a7 x6 a6 (nI 1)
def f_River_drying_l30 : Nat → AH → Nat → Int32 → Int32 → Int32 → Int32 → Int32 → Option (AH × Int32)
  | 0, _, _, _, _, _, _, _ => none
  | n + 1, h, a0, a3, a4, a5, a6, a7 => f_River_drying_b30 (f_River_drying_l30  n) h a0 a3 a4 a5 a6 a7
def f_River_drying (h : AH) (a0 : Nat) (a1 : Int32) (a2 : Int32) (a3 : Int32) : Option (AH × Int32) :=
  gd (hT h a0 = 3) <|
  bn (f_River_ofBundle h a0 a1 a2 (nI 1)) fun h2 r3 =>
  gd (hT h2 a0 = 3) <|
  bn (f_River_ofBundle h2 a0 a1 a2 (nI 2)) fun h5 r6 =>
  gd (hT h5 a0 = 3) <|
  bn (f_River_ofBundle h5 a0 a1 a2 (nI 3)) fun h8 r9 =>
  f_River_drying_l30  FU h8 a0 a3 r3 r6 r9 (nI 1)
def f_QuillBoats_dry_b21 (h : AH)   : Option (AH × Int32) :=
  none
def f_QuillBoats_dry (h : AH) (a0 : Nat) (a1 : Int32) (a2 : Int32) (a3 : Int32) : Option (AH × Int32) :=
  gd (hT h a0 = 1) <|
  gd (hT h (hR h a0 4) = 3) <|
  bn (f_River_hasBundle h (hR h a0 4) a1 a2) fun h3 r4 =>
  if r4 = 0 then
    f_QuillBoats_dry_b21  h3 
  else
    bn (f_QuillBoats_isWithin h3 a3 (nI 0) (nI 1)) fun h6 r7 =>
    if ¬ r7 = 0 then
      gd (hT h6 a0 = 1) <|
      gd (hT h6 (hR h6 a0 4) = 3) <|
      bn (f_River_drying h6 (hR h6 a0 4) a1 a2 a3) fun h11 r12 =>
      some (h11, r12)
    else
      f_QuillBoats_dry_b21  h6 
def f_QuillBoats_peeler_b20 (h : AH)   : Option (AH × Int32) :=
  none
def f_QuillBoats_peeler (h : AH) (a0 : Nat) (a1 : Int32) (a2 : Int32) : Option (AH × Int32) :=
  gd (hT h a0 = 1) <|
  gd (hT h (hR h a0 4) = 3) <|
  bn (f_River_hasPeeler h (hR h a0 4) a1) fun h3 r4 =>
  if r4 = 0 then
    f_QuillBoats_peeler_b20  h3 
  else
    bn (f_QuillBoats_isWithin h3 a2 (nI 0) (nI 5)) fun h6 r7 =>
    if ¬ r7 = 0 then
      gd (hT h6 a0 = 1) <|
      gd (hT h6 (hR h6 a0 4) = 3) <|
      bn (f_River_ofPeeler h6 (hR h6 a0 4) a1 a2) fun h11 r12 =>
      some (h11, r12)
    else
      f_QuillBoats_peeler_b20  h6 
def f_QuillBoats_boat_b21 (h : AH)   : Option (AH × Int32) :=
  none
def f_QuillBoats_boat (h : AH) (a0 : Nat) (a1 : Int32) (a2 : Int32) : Option (AH × Int32) :=
  gd (hT h a0 = 1) <|
  gd (hT h (hR h a0 4) = 3) <|
  bn (f_River_hasBoat h (hR h a0 4) a1) fun h3 r4 =>
  if r4 = 0 then
    f_QuillBoats_boat_b21  h3 
  else
    bn (f_QuillBoats_isWithin h3 a2 (nI 0) (nI 6)) fun h6 r7 =>
    if ¬ r7 = 0 then
      gd (hT h6 a0 = 1) <|
      gd (hT h6 (hR h6 a0 4) = 3) <|
      bn (f_River_ofBoat h6 (hR h6 a0 4) a1 a2) fun h11 r12 =>
      some (h11, r12)
    else
      f_QuillBoats_boat_b21  h6 
def f_QuillBoats_until_b47 (k47 : AH → Nat → Nat → Int32 → Option (AH × Int32)) (h : AH) (a0 : Nat) (a2 : Nat) (a3 : Int32)  : Option (AH × Int32) :=
  if (nI 150) < a3 then
    some (h, (-nI 1))
  else
    gd (hT h a2 = 7) <|
    if ¬ (hI h a2 3) = 0 then
      gd (hT h a0 = 1) <|
      gd (hT h (hR h a0 4) = 3) <|
      bn (f_Boat_comesToMarket h a2 (hI h (hR h a0 4) 13) (hI h (hR h a0 4) 14)) fun h6 r7 =>
      lq (a3 + (nI 1)) fun x8 =>
      k47 h6 a0 a2 x8
    else
      some (h, a3)
def f_QuillBoats_until_l47 : Nat → AH → Nat → Nat → Int32 → Option (AH × Int32)
  | 0, _, _, _, _ => none
  | n + 1, h, a0, a2, a3 => f_QuillBoats_until_b47 (f_QuillBoats_until_l47  n) h a0 a2 a3
def f_QuillBoats_until (h : AH) (a0 : Nat) (a1 : Int32) : Option (AH × Int32) :=
  gd (hT h a0 = 1) <|
  gd (hT h (hR h a0 4) = 3) <|
  bn (f_River_hasBoat h (hR h a0 4) a1) fun h3 r4 =>
  if ¬ r4 = 0 then
    gd (hT h3 a0 = 1) <|
    gd (hT h3 (hR h3 a0 9) = 3) <|
    gd (hT h3 (hR h3 (hR h3 a0 9) 3) = 107 ∧ inb a1 (hL h3 (hR h3 (hR h3 a0 9) 3))) <|
    lq (hR h3 (hR h3 (hR h3 a0 9) 3) (ix a1)) fun x9 =>
    gd (hT h3 (hR h3 a0 4) = 3) <|
    gd (hT h3 (hR h3 (hR h3 a0 4) 3) = 107 ∧ inb a1 (hL h3 (hR h3 (hR h3 a0 4) 3))) <|
    gd (hT h3 x9 = 7) <|
    bv (f_Boat_copyFrom h3 x9 (hR h3 (hR h3 (hR h3 a0 4) 3) (ix a1))) fun h13 =>
    f_QuillBoats_until_l47  FU h13 a0 x9 (nI 0)
  else
    none
def f_QuillBoats_grade_b20 (h : AH)   : Option (AH × Int32) :=
  none
def f_QuillBoats_grade (h : AH) (a0 : Nat) (a1 : Int32) (a2 : Int32) : Option (AH × Int32) :=
  gd (hT h a0 = 1) <|
  gd (hT h (hR h a0 4) = 3) <|
  bn (f_River_hasGrade h (hR h a0 4) a1) fun h3 r4 =>
  if r4 = 0 then
    f_QuillBoats_grade_b20  h3 
  else
    bn (f_QuillBoats_isWithin h3 a2 (nI 0) (nI 4)) fun h6 r7 =>
    if ¬ r7 = 0 then
      gd (hT h6 a0 = 1) <|
      gd (hT h6 (hR h6 a0 4) = 3) <|
      bn (f_River_ofGrade h6 (hR h6 a0 4) a1 a2) fun h11 r12 =>
      some (h11, r12)
    else
      f_QuillBoats_grade_b20  h6 
def f_QuillBoats_worth (h : AH) (a0 : Nat) (a1 : Int32) (a2 : Int32) : Option (AH × Int32) :=
  gd (hT h a0 = 1) <|
  gd (hT h (hR h a0 4) = 3) <|
  bn (f_River_hasGrade h (hR h a0 4) a1) fun h3 r4 =>
  if ¬ r4 = 0 then
    bn (f_QuillBoats_isWithin h3 a2 (nI 1) (nI 40)) fun h6 r7 =>
    if ¬ r7 = 0 then
      gd (hT h6 a0 = 1) <|
      gd (hT h6 (hR h6 a0 4) = 3) <|
      gd (hT h6 (hR h6 (hR h6 a0 4) 4) = 108 ∧ inb a1 (hL h6 (hR h6 (hR h6 a0 4) 4))) <|
      gd (hT h6 (hR h6 (hR h6 (hR h6 a0 4) 4) (ix a1)) = 8) <|
      bn (f_Grade_worthOf h6 (hR h6 (hR h6 (hR h6 a0 4) 4) (ix a1)) a2) fun h13 r14 =>
      some (h13, r14)
    else
      none
  else
    none
def f_QuillBoats_foresee_b48 (h : AH) (a0 : Nat) (a1 : Int32) (a2 : Int32)  : Option (AH × Int32) :=
  gd (hT h a0 = 1) <|
  gd (hT h (hR h a0 9) = 3) <|
  bv (f_River_copyFrom h (hR h a0 9) (hR h a0 4)) fun h3 =>
  gd (hT h3 a0 = 1) <|
  bv (f_QuillBoats_letHoursGo h3 a0 (hR h3 a0 9) a1) fun h5 =>
  gd (hT h5 a0 = 1) <|
  gd (hT h5 (hR h5 a0 9) = 3) <|
  bn (f_River_total h5 (hR h5 a0 9) a2) fun h8 r9 =>
  some (h8, r9)
def f_QuillBoats_foresee (h : AH) (a0 : Nat) (a1 : Int32) (a2 : Int32) : Option (AH × Int32) :=
  bn (f_QuillBoats_isWithin h a1 (nI 1) (nI 120)) fun h1 r2 =>
  if ¬ r2 = 0 then
    if a2 = (nI 1) then
      f_QuillBoats_foresee_b48  h1 a0 a1 a2
    else
      bn (f_QuillBoats_isWithin h1 a2 (nI 7) (nI 12)) fun h5 r6 =>
      if ¬ r6 = 0 then
        f_QuillBoats_foresee_b48  h5 a0 a1 a2
      else
        none
  else
    none
def f_Sim_counted_b133 (k133 : AH → Nat → Int32 → Int32 → Int32 → Int32 → Nat → Int32 → Int32 → Option (AH × Int32)) (h : AH) (a0 : Nat) (a1 : Int32) (a2 : Int32) (a3 : Int32) (a4 : Int32) (a5 : Nat) (a6 : Int32) (a7 : Int32)  : Option (AH × Int32) :=
  if a6 ≤ a7 then
    lq (hA h 101 (ix (nI 16))) fun h2 =>
    gd (hT h2 a0 = 13) <|
    gd (hT h2 (hN h) = 101 ∧ inb (nI 0) (hL h2 (hN h))) <|
    lq (wI h2 (hN h) (ix (nI 0)) (hI h2 a0 0)) fun h5 =>
    gd (hT h5 a0 = 13) <|
    gd (hT h5 (hN h) = 101 ∧ inb (nI 1) (hL h5 (hN h))) <|
    lq (wI h5 (hN h) (ix (nI 1)) (hI h5 a0 1)) fun h8 =>
    gd (hT h8 a0 = 13) <|
    gd (hT h8 (hR h8 a0 12) = 109) <|
    gd (hT h8 (hN h) = 101 ∧ inb (nI 2) (hL h8 (hN h))) <|
    lq (wI h8 (hN h) (ix (nI 2)) (nI (hL h8 (hR h8 a0 12)))) fun h12 =>
    gd (hT h12 a0 = 13) <|
    gd (hT h12 (hR h12 a0 14) = 110) <|
    gd (hT h12 (hN h) = 101 ∧ inb (nI 3) (hL h12 (hN h))) <|
    lq (wI h12 (hN h) (ix (nI 3)) (nI (hL h12 (hR h12 a0 14)))) fun h16 =>
    gd (hT h16 a0 = 13) <|
    gd (hT h16 (hR h16 a0 15) = 109) <|
    gd (hT h16 (hN h) = 101 ∧ inb (nI 4) (hL h16 (hN h))) <|
    lq (wI h16 (hN h) (ix (nI 4)) (nI (hL h16 (hR h16 a0 15)))) fun h20 =>
    gd (hT h20 a0 = 13) <|
    gd (hT h20 (hR h20 a0 16) = 109) <|
    gd (hT h20 (hN h) = 101 ∧ inb (nI 5) (hL h20 (hN h))) <|
    lq (wI h20 (hN h) (ix (nI 5)) (nI (hL h20 (hR h20 a0 16)))) fun h24 =>
    gd (hT h24 a0 = 13) <|
    gd (hT h24 (hR h24 a0 17) = 109) <|
    gd (hT h24 (hN h) = 101 ∧ inb (nI 6) (hL h24 (hN h))) <|
    lq (wI h24 (hN h) (ix (nI 6)) (nI (hL h24 (hR h24 a0 17)))) fun h28 =>
    gd (hT h28 (hN h) = 101 ∧ inb (nI 7) (hL h28 (hN h))) <|
    lq (wI h28 (hN h) (ix (nI 7)) a2) fun h30 =>
    gd (hT h30 (hN h) = 101 ∧ inb (nI 8) (hL h30 (hN h))) <|
    lq (wI h30 (hN h) (ix (nI 8)) a3) fun h32 =>
    gd (hT h32 (hN h) = 101 ∧ inb (nI 9) (hL h32 (hN h))) <|
    lq (wI h32 (hN h) (ix (nI 9)) a4) fun h34 =>
    gd (hT h34 a0 = 13) <|
    gd (hT h34 (hN h) = 101 ∧ inb (nI 10) (hL h34 (hN h))) <|
    lq (wI h34 (hN h) (ix (nI 10)) (hI h34 a0 2)) fun h37 =>
    gd (hT h37 a0 = 13) <|
    gd (hT h37 (hN h) = 101 ∧ inb (nI 11) (hL h37 (hN h))) <|
    lq (wI h37 (hN h) (ix (nI 11)) (hI h37 a0 3)) fun h40 =>
    gd (hT h40 a0 = 13) <|
    gd (hT h40 (hN h) = 101 ∧ inb (nI 12) (hL h40 (hN h))) <|
    lq (wI h40 (hN h) (ix (nI 12)) (hI h40 a0 4)) fun h43 =>
    gd (hT h43 a0 = 13) <|
    gd (hT h43 (hN h) = 101 ∧ inb (nI 13) (hL h43 (hN h))) <|
    lq (wI h43 (hN h) (ix (nI 13)) (hI h43 a0 5)) fun h46 =>
    gd (hT h46 a0 = 13) <|
    gd (hT h46 (hN h) = 101 ∧ inb (nI 14) (hL h46 (hN h))) <|
    lq (wI h46 (hN h) (ix (nI 14)) (hI h46 a0 6)) fun h49 =>
    gd (hT h49 (hN h) = 101 ∧ inb (nI 15) (hL h49 (hN h))) <|
    lq (wI h49 (hN h) (ix (nI 15)) (nI 0)) fun h51 =>
    lq (hN h) fun x52 =>
    gd (hT h51 x52 = 101 ∧ inb a1 (hL h51 x52)) <|
    some (h51, (hI h51 x52 (ix a1)))
  else
    gd (hT h a5 = 109 ∧ inb a7 (hL h a5)) <|
    lq (hR h a5 (ix a7)) fun x55 =>
    gd (hT h x55 = 101 ∧ inb (nI 4) (hL h x55)) <|
    lq (a4 + (hI h x55 (ix (nI 4)))) fun x57 =>
    lq (a7 + (nI 1)) fun x58 =>
    k133 h a0 a1 a2 a3 x57 a5 a6 x58
def f_Sim_counted_l133 : Nat → AH → Nat → Int32 → Int32 → Int32 → Int32 → Nat → Int32 → Int32 → Option (AH × Int32)
  | 0, _, _, _, _, _, _, _, _, _ => none
  | n + 1, h, a0, a1, a2, a3, a4, a5, a6, a7 => f_Sim_counted_b133 (f_Sim_counted_l133  n) h a0 a1 a2 a3 a4 a5 a6 a7
def f_Sim_counted_b86 (k60 : AH → Nat → Int32 → Int32 → Int32 → Int32 → Nat → Int32 → Int32 → Option (AH × Int32)) (k86 : AH → Nat → Int32 → Int32 → Int32 → Int32 → Nat → Int32 → Int32 → Nat → Int32 → Int32 → Option (AH × Int32)) (h : AH) (a0 : Nat) (a1 : Int32) (a2 : Int32) (a3 : Int32) (a4 : Int32) (a5 : Nat) (a6 : Int32) (a7 : Int32) (a9 : Nat) (a10 : Int32) (a11 : Int32)  : Option (AH × Int32) :=
  if a10 ≤ a11 then
    lq (a7 + (nI 1)) fun x2 =>
    k60 h a0 a1 a2 a3 a4 a5 a6 x2
  else
    gd (hT h a9 = 109 ∧ inb a11 (hL h a9)) <|
    lq (hR h a9 (ix a11)) fun x4 =>
    gd (hT h x4 = 101 ∧ inb (nI 0) (hL h x4)) <|
    lq (a3 + (hI h x4 (ix (nI 0)))) fun x6 =>
    lq (a11 + (nI 1)) fun x7 =>
    k86 h a0 a1 a2 x6 a4 a5 a6 a7 a9 a10 x7
def f_Sim_counted_l86 (k60 : AH → Nat → Int32 → Int32 → Int32 → Int32 → Nat → Int32 → Int32 → Option (AH × Int32)) : Nat → AH → Nat → Int32 → Int32 → Int32 → Int32 → Nat → Int32 → Int32 → Nat → Int32 → Int32 → Option (AH × Int32)
  | 0, _, _, _, _, _, _, _, _, _, _, _, _ => none
  | n + 1, h, a0, a1, a2, a3, a4, a5, a6, a7, a9, a10, a11 => f_Sim_counted_b86 k60 (f_Sim_counted_l86 k60 n) h a0 a1 a2 a3 a4 a5 a6 a7 a9 a10 a11
def f_Sim_counted_b60 (k60 : AH → Nat → Int32 → Int32 → Int32 → Int32 → Nat → Int32 → Int32 → Option (AH × Int32)) (h : AH) (a0 : Nat) (a1 : Int32) (a2 : Int32) (a3 : Int32) (a4 : Int32) (a5 : Nat) (a6 : Int32) (a7 : Int32)  : Option (AH × Int32) :=
  if a6 ≤ a7 then
    gd (hT h a0 = 13) <|
    lq (hR h a0 16) fun x3 =>
    gd (hT h x3 = 109) <|
    lq (nI (hL h x3)) fun x5 =>
    f_Sim_counted_l133  FU h a0 a1 a2 a3 a4 x3 x5 (nI 0)
  else
    gd (hT h a5 = 110 ∧ inb a7 (hL h a5)) <|
    lq (hR h a5 (ix a7)) fun x7 =>
    gd (hT h x7 = 109) <|
    lq (nI (hL h x7)) fun x9 =>
    f_Sim_counted_l86 k60 FU h a0 a1 a2 a3 a4 a5 a6 a7 x7 x9 (nI 0)
def f_Sim_counted_l60 : Nat → AH → Nat → Int32 → Int32 → Int32 → Int32 → Nat → Int32 → Int32 → Option (AH × Int32)
  | 0, _, _, _, _, _, _, _, _, _ => none
  | n + 1, h, a0, a1, a2, a3, a4, a5, a6, a7 => f_Sim_counted_b60 (f_Sim_counted_l60  n) h a0 a1 a2 a3 a4 a5 a6 a7
def f_Sim_counted_b21 (k21 : AH → Nat → Int32 → Int32 → Int32 → Int32 → Nat → Int32 → Int32 → Option (AH × Int32)) (h : AH) (a0 : Nat) (a1 : Int32) (a2 : Int32) (a3 : Int32) (a4 : Int32) (a5 : Nat) (a6 : Int32) (a7 : Int32)  : Option (AH × Int32) :=
  if a6 ≤ a7 then
    gd (hT h a0 = 13) <|
    lq (hR h a0 14) fun x3 =>
    gd (hT h x3 = 110) <|
    lq (nI (hL h x3)) fun x5 =>
    f_Sim_counted_l60  FU h a0 a1 a2 a3 a4 x3 x5 (nI 0)
  else
    gd (hT h a5 = 101 ∧ inb a7 (hL h a5)) <|
    lq (hI h a5 (ix a7)) fun x7 =>
    lq (a2 + x7) fun x8 =>
    lq (a7 + (nI 1)) fun x9 =>
    k21 h a0 a1 x8 a3 a4 a5 a6 x9
def f_Sim_counted_l21 : Nat → AH → Nat → Int32 → Int32 → Int32 → Int32 → Nat → Int32 → Int32 → Option (AH × Int32)
  | 0, _, _, _, _, _, _, _, _, _ => none
  | n + 1, h, a0, a1, a2, a3, a4, a5, a6, a7 => f_Sim_counted_b21 (f_Sim_counted_l21  n) h a0 a1 a2 a3 a4 a5 a6 a7
def f_Sim_counted (h : AH) (a0 : Nat) (a1 : Int32) : Option (AH × Int32) :=
  gd (hT h a0 = 13) <|
  lq (hR h a0 9) fun x2 =>
  gd (hT h x2 = 101) <|
  lq (nI (hL h x2)) fun x4 =>
  f_Sim_counted_l21  FU h a0 a1 (nI 0) (nI 0) (nI 0) x2 x4 (nI 0)
def f_QuillBoats_shade (h : AH) (a0 : Nat) (a1 : Int32) : Option (AH × Int32) :=
  bn (f_QuillBoats_isWithin h a1 (nI 0) (nI 11)) fun h1 r2 =>
  if ¬ r2 = 0 then
    gd (hT h1 a0 = 1) <|
    gd (hT h1 (hR h1 a0 4) = 3) <|
    gd (hT h1 (hR h1 (hR h1 a0 4) 5) = 101 ∧ inb a1 (hL h1 (hR h1 (hR h1 a0 4) 5))) <|
    some (h1, (hI h1 (hR h1 (hR h1 a0 4) 5) (ix a1)))
  else
    none
def f_QuillBoats_mean_b67 (h : AH)  (s0 : UInt64) : Option (AH × UInt64) :=
  some (h, s0)
def f_QuillBoats_mean_b42 (h : AH) (a0 : Nat) (a1 : Int32)  : Option (AH × UInt64) :=
  gd (hT h a0 = 1) <|
  gd (hT h (hR h a0 4) = 3) <|
  if (hI h (hR h a0 4) 8) ≤ 0 then
    f_QuillBoats_mean_b67  h FP.dconst0
  else
    gd (FP.ddiv (FP.i2d a1) (FP.i2d (hI h (hR h a0 4) 8)) &&& 0x7fffffffffffffff ≤ 0x7ff0000000000000) <|
    f_QuillBoats_mean_b67  h (FP.ddiv (FP.i2d a1) (FP.i2d (hI h (hR h a0 4) 8)))
def f_QuillBoats_mean_b4 (k4 : AH → Nat → Int32 → Int32 → Option (AH × UInt64)) (h : AH) (a0 : Nat) (a1 : Int32) (a2 : Int32)  : Option (AH × UInt64) :=
  gd (hT h a0 = 1) <|
  gd (hT h (hR h a0 4) = 3) <|
  if (hI h (hR h a0 4) 8) ≤ a2 then
    f_QuillBoats_mean_b42  h a0 a1
  else
    if (nI 8) ≤ a2 then
      f_QuillBoats_mean_b42  h a0 a1
    else
      gd (hT h (hR h (hR h a0 4) 2) = 106 ∧ inb a2 (hL h (hR h (hR h a0 4) 2))) <|
      gd (hT h (hR h (hR h (hR h a0 4) 2) (ix a2)) = 6) <|
      lq (a1 + (hI h (hR h (hR h (hR h a0 4) 2) (ix a2)) 3)) fun x7 =>
      lq (a2 + (nI 1)) fun x8 =>
      k4 h a0 x7 x8
def f_QuillBoats_mean_l4 : Nat → AH → Nat → Int32 → Int32 → Option (AH × UInt64)
  | 0, _, _, _, _ => none
  | n + 1, h, a0, a1, a2 => f_QuillBoats_mean_b4 (f_QuillBoats_mean_l4  n) h a0 a1 a2
def f_QuillBoats_mean (h : AH) (a0 : Nat) : Option (AH × UInt64) :=
  f_QuillBoats_mean_l4  FU h a0 (nI 0) (nI 0)
def f_Sim_isSame_b717 (h : AH)  (s0 : UInt64) (s1 : UInt64) : Option (AH × Int32) :=
  if ¬ (Op.cmpValue (FP.dcmp s0 s1) .l) = 0 then
    some (h, (nI 0))
  else
    some (h, (nI 1))
def f_Sim_isSame_b657 (k600 : AH → Nat → Nat → Int32 → Int32 → Option (AH × Int32)) (k657 : AH → Nat → Nat → Int32 → Int32 → Nat → Int32 → Option (AH × Int32)) (h : AH) (a0 : Nat) (a1 : Nat) (a2 : Int32) (a3 : Int32) (a4 : Nat) (a5 : Int32)  : Option (AH × Int32) :=
  if (nI 5) ≤ a5 then
    lq (a3 + (nI 1)) fun x2 =>
    k600 h a0 a1 a2 x2
  else
    gd (hT h a1 = 1) <|
    bn (f_QuillBoats_grade h a1 a3 a5) fun h4 r5 =>
    gd (hT h4 a4 = 101 ∧ inb a5 (hL h4 a4)) <|
    if r5 = (hI h4 a4 (ix a5)) then
      lq (a5 + (nI 1)) fun x8 =>
      k657 h4 a0 a1 a2 a3 a4 x8
    else
      some (h4, (nI 0))
def f_Sim_isSame_l657 (k600 : AH → Nat → Nat → Int32 → Int32 → Option (AH × Int32)) : Nat → AH → Nat → Nat → Int32 → Int32 → Nat → Int32 → Option (AH × Int32)
  | 0, _, _, _, _, _, _, _ => none
  | n + 1, h, a0, a1, a2, a3, a4, a5 => f_Sim_isSame_b657 k600 (f_Sim_isSame_l657 k600 n) h a0 a1 a2 a3 a4 a5
def f_Sim_isSame_b600 (k600 : AH → Nat → Nat → Int32 → Int32 → Option (AH × Int32)) (h : AH) (a0 : Nat) (a1 : Nat) (a2 : Int32) (a3 : Int32)  : Option (AH × Int32) :=
  if (nI 4) ≤ a3 then
    gd (hT h a1 = 1) <|
    bn (f_QuillBoats_mean h a1) fun h3 r4 =>
    gd (hT h3 a0 = 13) <|
    gd (hT h3 (hR h3 a0 15) = 109) <|
    if ¬ (nI (hL h3 (hR h3 a0 15))) = 0 then
      gd (FP.ddiv (FP.i2d a2) (FP.i2d (nI (hL h3 (hR h3 a0 15)))) &&& 0x7fffffffffffffff ≤ 0x7ff0000000000000) <|
      f_Sim_isSame_b717  h3 r4 (FP.ddiv (FP.i2d a2) (FP.i2d (nI (hL h3 (hR h3 a0 15)))))
    else
      f_Sim_isSame_b717  h3 r4 FP.dconst0
  else
    lq (hA h 101 (ix (nI 5))) fun h9 =>
    gd (hT h9 a0 = 13) <|
    gd (hT h9 (hR h9 a0 9) = 101 ∧ inb a3 (hL h9 (hR h9 a0 9))) <|
    gd (hT h9 (hN h) = 101 ∧ inb (nI 0) (hL h9 (hN h))) <|
    lq (wI h9 (hN h) (ix (nI 0)) (hI h9 (hR h9 a0 9) (ix a3))) fun h13 =>
    gd (hT h13 a0 = 13) <|
    gd (hT h13 (hR h13 a0 8) = 101 ∧ inb a3 (hL h13 (hR h13 a0 8))) <|
    gd (hT h13 (hN h) = 101 ∧ inb (nI 1) (hL h13 (hN h))) <|
    lq (wI h13 (hN h) (ix (nI 1)) (hI h13 (hR h13 a0 8) (ix a3))) fun h17 =>
    gd (hT h17 a0 = 13) <|
    gd (hT h17 (hR h17 a0 10) = 101 ∧ inb a3 (hL h17 (hR h17 a0 10))) <|
    gd (hT h17 (hN h) = 101 ∧ inb (nI 2) (hL h17 (hN h))) <|
    lq (wI h17 (hN h) (ix (nI 2)) (hI h17 (hR h17 a0 10) (ix a3))) fun h21 =>
    gd (hT h21 a0 = 13) <|
    bn (f_Sim_priceOf h21 a0 a3) fun h23 r24 =>
    gd (hT h23 (hN h) = 101 ∧ inb (nI 3) (hL h23 (hN h))) <|
    lq (wI h23 (hN h) (ix (nI 3)) r24) fun h26 =>
    gd (hT h26 a0 = 13) <|
    gd (hT h26 (hR h26 a0 11) = 101 ∧ inb a3 (hL h26 (hR h26 a0 11))) <|
    gd (hT h26 (hN h) = 101 ∧ inb (nI 4) (hL h26 (hN h))) <|
    lq (wI h26 (hN h) (ix (nI 4)) (hI h26 (hR h26 a0 11) (ix a3))) fun h30 =>
    lq (hN h) fun x31 =>
    f_Sim_isSame_l657 k600 FU h30 a0 a1 a2 a3 x31 (nI 0)
def f_Sim_isSame_l600 : Nat → AH → Nat → Nat → Int32 → Int32 → Option (AH × Int32)
  | 0, _, _, _, _, _ => none
  | n + 1, h, a0, a1, a2, a3 => f_Sim_isSame_b600 (f_Sim_isSame_l600  n) h a0 a1 a2 a3
def f_Sim_isSame_b562 (k474 : AH → Nat → Nat → Int32 → Int32 → Option (AH × Int32)) (k562 : AH → Nat → Nat → Int32 → Int32 → Nat → Int32 → Option (AH × Int32)) (h : AH) (a0 : Nat) (a1 : Nat) (a2 : Int32) (a3 : Int32) (a5 : Nat) (a6 : Int32)  : Option (AH × Int32) :=
  if (nI 7) ≤ a6 then
    lq (a3 + (nI 1)) fun x2 =>
    k474 h a0 a1 a2 x2
  else
    gd (hT h a1 = 1) <|
    bn (f_QuillBoats_boat h a1 a3 a6) fun h4 r5 =>
    gd (hT h4 a5 = 101 ∧ inb a6 (hL h4 a5)) <|
    if r5 = (hI h4 a5 (ix a6)) then
      lq (a6 + (nI 1)) fun x8 =>
      k562 h4 a0 a1 a2 a3 a5 x8
    else
      some (h4, (nI 0))
def f_Sim_isSame_l562 (k474 : AH → Nat → Nat → Int32 → Int32 → Option (AH × Int32)) : Nat → AH → Nat → Nat → Int32 → Int32 → Nat → Int32 → Option (AH × Int32)
  | 0, _, _, _, _, _, _, _ => none
  | n + 1, h, a0, a1, a2, a3, a5, a6 => f_Sim_isSame_b562 k474 (f_Sim_isSame_l562 k474 n) h a0 a1 a2 a3 a5 a6
def f_Sim_isSame_b547 (k474 : AH → Nat → Nat → Int32 → Int32 → Option (AH × Int32)) (h : AH) (a0 : Nat) (a1 : Nat) (a2 : Int32) (a3 : Int32) (a4 : Nat) (s0 : Nat) (s1 : Nat) (s2 : Int32) (s3 : Int32) : Option (AH × Int32) :=
  gd (hT h s1 = 101 ∧ inb s2 (hL h s1)) <|
  lq (wI h s1 (ix s2) s3) fun h2 =>
  gd (hT h2 a4 = 101 ∧ inb (nI 6) (hL h2 a4)) <|
  gd (hT h2 s0 = 101 ∧ inb (nI 6) (hL h2 s0)) <|
  lq (wI h2 s0 (ix (nI 6)) (hI h2 a4 (ix (nI 6)))) fun h5 =>
  f_Sim_isSame_l562 k474 FU h5 a0 a1 a2 a3 s0 (nI 0)
def f_Sim_isSame_b474 (k474 : AH → Nat → Nat → Int32 → Int32 → Option (AH × Int32)) (h : AH) (a0 : Nat) (a1 : Nat) (a2 : Int32) (a3 : Int32)  : Option (AH × Int32) :=
  gd (hT h a0 = 13) <|
  gd (hT h (hR h a0 16) = 109) <|
  if (nI (hL h (hR h a0 16))) ≤ a3 then
    f_Sim_isSame_l600  FU h a0 a1 a2 (nI 0)
  else
    gd (hT h (hR h a0 16) = 109 ∧ inb a3 (hL h (hR h a0 16))) <|
    lq (hR h (hR h a0 16) (ix a3)) fun x5 =>
    lq (hA h 101 (ix (nI 7))) fun h6 =>
    gd (hT h6 x5 = 101 ∧ inb (nI 0) (hL h6 x5)) <|
    gd (hT h6 (hN h) = 101 ∧ inb (nI 0) (hL h6 (hN h))) <|
    lq (wI h6 (hN h) (ix (nI 0)) (hI h6 x5 (ix (nI 0)))) fun h9 =>
    gd (hT h9 x5 = 101 ∧ inb (nI 1) (hL h9 x5)) <|
    gd (hT h9 (hN h) = 101 ∧ inb (nI 1) (hL h9 (hN h))) <|
    lq (wI h9 (hN h) (ix (nI 1)) (hI h9 x5 (ix (nI 1)))) fun h12 =>
    gd (hT h12 x5 = 101 ∧ inb (nI 2) (hL h12 x5)) <|
    gd (hT h12 (hN h) = 101 ∧ inb (nI 2) (hL h12 (hN h))) <|
    lq (wI h12 (hN h) (ix (nI 2)) (hI h12 x5 (ix (nI 2)))) fun h15 =>
    gd (hT h15 x5 = 101 ∧ inb (nI 3) (hL h15 x5)) <|
    gd (hT h15 (hN h) = 101 ∧ inb (nI 3) (hL h15 (hN h))) <|
    lq (wI h15 (hN h) (ix (nI 3)) (hI h15 x5 (ix (nI 3)))) fun h18 =>
    gd (hT h18 x5 = 101 ∧ inb (nI 4) (hL h18 x5)) <|
    gd (hT h18 (hN h) = 101 ∧ inb (nI 4) (hL h18 (hN h))) <|
    lq (wI h18 (hN h) (ix (nI 4)) (hI h18 x5 (ix (nI 4)))) fun h21 =>
    gd (hT h21 x5 = 101 ∧ inb (nI 4) (hL h21 x5)) <|
    if ¬ (hI h21 x5 (ix (nI 4))) = 0 then
      gd (hT h21 x5 = 101 ∧ inb (nI 5) (hL h21 x5)) <|
      f_Sim_isSame_b547 k474 h21 a0 a1 a2 a3 x5 (hN h) (hN h) (nI 5) (hI h21 x5 (ix (nI 5)))
    else
      f_Sim_isSame_b547 k474 h21 a0 a1 a2 a3 x5 (hN h) (hN h) (nI 5) (-nI 1)
def f_Sim_isSame_l474 : Nat → AH → Nat → Nat → Int32 → Int32 → Option (AH × Int32)
  | 0, _, _, _, _, _ => none
  | n + 1, h, a0, a1, a2, a3 => f_Sim_isSame_b474 (f_Sim_isSame_l474  n) h a0 a1 a2 a3
def f_Sim_isSame_b421 (k409 : AH → Nat → Nat → Int32 → Int32 → Option (AH × Int32)) (k421 : AH → Nat → Nat → Int32 → Int32 → Int32 → Option (AH × Int32)) (h : AH) (a0 : Nat) (a1 : Nat) (a2 : Int32) (a3 : Int32) (a4 : Int32)  : Option (AH × Int32) :=
  if (nI 6) ≤ a4 then
    gd (hT h a0 = 13) <|
    gd (hT h (hR h a0 15) = 109 ∧ inb a3 (hL h (hR h a0 15))) <|
    gd (hT h (hR h (hR h a0 15) (ix a3)) = 101 ∧ inb (nI 3) (hL h (hR h (hR h a0 15) (ix a3)))) <|
    lq (a2 + (hI h (hR h (hR h a0 15) (ix a3)) (ix (nI 3)))) fun x5 =>
    lq (a3 + (nI 1)) fun x6 =>
    k409 h a0 a1 x5 x6
  else
    gd (hT h a1 = 1) <|
    bn (f_QuillBoats_peeler h a1 a3 a4) fun h8 r9 =>
    gd (hT h8 a0 = 13) <|
    gd (hT h8 (hR h8 a0 15) = 109 ∧ inb a3 (hL h8 (hR h8 a0 15))) <|
    gd (hT h8 (hR h8 (hR h8 a0 15) (ix a3)) = 101 ∧ inb a4 (hL h8 (hR h8 (hR h8 a0 15) (ix a3)))) <|
    if r9 = (hI h8 (hR h8 (hR h8 a0 15) (ix a3)) (ix a4)) then
      lq (a4 + (nI 1)) fun x14 =>
      k421 h8 a0 a1 a2 a3 x14
    else
      some (h8, (nI 0))
def f_Sim_isSame_l421 (k409 : AH → Nat → Nat → Int32 → Int32 → Option (AH × Int32)) : Nat → AH → Nat → Nat → Int32 → Int32 → Int32 → Option (AH × Int32)
  | 0, _, _, _, _, _, _ => none
  | n + 1, h, a0, a1, a2, a3, a4 => f_Sim_isSame_b421 k409 (f_Sim_isSame_l421 k409 n) h a0 a1 a2 a3 a4
def f_Sim_isSame_b409 (k409 : AH → Nat → Nat → Int32 → Int32 → Option (AH × Int32)) (h : AH) (a0 : Nat) (a1 : Nat) (a2 : Int32) (a3 : Int32)  : Option (AH × Int32) :=
  gd (hT h a0 = 13) <|
  gd (hT h (hR h a0 15) = 109) <|
  if (nI (hL h (hR h a0 15))) ≤ a3 then
    f_Sim_isSame_l474  FU h a0 a1 a2 (nI 0)
  else
    f_Sim_isSame_l421 k409 FU h a0 a1 a2 a3 (nI 0)
def f_Sim_isSame_l409 : Nat → AH → Nat → Nat → Int32 → Int32 → Option (AH × Int32)
  | 0, _, _, _, _, _ => none
  | n + 1, h, a0, a1, a2, a3 => f_Sim_isSame_b409 (f_Sim_isSame_l409  n) h a0 a1 a2 a3
def f_Sim_isSame_b346 (k184 : AH → Nat → Nat → Int32 → Int32 → Option (AH × Int32)) (k320 : AH → Nat → Nat → Int32 → Int32 → Int32 → Option (AH × Int32)) (k346 : AH → Nat → Nat → Int32 → Int32 → Int32 → Nat → Int32 → Option (AH × Int32)) (h : AH) (a0 : Nat) (a1 : Nat) (a2 : Int32) (a3 : Int32) (a6 : Int32) (a7 : Nat) (a8 : Int32)  : Option (AH × Int32) :=
  if (nI 4) ≤ a8 then
    gd (hT h a1 = 1) <|
    bn (f_QuillBoats_bundle h a1 a3 a6 (nI 4)) fun h3 r4 =>
    bn (f_Sim_grade h3 a7) fun h5 r6 =>
    if r4 = r6 then
      lq (a6 + (nI 1)) fun x8 =>
      k320 h5 a0 a1 a2 a3 x8
    else
      some (h5, (nI 0))
  else
    gd (hT h a1 = 1) <|
    bn (f_QuillBoats_bundle h a1 a3 a6 a8) fun h10 r11 =>
    gd (hT h10 a7 = 101 ∧ inb a8 (hL h10 a7)) <|
    if r11 = (hI h10 a7 (ix a8)) then
      lq (a8 + (nI 1)) fun x14 =>
      k346 h10 a0 a1 a2 a3 a6 a7 x14
    else
      some (h10, (nI 0))
def f_Sim_isSame_l346 (k184 : AH → Nat → Nat → Int32 → Int32 → Option (AH × Int32)) (k320 : AH → Nat → Nat → Int32 → Int32 → Int32 → Option (AH × Int32)) : Nat → AH → Nat → Nat → Int32 → Int32 → Int32 → Nat → Int32 → Option (AH × Int32)
  | 0, _, _, _, _, _, _, _, _ => none
  | n + 1, h, a0, a1, a2, a3, a6, a7, a8 => f_Sim_isSame_b346 k184 k320 (f_Sim_isSame_l346 k184 k320 n) h a0 a1 a2 a3 a6 a7 a8
def f_Sim_isSame_b320 (k184 : AH → Nat → Nat → Int32 → Int32 → Option (AH × Int32)) (k320 : AH → Nat → Nat → Int32 → Int32 → Int32 → Option (AH × Int32)) (h : AH) (a0 : Nat) (a1 : Nat) (a2 : Int32) (a3 : Int32) (a6 : Int32)  : Option (AH × Int32) :=
  gd (hT h a0 = 13) <|
  gd (hT h (hR h a0 14) = 110 ∧ inb a3 (hL h (hR h a0 14))) <|
  gd (hT h (hR h (hR h a0 14) (ix a3)) = 109) <|
  if (nI (hL h (hR h (hR h a0 14) (ix a3)))) ≤ a6 then
    lq (a3 + (nI 1)) fun x5 =>
    k184 h a0 a1 a2 x5
  else
    gd (hT h (hR h (hR h a0 14) (ix a3)) = 109 ∧ inb a6 (hL h (hR h (hR h a0 14) (ix a3)))) <|
    lq (hR h (hR h (hR h a0 14) (ix a3)) (ix a6)) fun x7 =>
    f_Sim_isSame_l346 k184 k320 FU h a0 a1 a2 a3 a6 x7 (nI 0)
def f_Sim_isSame_l320 (k184 : AH → Nat → Nat → Int32 → Int32 → Option (AH × Int32)) : Nat → AH → Nat → Nat → Int32 → Int32 → Int32 → Option (AH × Int32)
  | 0, _, _, _, _, _, _ => none
  | n + 1, h, a0, a1, a2, a3, a6 => f_Sim_isSame_b320 k184 (f_Sim_isSame_l320 k184 n) h a0 a1 a2 a3 a6
def f_Sim_isSame_b288 (k184 : AH → Nat → Nat → Int32 → Int32 → Option (AH × Int32)) (k288 : AH → Nat → Nat → Int32 → Int32 → Nat → Int32 → Option (AH × Int32)) (h : AH) (a0 : Nat) (a1 : Nat) (a2 : Int32) (a3 : Int32) (a5 : Nat) (a6 : Int32)  : Option (AH × Int32) :=
  if (nI 4) ≤ a6 then
    f_Sim_isSame_l320 k184 FU h a0 a1 a2 a3 (nI 0)
  else
    gd (hT h a1 = 1) <|
    bn (f_QuillBoats_rack h a1 a3 a6) fun h3 r4 =>
    gd (hT h3 a5 = 101 ∧ inb a6 (hL h3 a5)) <|
    if r4 = (hI h3 a5 (ix a6)) then
      lq (a6 + (nI 1)) fun x7 =>
      k288 h3 a0 a1 a2 a3 a5 x7
    else
      some (h3, (nI 0))
def f_Sim_isSame_l288 (k184 : AH → Nat → Nat → Int32 → Int32 → Option (AH × Int32)) : Nat → AH → Nat → Nat → Int32 → Int32 → Nat → Int32 → Option (AH × Int32)
  | 0, _, _, _, _, _, _, _ => none
  | n + 1, h, a0, a1, a2, a3, a5, a6 => f_Sim_isSame_b288 k184 (f_Sim_isSame_l288 k184 n) h a0 a1 a2 a3 a5 a6
def f_Sim_isSame_b239 (k184 : AH → Nat → Nat → Int32 → Int32 → Option (AH × Int32)) (k210 : AH → Nat → Nat → Int32 → Int32 → Int32 → Nat → Int32 → Int32 → Option (AH × Int32)) (h : AH) (a0 : Nat) (a1 : Nat) (a2 : Int32) (a3 : Int32) (a5 : Nat) (a6 : Int32) (a7 : Int32) (s0 : Int32) (s1 : Int32) : Option (AH × Int32) :=
  lq (s0 + s1) fun x1 =>
  lq (a7 + (nI 1)) fun x2 =>
  k210 h a0 a1 a2 a3 x1 a5 a6 x2
def f_Sim_isSame_b210 (k184 : AH → Nat → Nat → Int32 → Int32 → Option (AH × Int32)) (k210 : AH → Nat → Nat → Int32 → Int32 → Int32 → Nat → Int32 → Int32 → Option (AH × Int32)) (h : AH) (a0 : Nat) (a1 : Nat) (a2 : Int32) (a3 : Int32) (a4 : Int32) (a5 : Nat) (a6 : Int32) (a7 : Int32)  : Option (AH × Int32) :=
  if a6 ≤ a7 then
    lq (hA h 101 (ix (nI 4))) fun h2 =>
    gd (hT h2 a0 = 13) <|
    gd (hT h2 (hR h2 a0 13) = 101 ∧ inb a3 (hL h2 (hR h2 a0 13))) <|
    gd (hT h2 (hN h) = 101 ∧ inb (nI 0) (hL h2 (hN h))) <|
    lq (wI h2 (hN h) (ix (nI 0)) (hI h2 (hR h2 a0 13) (ix a3))) fun h6 =>
    gd (hT h6 a0 = 13) <|
    bn (f_Sim_room h6 a0 a3) fun h8 r9 =>
    gd (hT h8 (hN h) = 101 ∧ inb (nI 1) (hL h8 (hN h))) <|
    lq (wI h8 (hN h) (ix (nI 1)) r9) fun h11 =>
    gd (hT h11 a0 = 13) <|
    gd (hT h11 (hR h11 a0 14) = 110 ∧ inb a3 (hL h11 (hR h11 a0 14))) <|
    gd (hT h11 (hR h11 (hR h11 a0 14) (ix a3)) = 109) <|
    gd (hT h11 (hN h) = 101 ∧ inb (nI 2) (hL h11 (hN h))) <|
    lq (wI h11 (hN h) (ix (nI 2)) (nI (hL h11 (hR h11 (hR h11 a0 14) (ix a3))))) fun h16 =>
    gd (hT h16 (hN h) = 101 ∧ inb (nI 3) (hL h16 (hN h))) <|
    lq (wI h16 (hN h) (ix (nI 3)) a4) fun h18 =>
    lq (hN h) fun x19 =>
    f_Sim_isSame_l288 k184 FU h18 a0 a1 a2 a3 x19 (nI 0)
  else
    gd (hT h a5 = 109 ∧ inb a7 (hL h a5)) <|
    lq (hR h a5 (ix a7)) fun x21 =>
    gd (hT h x21 = 101 ∧ inb (nI 1) (hL h x21)) <|
    if ¬ (hI h x21 (ix (nI 1))) = a3 then
      f_Sim_isSame_b239 k184 k210 h a0 a1 a2 a3 a5 a6 a7 a4 (nI 0)
    else
      f_Sim_isSame_b239 k184 k210 h a0 a1 a2 a3 a5 a6 a7 a4 (nI 1)
def f_Sim_isSame_l210 (k184 : AH → Nat → Nat → Int32 → Int32 → Option (AH × Int32)) : Nat → AH → Nat → Nat → Int32 → Int32 → Int32 → Nat → Int32 → Int32 → Option (AH × Int32)
  | 0, _, _, _, _, _, _, _, _, _ => none
  | n + 1, h, a0, a1, a2, a3, a4, a5, a6, a7 => f_Sim_isSame_b210 k184 (f_Sim_isSame_l210 k184 n) h a0 a1 a2 a3 a4 a5 a6 a7
def f_Sim_isSame_b184 (k184 : AH → Nat → Nat → Int32 → Int32 → Option (AH × Int32)) (h : AH) (a0 : Nat) (a1 : Nat) (a2 : Int32) (a3 : Int32)  : Option (AH × Int32) :=
  gd (hT h a0 = 13) <|
  gd (hT h (hR h a0 14) = 110) <|
  if (nI (hL h (hR h a0 14))) ≤ a3 then
    f_Sim_isSame_l409  FU h a0 a1 a2 (nI 0)
  else
    lq (hR h a0 15) fun x4 =>
    gd (hT h x4 = 109) <|
    lq (nI (hL h x4)) fun x6 =>
    f_Sim_isSame_l210 k184 FU h a0 a1 a2 a3 (nI 0) x4 x6 (nI 0)
def f_Sim_isSame_l184 : Nat → AH → Nat → Nat → Int32 → Int32 → Option (AH × Int32)
  | 0, _, _, _, _, _ => none
  | n + 1, h, a0, a1, a2, a3 => f_Sim_isSame_b184 (f_Sim_isSame_l184  n) h a0 a1 a2 a3
def f_Sim_isSame_b130 (k63 : AH → Nat → Nat → Int32 → Int32 → Option (AH × Int32)) (k130 : AH → Nat → Nat → Int32 → Int32 → Int32 → Int32 → Option (AH × Int32)) (h : AH) (a0 : Nat) (a1 : Nat) (a2 : Int32) (a3 : Int32) (a4 : Int32) (a5 : Int32)  : Option (AH × Int32) :=
  if (nI 3) ≤ a5 then
    gd (hT h a1 = 1) <|
    bn (f_QuillBoats_garden h a1 a3 (nI 3)) fun h3 r4 =>
    if r4 = a4 then
      lq (a3 + (nI 1)) fun x6 =>
      k63 h3 a0 a1 a2 x6
    else
      some (h3, (nI 0))
  else
    gd (hT h a1 = 1) <|
    bn (f_QuillBoats_garden h a1 a3 a5) fun h8 r9 =>
    gd (hT h8 a0 = 13) <|
    gd (hT h8 (hR h8 a0 12) = 109 ∧ inb a3 (hL h8 (hR h8 a0 12))) <|
    gd (hT h8 (hR h8 (hR h8 a0 12) (ix a3)) = 101 ∧ inb a5 (hL h8 (hR h8 (hR h8 a0 12) (ix a3)))) <|
    if r9 = (hI h8 (hR h8 (hR h8 a0 12) (ix a3)) (ix a5)) then
      lq (a5 + (nI 1)) fun x14 =>
      k130 h8 a0 a1 a2 a3 a4 x14
    else
      some (h8, (nI 0))
def f_Sim_isSame_l130 (k63 : AH → Nat → Nat → Int32 → Int32 → Option (AH × Int32)) : Nat → AH → Nat → Nat → Int32 → Int32 → Int32 → Int32 → Option (AH × Int32)
  | 0, _, _, _, _, _, _, _ => none
  | n + 1, h, a0, a1, a2, a3, a4, a5 => f_Sim_isSame_b130 k63 (f_Sim_isSame_l130 k63 n) h a0 a1 a2 a3 a4 a5
def f_Sim_isSame_b118 (k63 : AH → Nat → Nat → Int32 → Int32 → Option (AH × Int32)) (k89 : AH → Nat → Nat → Int32 → Int32 → Int32 → Nat → Int32 → Int32 → Option (AH × Int32)) (h : AH) (a0 : Nat) (a1 : Nat) (a2 : Int32) (a3 : Int32) (a5 : Nat) (a6 : Int32) (a7 : Int32) (s0 : Int32) (s1 : Int32) : Option (AH × Int32) :=
  lq (s0 + s1) fun x1 =>
  lq (a7 + (nI 1)) fun x2 =>
  k89 h a0 a1 a2 a3 x1 a5 a6 x2
def f_Sim_isSame_b89 (k63 : AH → Nat → Nat → Int32 → Int32 → Option (AH × Int32)) (k89 : AH → Nat → Nat → Int32 → Int32 → Int32 → Nat → Int32 → Int32 → Option (AH × Int32)) (h : AH) (a0 : Nat) (a1 : Nat) (a2 : Int32) (a3 : Int32) (a4 : Int32) (a5 : Nat) (a6 : Int32) (a7 : Int32)  : Option (AH × Int32) :=
  if a6 ≤ a7 then
    f_Sim_isSame_l130 k63 FU h a0 a1 a2 a3 a4 (nI 0)
  else
    gd (hT h a5 = 109 ∧ inb a7 (hL h a5)) <|
    lq (hR h a5 (ix a7)) fun x3 =>
    gd (hT h x3 = 101 ∧ inb (nI 0) (hL h x3)) <|
    if ¬ (hI h x3 (ix (nI 0))) = a3 then
      f_Sim_isSame_b118 k63 k89 h a0 a1 a2 a3 a5 a6 a7 a4 (nI 0)
    else
      f_Sim_isSame_b118 k63 k89 h a0 a1 a2 a3 a5 a6 a7 a4 (nI 1)
def f_Sim_isSame_l89 (k63 : AH → Nat → Nat → Int32 → Int32 → Option (AH × Int32)) : Nat → AH → Nat → Nat → Int32 → Int32 → Int32 → Nat → Int32 → Int32 → Option (AH × Int32)
  | 0, _, _, _, _, _, _, _, _, _ => none
  | n + 1, h, a0, a1, a2, a3, a4, a5, a6, a7 => f_Sim_isSame_b89 k63 (f_Sim_isSame_l89 k63 n) h a0 a1 a2 a3 a4 a5 a6 a7
def f_Sim_isSame_b63 (k63 : AH → Nat → Nat → Int32 → Int32 → Option (AH × Int32)) (h : AH) (a0 : Nat) (a1 : Nat) (a2 : Int32) (a3 : Int32)  : Option (AH × Int32) :=
  gd (hT h a0 = 13) <|
  gd (hT h (hR h a0 12) = 109) <|
  if (nI (hL h (hR h a0 12))) ≤ a3 then
    f_Sim_isSame_l184  FU h a0 a1 a2 (nI 0)
  else
    lq (hR h a0 15) fun x4 =>
    gd (hT h x4 = 109) <|
    lq (nI (hL h x4)) fun x6 =>
    f_Sim_isSame_l89 k63 FU h a0 a1 a2 a3 (nI 0) x4 x6 (nI 0)
def f_Sim_isSame_l63 : Nat → AH → Nat → Nat → Int32 → Int32 → Option (AH × Int32)
  | 0, _, _, _, _, _ => none
  | n + 1, h, a0, a1, a2, a3 => f_Sim_isSame_b63 (f_Sim_isSame_l63  n) h a0 a1 a2 a3
def f_Sim_isSame_b31 (k31 : AH → Nat → Nat → Int32 → Option (AH × Int32)) (h : AH) (a0 : Nat) (a1 : Nat) (a2 : Int32)  : Option (AH × Int32) :=
  if (nI 12) ≤ a2 then
    f_Sim_isSame_l63  FU h a0 a1 (nI 0) (nI 0)
  else
    gd (hT h a1 = 1) <|
    bn (f_QuillBoats_shade h a1 a2) fun h3 r4 =>
    gd (hT h3 a0 = 13) <|
    gd (hT h3 (hR h3 a0 7) = 101 ∧ inb a2 (hL h3 (hR h3 a0 7))) <|
    if r4 = (hI h3 (hR h3 a0 7) (ix a2)) then
      lq (a2 + (nI 1)) fun x8 =>
      k31 h3 a0 a1 x8
    else
      some (h3, (nI 0))
def f_Sim_isSame_l31 : Nat → AH → Nat → Nat → Int32 → Option (AH × Int32)
  | 0, _, _, _, _ => none
  | n + 1, h, a0, a1, a2 => f_Sim_isSame_b31 (f_Sim_isSame_l31  n) h a0 a1 a2
def f_Sim_isSame_b2 (k2 : AH → Nat → Nat → Int32 → Option (AH × Int32)) (h : AH) (a0 : Nat) (a1 : Nat) (a2 : Int32)  : Option (AH × Int32) :=
  if (nI 16) ≤ a2 then
    f_Sim_isSame_l31  FU h a0 a1 (nI 0)
  else
    gd (hT h a1 = 1) <|
    bn (f_QuillBoats_count h a1 a2) fun h3 r4 =>
    gd (hT h3 a0 = 13) <|
    bn (f_Sim_counted h3 a0 a2) fun h6 r7 =>
    if r4 = r7 then
      lq (a2 + (nI 1)) fun x9 =>
      k2 h6 a0 a1 x9
    else
      some (h6, (nI 0))
def f_Sim_isSame_l2 : Nat → AH → Nat → Nat → Int32 → Option (AH × Int32)
  | 0, _, _, _, _ => none
  | n + 1, h, a0, a1, a2 => f_Sim_isSame_b2 (f_Sim_isSame_l2  n) h a0 a1 a2
def f_Sim_isSame (h : AH) (a0 : Nat) (a1 : Nat) : Option (AH × Int32) :=
  f_Sim_isSame_l2  FU h a0 a1 (nI 0)
def f_Law_law_b937 (k28 : AH → Nat → Nat → Nat → Int32 → Option (AH × Int32)) (k937 : AH → Nat → Nat → Nat → Int32 → Nat → Int32 → Option (AH × Int32)) (h : AH) (a0 : Nat) (a1 : Nat) (a2 : Nat) (a3 : Int32) (a10 : Nat) (a13 : Int32)  : Option (AH × Int32) :=
  if (nI 13) ≤ a13 then
    lq (a3 + (nI 1)) fun x2 =>
    k28 h a0 a1 a2 x2
  else
    gd (hT h a1 = 1) <|
    bn (f_QuillBoats_count h a1 a13) fun h4 r5 =>
    gd (hT h4 a10 = 101 ∧ inb a13 (hL h4 a10)) <|
    if r5 = (hI h4 a10 (ix a13)) then
      lq (a13 + (nI 1)) fun x8 =>
      k937 h4 a0 a1 a2 a3 a10 x8
    else
      some (h4, (nI 0))
def f_Law_law_l937 (k28 : AH → Nat → Nat → Nat → Int32 → Option (AH × Int32)) : Nat → AH → Nat → Nat → Nat → Int32 → Nat → Int32 → Option (AH × Int32)
  | 0, _, _, _, _, _, _, _ => none
  | n + 1, h, a0, a1, a2, a3, a10, a13 => f_Law_law_b937 k28 (f_Law_law_l937 k28 n) h a0 a1 a2 a3 a10 a13
def f_Law_law_b843 (k28 : AH → Nat → Nat → Nat → Int32 → Option (AH × Int32)) (k843 : AH → Nat → Nat → Nat → Int32 → Nat → Int32 → Option (AH × Int32)) (h : AH) (a0 : Nat) (a1 : Nat) (a2 : Nat) (a3 : Int32) (a10 : Nat) (a11 : Int32)  : Option (AH × Int32) :=
  if (nI 13) ≤ a11 then
    gd (hT h a1 = 1) <|
    bn (f_QuillBoats_count h a1 (nI 10)) fun h3 r4 =>
    gd (hT h3 a1 = 1) <|
    bn (f_QuillBoats_pass h3 a1 (nI 1)) fun h6 r7 =>
    gd (hT h6 a2 = 13) <|
    bv (f_Sim_pass h6 a2) fun h9 =>
    gd (hT h9 a1 = 1) <|
    bn (f_QuillBoats_count h9 a1 (nI 1)) fun h11 r12 =>
    gd (hT h11 a10 = 101 ∧ inb (nI 1) (hL h11 a10)) <|
    if ¬ r12 = (hI h11 a10 (ix (nI 1))) then
      some (h11, (nI 0))
    else
      gd (hT h11 a1 = 1) <|
      bn (f_QuillBoats_count h11 a1 (nI 10)) fun h16 r17 =>
      if ¬ r17 = (r4 + r7) then
        some (h16, (nI 0))
      else
        gd (hT h16 a1 = 1) <|
        bn (f_QuillBoats_count h16 a1 (nI 1)) fun h20 r21 =>
        if r21 < 0 then
          some (h20, (nI 0))
        else
          gd (hT h20 a1 = 1) <|
          bn (f_QuillBoats_count h20 a1 (nI 1)) fun h24 r25 =>
          if r25 ≤ (nI 99999) then
            f_Law_law_l937 k28 FU h24 a0 a1 a2 a3 a10 (nI 7)
          else
            some (h24, (nI 0))
  else
    gd (hT h a1 = 1) <|
    bn (f_QuillBoats_foresee h a1 (nI 1) a11) fun h28 r29 =>
    gd (hT h28 a10 = 101 ∧ inb a11 (hL h28 a10)) <|
    lq (wI h28 a10 (ix a11) r29) fun h31 =>
    lq (a11 + (nI 1)) fun x32 =>
    k843 h31 a0 a1 a2 a3 a10 x32
def f_Law_law_l843 (k28 : AH → Nat → Nat → Nat → Int32 → Option (AH × Int32)) : Nat → AH → Nat → Nat → Nat → Int32 → Nat → Int32 → Option (AH × Int32)
  | 0, _, _, _, _, _, _, _ => none
  | n + 1, h, a0, a1, a2, a3, a10, a11 => f_Law_law_b843 k28 (f_Law_law_l843 k28 n) h a0 a1 a2 a3 a10 a11
def f_Law_law_b651 (k28 : AH → Nat → Nat → Nat → Int32 → Option (AH × Int32)) (k651 : AH → Nat → Nat → Nat → Int32 → Int32 → Int32 → Int32 → Int32 → Int32 → Int32 → Option (AH × Int32)) (h : AH) (a0 : Nat) (a1 : Nat) (a2 : Nat) (a3 : Int32) (a5 : Int32) (a6 : Int32) (a7 : Int32) (a8 : Int32) (a9 : Int32) (a10 : Int32)  : Option (AH × Int32) :=
  if (nI 4) ≤ a10 then
    gd (hT h a1 = 1) <|
    bn (f_QuillBoats_count h a1 (nI 10)) fun h3 r4 =>
    if ¬ a5 = r4 then
      some (h3, (nI 0))
    else
      gd (hT h3 a1 = 1) <|
      bn (f_QuillBoats_count h3 a1 (nI 11)) fun h7 r8 =>
      if ¬ a6 = r8 then
        some (h7, (nI 0))
      else
        gd (hT h7 a1 = 1) <|
        bn (f_QuillBoats_count h7 a1 (nI 7)) fun h11 r12 =>
        if ¬ a7 = r12 then
          some (h11, (nI 0))
        else
          gd (hT h11 a1 = 1) <|
          bn (f_QuillBoats_count h11 a1 (nI 8)) fun h15 r16 =>
          if ¬ a8 = r16 then
            some (h15, (nI 0))
          else
            gd (hT h15 a1 = 1) <|
            bn (f_QuillBoats_count h15 a1 (nI 9)) fun h19 r20 =>
            if a9 = r20 then
              lq (hA h19 101 (ix (nI 13))) fun h22 =>
              lq (hN h19) fun x23 =>
              gd (hT h22 a1 = 1) <|
              bn (f_QuillBoats_foresee h22 a1 (nI 1) (nI 1)) fun h25 r26 =>
              gd (hT h25 x23 = 101 ∧ inb (nI 1) (hL h25 x23)) <|
              lq (wI h25 x23 (ix (nI 1)) r26) fun h28 =>
              f_Law_law_l843 k28 FU h28 a0 a1 a2 a3 x23 (nI 7)
            else
              some (h19, (nI 0))
  else
    gd (hT h a1 = 1) <|
    bn (f_QuillBoats_grade h a1 a10 (nI 0)) fun h30 r31 =>
    lq (a7 + r31) fun x32 =>
    gd (hT h30 a1 = 1) <|
    bn (f_QuillBoats_grade h30 a1 a10 (nI 4)) fun h34 r35 =>
    lq (a6 + r35) fun x36 =>
    gd (hT h34 a1 = 1) <|
    bn (f_QuillBoats_grade h34 a1 a10 (nI 2)) fun h38 r39 =>
    if r39 < 0 then
      some (h38, (nI 0))
    else
      gd (hT h38 a1 = 1) <|
      bn (f_QuillBoats_grade h38 a1 a10 (nI 3)) fun h42 r43 =>
      gd (hT h42 a1 = 1) <|
      bn (f_QuillBoats_grade h42 a1 a10 (nI 1)) fun h45 r46 =>
      gd (hT h45 a1 = 1) <|
      bn (f_QuillBoats_grade h45 a1 a10 (nI 2)) fun h48 r49 =>
      bn (f_Math_max h48 (nI 0) (r46 - (r49 / (nI 4)))) fun h50 r51 =>
      if ¬ r43 = r51 then
        some (h50, (nI 0))
      else
        gd (hT h50 a1 = 1) <|
        bn (f_QuillBoats_worth h50 a1 a10 (nI 1)) fun h54 r55 =>
        gd (hT h54 a1 = 1) <|
        bn (f_QuillBoats_grade h54 a1 a10 (nI 3)) fun h57 r58 =>
        if ¬ r55 = r58 then
          some (h57, (nI 0))
        else
          gd (hT h57 a1 = 1) <|
          bn (f_QuillBoats_worth h57 a1 a10 (nI 5)) fun h61 r62 =>
          gd (hT h61 a1 = 1) <|
          bn (f_QuillBoats_grade h61 a1 a10 (nI 3)) fun h64 r65 =>
          if r62 ≤ ((nI 5) * r65) then
            lq (a10 + (nI 1)) fun x67 =>
            k651 h64 a0 a1 a2 a3 a5 x36 x32 a8 a9 x67
          else
            some (h64, (nI 0))
def f_Law_law_l651 (k28 : AH → Nat → Nat → Nat → Int32 → Option (AH × Int32)) : Nat → AH → Nat → Nat → Nat → Int32 → Int32 → Int32 → Int32 → Int32 → Int32 → Int32 → Option (AH × Int32)
  | 0, _, _, _, _, _, _, _, _, _, _, _ => none
  | n + 1, h, a0, a1, a2, a3, a5, a6, a7, a8, a9, a10 => f_Law_law_b651 k28 (f_Law_law_l651 k28 n) h a0 a1 a2 a3 a5 a6 a7 a8 a9 a10
def f_Law_law_b637 (k28 : AH → Nat → Nat → Nat → Int32 → Option (AH × Int32)) (k468 : AH → Nat → Nat → Nat → Int32 → Int32 → Int32 → Int32 → Int32 → Int32 → Int32 → Option (AH × Int32)) (h : AH) (a0 : Nat) (a1 : Nat) (a2 : Nat) (a3 : Int32) (a5 : Int32) (a6 : Int32) (a7 : Int32) (a8 : Int32) (a9 : Int32) (a10 : Int32) (s0 : Int32) (s1 : Int32) : Option (AH × Int32) :=
  if s0 = s1 then
    lq (a10 + (nI 1)) fun x2 =>
    k468 h a0 a1 a2 a3 a5 a6 a7 a8 a9 x2
  else
    some (h, (nI 0))
def f_Law_law_b623 (k28 : AH → Nat → Nat → Nat → Int32 → Option (AH × Int32)) (k468 : AH → Nat → Nat → Nat → Int32 → Int32 → Int32 → Int32 → Int32 → Int32 → Int32 → Option (AH × Int32)) (h : AH) (a0 : Nat) (a1 : Nat) (a2 : Nat) (a3 : Int32) (a5 : Int32) (a6 : Int32) (a7 : Int32) (a8 : Int32) (a9 : Int32) (a10 : Int32) (s0 : Int32) : Option (AH × Int32) :=
  gd (hT h a1 = 1) <|
  bn (f_QuillBoats_until h a1 a10) fun h2 r3 =>
  if ¬ r3 = 0 then
    f_Law_law_b637 k28 k468 h2 a0 a1 a2 a3 a5 a6 a7 a8 a9 a10 s0 (nI 0)
  else
    f_Law_law_b637 k28 k468 h2 a0 a1 a2 a3 a5 a6 a7 a8 a9 a10 s0 (nI 1)
def f_Law_law_b610 (k28 : AH → Nat → Nat → Nat → Int32 → Option (AH × Int32)) (k468 : AH → Nat → Nat → Nat → Int32 → Int32 → Int32 → Int32 → Int32 → Int32 → Int32 → Option (AH × Int32)) (h : AH) (a0 : Nat) (a1 : Nat) (a2 : Nat) (a3 : Int32) (a5 : Int32) (a6 : Int32) (a7 : Int32) (a8 : Int32) (a9 : Int32) (a10 : Int32) (a12 : Int32) (s0 : Int32) (s1 : Int32) : Option (AH × Int32) :=
  if ¬ s0 = s1 then
    some (h, (nI 0))
  else
    if ¬ a12 = 0 then
      f_Law_law_b623 k28 k468 h a0 a1 a2 a3 a5 a6 a7 a8 a9 a10 (nI 0)
    else
      f_Law_law_b623 k28 k468 h a0 a1 a2 a3 a5 a6 a7 a8 a9 a10 (nI 1)
def f_Law_law_b595 (k28 : AH → Nat → Nat → Nat → Int32 → Option (AH × Int32)) (k468 : AH → Nat → Nat → Nat → Int32 → Int32 → Int32 → Int32 → Int32 → Int32 → Int32 → Option (AH × Int32)) (h : AH) (a0 : Nat) (a1 : Nat) (a2 : Nat) (a3 : Int32) (a5 : Int32) (a6 : Int32) (a7 : Int32) (a8 : Int32) (a9 : Int32) (a10 : Int32) (a12 : Int32) (s0 : Int32) : Option (AH × Int32) :=
  gd (hT h a1 = 1) <|
  bn (f_QuillBoats_boat h a1 a10 (nI 4)) fun h2 r3 =>
  if ¬ r3 = 0 then
    f_Law_law_b610 k28 k468 h2 a0 a1 a2 a3 a5 a6 a7 a8 a9 a10 a12 s0 (nI 0)
  else
    f_Law_law_b610 k28 k468 h2 a0 a1 a2 a3 a5 a6 a7 a8 a9 a10 a12 s0 (nI 1)
def f_Law_law_b560 (k28 : AH → Nat → Nat → Nat → Int32 → Option (AH × Int32)) (k468 : AH → Nat → Nat → Nat → Int32 → Int32 → Int32 → Int32 → Int32 → Int32 → Int32 → Option (AH × Int32)) (h : AH) (a0 : Nat) (a1 : Nat) (a2 : Nat) (a3 : Int32) (a5 : Int32) (a6 : Int32) (a7 : Int32) (a8 : Int32) (a9 : Int32) (a10 : Int32) (a12 : Int32) (s0 : Int32) (s1 : Int32) : Option (AH × Int32) :=
  if ¬ s0 = s1 then
    some (h, (nI 0))
  else
    gd (hT h a1 = 1) <|
    bn (f_QuillBoats_boat h a1 a10 (nI 4)) fun h3 r4 =>
    gd (hT h3 a1 = 1) <|
    bn (f_QuillBoats_boat h3 a1 a10 (nI 0)) fun h6 r7 =>
    if r7 < r4 then
      some (h6, (nI 0))
    else
      gd (hT h6 a1 = 1) <|
      bn (f_QuillBoats_boat h6 a1 a10 (nI 5)) fun h10 r11 =>
      if 0 ≤ r11 then
        f_Law_law_b595 k28 k468 h10 a0 a1 a2 a3 a5 a6 a7 a8 a9 a10 a12 (nI 0)
      else
        f_Law_law_b595 k28 k468 h10 a0 a1 a2 a3 a5 a6 a7 a8 a9 a10 a12 (nI 1)
def f_Law_law_b545 (k28 : AH → Nat → Nat → Nat → Int32 → Option (AH × Int32)) (k468 : AH → Nat → Nat → Nat → Int32 → Int32 → Int32 → Int32 → Int32 → Int32 → Int32 → Option (AH × Int32)) (h : AH) (a0 : Nat) (a1 : Nat) (a2 : Nat) (a3 : Int32) (a5 : Int32) (a6 : Int32) (a7 : Int32) (a8 : Int32) (a9 : Int32) (a10 : Int32) (a12 : Int32) (s0 : Int32) : Option (AH × Int32) :=
  gd (hT h a1 = 1) <|
  bn (f_QuillBoats_boat h a1 a10 (nI 4)) fun h2 r3 =>
  if r3 ≤ 0 then
    f_Law_law_b560 k28 k468 h2 a0 a1 a2 a3 a5 a6 a7 a8 a9 a10 a12 s0 (nI 0)
  else
    f_Law_law_b560 k28 k468 h2 a0 a1 a2 a3 a5 a6 a7 a8 a9 a10 a12 s0 (nI 1)
def f_Law_law_b534 (k28 : AH → Nat → Nat → Nat → Int32 → Option (AH × Int32)) (k468 : AH → Nat → Nat → Nat → Int32 → Int32 → Int32 → Int32 → Int32 → Int32 → Int32 → Option (AH × Int32)) (h : AH) (a0 : Nat) (a1 : Nat) (a2 : Nat) (a3 : Int32) (a5 : Int32) (a6 : Int32) (a7 : Int32) (a8 : Int32) (a9 : Int32) (a10 : Int32) (a12 : Int32)  : Option (AH × Int32) :=
  if ¬ a12 = (nI 1) then
    f_Law_law_b545 k28 k468 h a0 a1 a2 a3 a5 a6 a7 a8 a9 a10 a12 (nI 0)
  else
    f_Law_law_b545 k28 k468 h a0 a1 a2 a3 a5 a6 a7 a8 a9 a10 a12 (nI 1)
def f_Law_law_b468 (k28 : AH → Nat → Nat → Nat → Int32 → Option (AH × Int32)) (k468 : AH → Nat → Nat → Nat → Int32 → Int32 → Int32 → Int32 → Int32 → Int32 → Int32 → Option (AH × Int32)) (h : AH) (a0 : Nat) (a1 : Nat) (a2 : Nat) (a3 : Int32) (a5 : Int32) (a6 : Int32) (a7 : Int32) (a8 : Int32) (a9 : Int32) (a10 : Int32)  : Option (AH × Int32) :=
  gd (hT h a1 = 1) <|
  bn (f_QuillBoats_count h a1 (nI 5)) fun h2 r3 =>
  if r3 ≤ a10 then
    f_Law_law_l651 k28 FU h2 a0 a1 a2 a3 a5 a6 a7 a8 a9 (nI 0)
  else
    gd (hT h2 a1 = 1) <|
    bn (f_QuillBoats_boat h2 a1 a10 (nI 2)) fun h6 r7 =>
    gd (hT h6 a1 = 1) <|
    bn (f_QuillBoats_boat h6 a1 a10 (nI 3)) fun h9 r10 =>
    gd (hT h9 a1 = 1) <|
    bn (f_QuillBoats_boat h9 a1 a10 (nI 4)) fun h12 r13 =>
    lq (a9 + r13) fun x14 =>
    if r7 < 0 then
      some (h12, (nI 0))
    else
      gd (hT h12 a1 = 1) <|
      bn (f_QuillBoats_count h12 a1 (nI 13)) fun h17 r18 =>
      if r18 < r7 then
        some (h17, (nI 0))
      else
        if ¬ r10 = 0 then
          f_Law_law_b534 k28 k468 h17 a0 a1 a2 a3 a5 a6 a7 a8 x14 a10 r10
        else
          if ¬ r7 = 0 then
            some (h17, (nI 0))
          else
            f_Law_law_b534 k28 k468 h17 a0 a1 a2 a3 a5 a6 a7 a8 x14 a10 r10
def f_Law_law_l468 (k28 : AH → Nat → Nat → Nat → Int32 → Option (AH × Int32)) : Nat → AH → Nat → Nat → Nat → Int32 → Int32 → Int32 → Int32 → Int32 → Int32 → Int32 → Option (AH × Int32)
  | 0, _, _, _, _, _, _, _, _, _, _, _ => none
  | n + 1, h, a0, a1, a2, a3, a5, a6, a7, a8, a9, a10 => f_Law_law_b468 k28 (f_Law_law_l468 k28 n) h a0 a1 a2 a3 a5 a6 a7 a8 a9 a10
def f_Law_law_b413 (k28 : AH → Nat → Nat → Nat → Int32 → Option (AH × Int32)) (k413 : AH → Nat → Nat → Nat → Int32 → Int32 → Int32 → Int32 → Int32 → Int32 → Int32 → Option (AH × Int32)) (h : AH) (a0 : Nat) (a1 : Nat) (a2 : Nat) (a3 : Int32) (a5 : Int32) (a6 : Int32) (a7 : Int32) (a8 : Int32) (a9 : Int32) (a10 : Int32)  : Option (AH × Int32) :=
  gd (hT h a1 = 1) <|
  bn (f_QuillBoats_count h a1 (nI 4)) fun h2 r3 =>
  if r3 ≤ a10 then
    f_Law_law_l468 k28 FU h2 a0 a1 a2 a3 a5 a6 a7 a8 a9 (nI 0)
  else
    gd (hT h2 a1 = 1) <|
    bn (f_QuillBoats_peeler h2 a1 a10 (nI 4)) fun h6 r7 =>
    lq (a5 + r7) fun x8 =>
    gd (hT h6 a1 = 1) <|
    bn (f_QuillBoats_peeler h6 a1 a10 (nI 3)) fun h10 r11 =>
    if r11 < 0 then
      some (h10, (nI 0))
    else
      gd (hT h10 a1 = 1) <|
      bn (f_QuillBoats_peeler h10 a1 a10 (nI 3)) fun h14 r15 =>
      if r15 ≤ (nI 20) then
        lq (a10 + (nI 1)) fun x17 =>
        k413 h14 a0 a1 a2 a3 x8 a6 a7 a8 a9 x17
      else
        some (h14, (nI 0))
def f_Law_law_l413 (k28 : AH → Nat → Nat → Nat → Int32 → Option (AH × Int32)) : Nat → AH → Nat → Nat → Nat → Int32 → Int32 → Int32 → Int32 → Int32 → Int32 → Int32 → Option (AH × Int32)
  | 0, _, _, _, _, _, _, _, _, _, _, _ => none
  | n + 1, h, a0, a1, a2, a3, a5, a6, a7, a8, a9, a10 => f_Law_law_b413 k28 (f_Law_law_l413 k28 n) h a0 a1 a2 a3 a5 a6 a7 a8 a9 a10
def f_Law_law_b374 (k28 : AH → Nat → Nat → Nat → Int32 → Option (AH × Int32)) (k195 : AH → Nat → Nat → Nat → Int32 → Int32 → Int32 → Int32 → Int32 → Int32 → Int32 → Option (AH × Int32)) (k217 : AH → Nat → Nat → Nat → Int32 → Int32 → Int32 → Int32 → Int32 → Int32 → Int32 → Int32 → Int32 → Option (AH × Int32)) (h : AH) (a0 : Nat) (a1 : Nat) (a2 : Nat) (a3 : Int32) (a5 : Int32) (a6 : Int32) (a7 : Int32) (a8 : Int32) (a9 : Int32) (a10 : Int32) (a11 : Int32) (a12 : Int32) (s0 : Int32) (s1 : Int32) : Option (AH × Int32) :=
  if s1 ≤ s0 then
    lq (a12 + (nI 1)) fun x2 =>
    k217 h a0 a1 a2 a3 a5 a6 a7 a8 a9 a10 a11 x2
  else
    some (h, (nI 0))
def f_Law_law_b217 (k28 : AH → Nat → Nat → Nat → Int32 → Option (AH × Int32)) (k195 : AH → Nat → Nat → Nat → Int32 → Int32 → Int32 → Int32 → Int32 → Int32 → Int32 → Option (AH × Int32)) (k217 : AH → Nat → Nat → Nat → Int32 → Int32 → Int32 → Int32 → Int32 → Int32 → Int32 → Int32 → Int32 → Option (AH × Int32)) (h : AH) (a0 : Nat) (a1 : Nat) (a2 : Nat) (a3 : Int32) (a5 : Int32) (a6 : Int32) (a7 : Int32) (a8 : Int32) (a9 : Int32) (a10 : Int32) (a11 : Int32) (a12 : Int32)  : Option (AH × Int32) :=
  gd (hT h a1 = 1) <|
  bn (f_QuillBoats_rack h a1 a10 (nI 2)) fun h2 r3 =>
  if r3 ≤ a12 then
    gd (hT h2 a1 = 1) <|
    bn (f_QuillBoats_rack h2 a1 a10 (nI 1)) fun h6 r7 =>
    if ¬ a11 = r7 then
      some (h6, (nI 0))
    else
      if 0 ≤ a11 then
        lq (a10 + (nI 1)) fun x10 =>
        k195 h6 a0 a1 a2 a3 a5 a6 a7 a8 a9 x10
      else
        some (h6, (nI 0))
  else
    gd (hT h2 a1 = 1) <|
    bn (f_QuillBoats_bundle h2 a1 a10 a12 (nI 0)) fun h12 r13 =>
    lq (a11 - r13) fun x14 =>
    lq (a8 + r13) fun x15 =>
    if r13 < (nI 1) then
      some (h12, (nI 0))
    else
      gd (hT h12 a1 = 1) <|
      bn (f_QuillBoats_bundle h12 a1 a10 a12 (nI 2)) fun h18 r19 =>
      gd (hT h18 a1 = 1) <|
      bn (f_QuillBoats_bundle h18 a1 a10 a12 (nI 1)) fun h21 r22 =>
      if ((nI 3) * r22) ≤ r19 then
        some (h21, (nI 0))
      else
        gd (hT h21 a1 = 1) <|
        bn (f_QuillBoats_bundle h21 a1 a10 a12 (nI 4)) fun h25 r26 =>
        gd (hT h25 a1 = 1) <|
        bn (f_QuillBoats_bundle h25 a1 a10 a12 (nI 1)) fun h28 r29 =>
        if r26 < ((r29 - (nI 1)) / (nI 3)) then
          some (h28, (nI 0))
        else
          gd (hT h28 a1 = 1) <|
          bn (f_QuillBoats_bundle h28 a1 a10 a12 (nI 4)) fun h32 r33 =>
          if r33 ≤ (nI 3) then
            gd (hT h32 a1 = 1) <|
            bn (f_QuillBoats_dry h32 a1 a10 a12 (nI 0)) fun h36 r37 =>
            if r37 = 0 then
              some (h36, (nI 0))
            else
              if (nI 300) < r37 then
                some (h36, (nI 0))
              else
                gd (hT h36 a1 = 1) <|
                bn (f_QuillBoats_dry h36 a1 a10 a12 (nI 1)) fun h41 r42 =>
                if 0 ≤ r37 then
                  gd (hT h41 a1 = 1) <|
                  bn (f_QuillBoats_bundle h41 a1 a10 a12 (nI 4)) fun h45 r46 =>
                  f_Law_law_b374 k28 k195 k217 h45 a0 a1 a2 a3 a5 a6 a7 x15 a9 a10 x14 a12 r42 r46
                else
                  f_Law_law_b374 k28 k195 k217 h41 a0 a1 a2 a3 a5 a6 a7 x15 a9 a10 x14 a12 r42 (-nI 1)
          else
            some (h32, (nI 0))
def f_Law_law_l217 (k28 : AH → Nat → Nat → Nat → Int32 → Option (AH × Int32)) (k195 : AH → Nat → Nat → Nat → Int32 → Int32 → Int32 → Int32 → Int32 → Int32 → Int32 → Option (AH × Int32)) : Nat → AH → Nat → Nat → Nat → Int32 → Int32 → Int32 → Int32 → Int32 → Int32 → Int32 → Int32 → Int32 → Option (AH × Int32)
  | 0, _, _, _, _, _, _, _, _, _, _, _, _, _ => none
  | n + 1, h, a0, a1, a2, a3, a5, a6, a7, a8, a9, a10, a11, a12 => f_Law_law_b217 k28 k195 (f_Law_law_l217 k28 k195 n) h a0 a1 a2 a3 a5 a6 a7 a8 a9 a10 a11 a12
def f_Law_law_b195 (k28 : AH → Nat → Nat → Nat → Int32 → Option (AH × Int32)) (k195 : AH → Nat → Nat → Nat → Int32 → Int32 → Int32 → Int32 → Int32 → Int32 → Int32 → Option (AH × Int32)) (h : AH) (a0 : Nat) (a1 : Nat) (a2 : Nat) (a3 : Int32) (a5 : Int32) (a6 : Int32) (a7 : Int32) (a8 : Int32) (a9 : Int32) (a10 : Int32)  : Option (AH × Int32) :=
  gd (hT h a1 = 1) <|
  bn (f_QuillBoats_count h a1 (nI 3)) fun h2 r3 =>
  if r3 ≤ a10 then
    f_Law_law_l413 k28 FU h2 a0 a1 a2 a3 a5 a6 a7 a8 a9 (nI 0)
  else
    gd (hT h2 a1 = 1) <|
    bn (f_QuillBoats_rack h2 a1 a10 (nI 0)) fun h6 r7 =>
    f_Law_law_l217 k28 k195 FU h6 a0 a1 a2 a3 a5 a6 a7 a8 a9 a10 r7 (nI 0)
def f_Law_law_l195 (k28 : AH → Nat → Nat → Nat → Int32 → Option (AH × Int32)) : Nat → AH → Nat → Nat → Nat → Int32 → Int32 → Int32 → Int32 → Int32 → Int32 → Int32 → Option (AH × Int32)
  | 0, _, _, _, _, _, _, _, _, _, _, _ => none
  | n + 1, h, a0, a1, a2, a3, a5, a6, a7, a8, a9, a10 => f_Law_law_b195 k28 (f_Law_law_l195 k28 n) h a0 a1 a2 a3 a5 a6 a7 a8 a9 a10
def f_Law_law_b152 (k28 : AH → Nat → Nat → Nat → Int32 → Option (AH × Int32)) (k152 : AH → Nat → Nat → Nat → Int32 → Int32 → Int32 → Int32 → Int32 → Int32 → Int32 → Option (AH × Int32)) (h : AH) (a0 : Nat) (a1 : Nat) (a2 : Nat) (a3 : Int32) (a5 : Int32) (a6 : Int32) (a7 : Int32) (a8 : Int32) (a9 : Int32) (a10 : Int32)  : Option (AH × Int32) :=
  gd (hT h a1 = 1) <|
  bn (f_QuillBoats_count h a1 (nI 2)) fun h2 r3 =>
  if r3 ≤ a10 then
    f_Law_law_l195 k28 FU h2 a0 a1 a2 a3 a5 a6 a7 a8 a9 (nI 0)
  else
    gd (hT h2 a1 = 1) <|
    bn (f_QuillBoats_garden h2 a1 a10 (nI 0)) fun h6 r7 =>
    if r7 < 0 then
      some (h6, (nI 0))
    else
      gd (hT h6 a1 = 1) <|
      bn (f_QuillBoats_garden h6 a1 a10 (nI 0)) fun h10 r11 =>
      if r11 ≤ (nI 99) then
        lq (a10 + (nI 1)) fun x13 =>
        k152 h10 a0 a1 a2 a3 a5 a6 a7 a8 a9 x13
      else
        some (h10, (nI 0))
def f_Law_law_l152 (k28 : AH → Nat → Nat → Nat → Int32 → Option (AH × Int32)) : Nat → AH → Nat → Nat → Nat → Int32 → Int32 → Int32 → Int32 → Int32 → Int32 → Int32 → Option (AH × Int32)
  | 0, _, _, _, _, _, _, _, _, _, _, _ => none
  | n + 1, h, a0, a1, a2, a3, a5, a6, a7, a8, a9, a10 => f_Law_law_b152 k28 (f_Law_law_l152 k28 n) h a0 a1 a2 a3 a5 a6 a7 a8 a9 a10
def f_Law_law_b60 (k28 : AH → Nat → Nat → Nat → Int32 → Option (AH × Int32)) (k60 : AH → Nat → Nat → Nat → Int32 → Int32 → Int32 → Option (AH × Int32)) (h : AH) (a0 : Nat) (a1 : Nat) (a2 : Nat) (a3 : Int32) (a4 : Int32) (a5 : Int32)  : Option (AH × Int32) :=
  if (nI 2) ≤ a5 then
    gd (hT h a1 = 1) <|
    bn (f_QuillBoats_count h a1 (nI 10)) fun h3 r4 =>
    gd (hT h3 a1 = 1) <|
    bn (f_QuillBoats_count h3 a1 (nI 8)) fun h6 r7 =>
    gd (hT h6 a1 = 1) <|
    bn (f_QuillBoats_count h6 a1 (nI 7)) fun h9 r10 =>
    gd (hT h9 a1 = 1) <|
    bn (f_QuillBoats_count h9 a1 (nI 9)) fun h12 r13 =>
    gd (hT h12 a1 = 1) <|
    bn (f_QuillBoats_count h12 a1 (nI 11)) fun h15 r16 =>
    if r4 = (((r7 + r10) + r13) + r16) then
      f_Law_law_l152 k28 FU h15 a0 a1 a2 a3 (nI 0) (nI 0) (nI 0) (nI 0) (nI 0) (nI 0)
    else
      some (h15, (nI 0))
  else
    bn (f_Law_act h a1 a2 ((a4 >>> (((nI 2) * a5) &&& 31)) + ((nI 307) * a5))) fun h18 r19 =>
    if ¬ r19 = 0 then
      lq (a5 + (nI 1)) fun x21 =>
      k60 h18 a0 a1 a2 a3 a4 x21
    else
      some (h18, (nI 0))
def f_Law_law_l60 (k28 : AH → Nat → Nat → Nat → Int32 → Option (AH × Int32)) : Nat → AH → Nat → Nat → Nat → Int32 → Int32 → Int32 → Option (AH × Int32)
  | 0, _, _, _, _, _, _, _ => none
  | n + 1, h, a0, a1, a2, a3, a4, a5 => f_Law_law_b60 k28 (f_Law_law_l60 k28 n) h a0 a1 a2 a3 a4 a5
def f_Law_law_b28 (k28 : AH → Nat → Nat → Nat → Int32 → Option (AH × Int32)) (h : AH) (a0 : Nat) (a1 : Nat) (a2 : Nat) (a3 : Int32)  : Option (AH × Int32) :=
  if (nI 30) ≤ a3 then
    gd (hT h a2 = 13) <|
    bn (f_Sim_isSame h a2 a1) fun h3 r4 =>
    gd (nrm 3 r4) <|
    some (h3, r4)
  else
    bn (f_Law_cell h a0 (a3 - a3 / (nI 16) * (nI 16))) fun h6 r7 =>
    lq ((r7 >>> (((a3 / (nI 16)) * (nI 3)) &&& 31)) + ((nI 419) * a3)) fun x8 =>
    f_Law_law_l60 k28 FU h6 a0 a1 a2 a3 x8 (nI 0)
def f_Law_law_l28 : Nat → AH → Nat → Nat → Nat → Int32 → Option (AH × Int32)
  | 0, _, _, _, _, _ => none
  | n + 1, h, a0, a1, a2, a3 => f_Law_law_b28 (f_Law_law_l28  n) h a0 a1 a2 a3
def f_Law_law (h : AH) (a0 : Nat) : Option (AH × Int32) :=
  lq (hA h 1 10) fun h1 =>
  gd (hT h1 (hN h) = 1) <|
  bv (f_QuillBoats_init h1 (hN h)) fun h3 =>
  lq (hN h) fun x4 =>
  bn (f_Law_chosen h3 a0) fun h5 r6 =>
  gd (hT h5 r6 = 13) <|
  bn (f_Sim_text h5 r6) fun h8 r9 =>
  bn (f_Law_say h8 x4 r9) fun h10 r11 =>
  if r11 = 0 then
    f_Law_law_l28  FU h10 a0 x4 r6 (nI 0)
  else
    some (h10, (nI 0))

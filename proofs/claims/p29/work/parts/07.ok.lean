/-! 07 THE TABLES ARE THOSE OF THE CLAIM: each row of a method against its bytes and against the words -/
def yASB (n d : String) : MethodName := ⟨"java/lang/AbstractStringBuilder", n, d⟩
def q_sx : List Jvm.Cond := [("ensureCapacityInternal", "(I)V"), ("putStringAt", "(ILjava/lang/String;)V"), ("newCapacity", "(I)I"), ("inflateIfNeededFor", "(Ljava/lang/String;)V")].map fun q => Jvm.Cond.selects "java/lang/StringBuilder" (yASB q.1 q.2) (yASB q.1 q.2)
def TWs : List (List Jvm.Cond) := [q_sx, k2_sels lw_privs, tables_1_1, tables_1_2, tables_1_3, tables_1_4, tables_1_5, tables_1_6, tables_1_7, tables_1_8]
def TW : List Jvm.Cond := TWs.flatten
def twAt (r : Nat) : Option Jvm.Cond := match TWs[r / 1000]? with
  | some l => l[r % 1000]?
  | none => none
def TWg : List Jvm.Cond := TW.filter goodWord
def hasW (r : Nat) (w : Jvm.Cond) : Bool := goodWord w && decide (twAt r = some w)
-- words that a warmed table may hold in another way
def NWs : List Jvm.Cond := [.methodLinkNest "QuillBoats$Names" 184 ⟨"QuillBoats", "isWithin", "(III)Z"⟩ "QuillBoats", .methodLinkNest "QuillBoats$River" 143 ⟨"QuillBoats", "isWithin", "(III)Z"⟩ "QuillBoats", .methodLinkNest "QuillBoatsLaw" 34 ⟨"QuillBoatsLaw$Sim", "<init>", "()V"⟩ "QuillBoatsLaw", .fieldLinkNest "QuillBoatsLaw$Sim" 187 "QuillBoatsLaw" "GRADES" "[Ljava/lang/String;" "QuillBoatsLaw", .castable "[B" "java/lang/Cloneable"]
def AOs : List FieldType := [.object "QuillBoats$Garden", .object "QuillBoats$Rack", .object "QuillBoats$Peeler", .object "QuillBoats$Boat", .object "QuillBoats$Grade", .array .int, .array (.array .int)]
def isMN (own : String) (idx : Nat) (y : MethodName) : Jvm.Cond → Bool
  | .methodLinkNest o i y' _ => decide (o = own) && i == idx && decide (y' = y)
  | _ => false
def isFN (own : String) (idx : Nat) (c n d : String) : Jvm.Cond → Bool
  | .fieldLinkNest o i c' n' d' _ => decide (o = own) && i == idx && decide (c' = c) && decide (n' = n) && decide (d' = d)
  | _ => false
def kdD (d : String) : Nat := if d = "I" then 0 else if d = "Z" then 3 else if d = "B" then 4 else if d = "J" then 2 else 1
def arrTag (t : Nat) : Bool := Nat.ble 101 t && Nat.ble t 112
def onlyConst (t : Nat) : Bool := t == 15 || t == 102 || t == 111 || t == 112
-- the words of a method by number
def mdOf (j : Nat) : Option (MethodName × ByteArray × Nat × Option FieldType × List Nat) := MDs[j]?
def nameOK (y : MethodName) : Bool := decide (y.cls ≠ "java/lang/invoke/MethodHandle") && decide (y.cls ≠ "java/lang/invoke/VarHandle")
def npOf (y : MethodName) : Option Nat := (parseMethodDescriptor y.desc).map fun d => d.parameters.length
def okMD (j : Nat) : Bool := match mdOf j with
  | some (y, _, mL', _, [_, r2, r3, st]) => hasW r2 (.initialized y.cls) && (if st = 1 then hasW r3 (.static y) else hasW r3 (.instanceMethod y)) && nameOK y && plainFor y && decide (mL j = mL') && Nat.ble mL' 60
  | _ => false
def okCall (own : String) (idx j n c r kd : Nat) (rest : List Nat) : Bool := match mdOf j with
  | some (y, _, _, ret, [_, _, _, st]) => match kd, rest with
    | 0, [r2] => st == 0 && decide (npOf y = some (n - 1)) && Nat.ble 1 n && hasW r (.methodLink own idx y) && (match CT[c - 1]? with
      | some q => hasW r2 (.selects q.1 y y)
      | none => false) && Nat.ble 1 c && Nat.ble c 15
    | 1, [] => st == 1 && decide (npOf y = some n) && hasW r (.methodLink own idx y) && c == 0
    | 2, [] => st == 1 && decide (npOf y = some n) && NWs.any (isMN own idx y) && c == 0
    | 3, [] => st == 0 && decide (npOf y = some (n - 1)) && Nat.ble 1 n && hasW r (.methodLink own idx y) && decide (y.name = "<init>") && decide (ret = none) && Nat.ble 1 c && Nat.ble c 15
    | 4, [] => st == 0 && decide (npOf y = some (n - 1)) && Nat.ble 1 n && NWs.any (isMN own idx y) && decide (y.name = "<init>") && decide (ret = none) && Nat.ble 1 c && Nat.ble c 15
    | 5, [r2, r3] => st == 0 && decide (npOf y = some (n - 1)) && Nat.ble 1 n && hasW r (.methodLink own idx y) && hasW r2 (.sameMethod y.cls y.cls y.name y.desc) && hasW r3 (.superclass own y.cls) && decide (y.name ≠ "<init>") && Nat.ble 1 c && Nat.ble c 15
    | 6, [r2, r3, jx] => match mdOf jx with
      | some (x, _, _, _, [_, _, _, stx]) => stx == 0 && st == 0 && decide (npOf x = some (n - 1)) && Nat.ble 1 n && hasW r (.methodLink own idx x) && hasW r2 (.sameMethod x.cls x.cls x.name x.desc) && (match CT[c - 1]? with
        | some q => hasW r3 (.selects q.1 x y)
        | none => false) && Nat.ble 1 c && Nat.ble c 15 && okMD jx
      | _ => false
    | _, _ => false
  | _ => false
def okInv (own : String) (idx len : Nat) (virt stat : Bool) : List Nat → Bool
  | 0 :: j :: n :: c :: r :: kd :: rest => len == 3 && okMD j && okCall own idx j n c r kd rest && (if kd = 0 then virt else if kd = 6 then virt else if kd = 1 then stat else if kd = 2 then stat else !virt && !stat)
  | [1, r, c] => len == 3 && !virt && !stat && hasW r (.methodLink own idx objectInit) && Nat.ble 1 c && Nat.ble c 15
  | [2, r] => len == 3 && stat && hasW r (.methodLink own idx arraycopyName)
  | [3, r] => len == 3 && virt && hasW r (.methodLink own idx ⟨"[B", "clone", "()Ljava/lang/Object;"⟩)
  | _ => false
def okKst (own : String) (idx : Nat) : List Nat → Bool
  | [0, v, r] => hasW r (.constant own idx (nI v))
  | [1, a, r, j] => match SKs[j]? with
    | some q => q.1 == a && decide (q.2.1 = own) && q.2.2.1 == idx
    | none => false
  | _ => false
def okSta (own : String) (idx : Nat) : List Nat → Bool
  | [k, v, r, j, nst] => match STs[j]? with
    | some q => q.2.2.2.1 == k && q.2.2.2.2 == v && Nat.ble k 1 && (if nst = 0 then hasW r (.fieldLink own idx q.1 q.2.1 q.2.2.1) else NWs.any (isFN own idx q.1 q.2.1 q.2.2.1))
    | none => false
  | _ => false
def okFld (own : String) (ini : Bool) (idx : Nat) (put : Bool) : List Nat → Bool
  | [c, k, kd, r] => match CT[c - 1]? with
    | some q => Nat.ble 1 c && Nat.ble c 15 && Nat.blt k q.2.2 && hasW r (.fieldLink own idx (q.2.1 k).1 (q.2.1 k).2.1 (q.2.1 k).2.2.1) &&
      (if put then (kd == kdD (q.2.1 k).2.2.1 && (kd == 0 || kd == 3 || kd == 4 || kd == 2 || (kd == 1 && !(c == 15))) || (kd == 5 && kdD (q.2.1 k).2.2.1 == 1)) && (!(c == 15) || kd == 4 || kd == 5) && (if (q.2.1 k).2.2.2 then ini && decide ((q.2.1 k).1 = own) else true)
       else kd == kdD (q.2.1 k).2.2.1)
    | none => false
  | _ => false
def okCst (v : Int32) (aux : List Nat) : Bool := match cst aux with
  | some (.int w) => decide (w = v)
  | _ => false
def okNewA (own : String) (idx : Nat) : List Nat → Bool
  | [t, r1, r2] => arrTag t && (match ATy[t - 101]? with
    | some (.object C) => hasW r1 (.classLink own idx C) && AOs.contains (.object C)
    | some (.array ty) => hasW r1 (.classLink own idx (FieldType.array ty).toString) && AOs.contains (.array ty)
    | _ => false)
  | _ => false
def okRet (ret : Option FieldType) (aux : List Nat) : Bool := match ret, aux with
  | some .int, [0] => true
  | some .boolean, [3] => true
  | some .byte, [4] => true
  | some .char, [5] => true
  | _, _ => false
def okI (own : String) (ini : Bool) (ret : Option FieldType) (pc : Nat) (ins : Instr) (len : Nat) (aux : List Nat) : Bool := match ins with
  | .aload_n _ | .iload_n _ | .lload_n _ | .lconst _ | .dconst _ | .aconst_null | .istore_n _ | .astore_n _ | .lstore_n _ | .dup | .dup2 | .dup_x1 | .pop | .iadd | .isub | .imul | .idiv | .irem | .ineg | .iand | .ior | .ixor | .ishl | .ishr | .i2b | .i2c | .i2l | .i2d | .ladd | .lshl | .lcmp | .ddiv | .dcmp _ => len == 1
  | .aload _ | .iload _ | .lload _ | .istore _ | .astore _ | .lstore _ => len == 2
  | .iconst n => len == 1 && okCst (Int32.ofInt n) aux
  | .bipush n => len == 2 && okCst (Int8.ofInt n).toInt32 aux
  | .sipush n => len == 3 && okCst (Int16.ofInt n).toInt32 aux
  | .ldc k => len == 2 && okKst own k aux
  | .ldc_w k => len == 3 && okKst own k aux
  | .getstatic k => len == 3 && okSta own k aux
  | .iinc _ n => len == 3 && okCst (Int32.ofInt n) aux
  | .ifCond _ o | .if_icmp _ o | .goto o | .ifnonnull o => len == 3 && (match aux with
    | [t] => decide ((pc : Int) + o = (t : Int))
    | _ => false)
  | .tableswitch d lo hi os => decide (aux.map (fun t : Nat => (t : Int)) = (d :: os.toList).map (fun o => (pc : Int) + o)) && decide (hi = lo + os.size - 1)
  | .lookupswitch d ps => decide (aux.map (fun t : Nat => (t : Int)) = (d :: ps.toList.map (fun q => q.2)).map (fun o => (pc : Int) + o)) && (ps.toList.zip (ps.toList.drop 1)).all (fun (a, next) => a.1 < next.1)
  | .getfield k => len == 3 && okFld own ini k false aux
  | .putfield k => len == 3 && okFld own ini k true aux
  | .iaload => len == 1 && (aux == [101] || aux == [112])
  | .baload => len == 1 && aux == [102]
  | .laload => len == 1 && aux == [103]
  | .aaload => len == 1 && (match aux with
    | [t] => Nat.ble 104 t && Nat.ble t 111
    | _ => false)
  | .iastore => len == 1 && aux == [101]
  | .bastore => len == 1 && aux == [102]
  | .lastore => len == 1 && aux == [103]
  | .aastore => len == 1 && (aux == [104, 4] || aux == [105, 5] || aux == [106, 6] || aux == [107, 7] || aux == [108, 8] || aux == [109, 101] || aux == [110, 109])
  | .arraylength => len == 1 && (match aux with
    | [t] => arrTag t
    | _ => false)
  | .new k => len == 3 && (match aux with
    | [t, n, r1, r2, r3] => Nat.ble 1 t && Nat.ble t 15 && (match CT[t - 1]? with
      | some q => hasW r1 (.classLink own k q.1) && hasW r2 (.instantiable q.1 n) && hasW r3 (.initialized q.1)
      | none => false)
    | _ => false)
  | .newarray at' => len == 2 && (match aux with
    | [t, r] => (t == 101 || t == 102 || t == 103) && decide (ATy[t - 101]? = some (newarray.typeOf at')) && hasW r (.arrayClass (newarray.typeOf at'))
    | _ => false)
  | .anewarray k => len == 3 && okNewA own k aux
  | .multianewarray k n => len == 4 && n == 2 && (match aux with
    | [110, 109, r1, _, _] => hasW r1 (.classLink own k "[[[I")
    | _ => false)
  | .checkcast k => len == 3 && (match aux with
    | [102, r] => hasW r (.classLink own k "[B")
    | _ => false)
  | .invokevirtual k => okInv own k len true false aux
  | .invokespecial k => okInv own k len false false aux
  | .invokestatic k => okInv own k len false true aux
  | .ireturn => len == 1 && okRet ret aux
  | .areturn => len == 1 && (match ret with
    | some (.object _) => true
    | some (.array _) => true
    | _ => false)
  | .lreturn => len == 1 && decide (ret = some .long)
  | .dreturn => len == 1 && decide (ret = some .double)
  | .return_ => len == 1 && decide (ret = none)
  | _ => false
def okRow (y : MethodName) (bytes : ByteArray) (ret : Option FieldType) (q : Nat × Row) : Bool := decide (decode bytes q.1 = .ok (q.2.1, q.2.2.1)) && okI y.cls (decide (y.name = "<init>")) ret q.1 q.2.1 q.2.2.1 q.2.2.2
def okBk (i k : Nat) : Bool := match mdOf i, TLs[i / 16]? with
  | some (y, bytes, _, ret, _), some B => match B[i % 16]? with
    | some T => (T.getD k []).all fun q => okRow y bytes ret q
    | none => true
  | _, _ => true

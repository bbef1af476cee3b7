/-! 98zzb THE START, II: what the premises say of strings and rows -/
def sTm (q : Nat × String × Nat × String) : Term := .string q.2.1 q.2.2.1
def sVl (t : Term) : Term := .field t "java/lang/String" "value" "[B"
def elW (v : Term) : Nat → List Nat → List Jvm.Cond
  | _, [] => []
  | j, b :: bs => Jvm.Cond.eq (.elem v (.int (Int32.ofNat j))) (.int (Int32.ofNat b)) :: elW v (j + 1) bs
theorem elW_mem {v : Term} : ∀ (bs : List Nat) (k j : Nat), j < bs.length → Jvm.Cond.eq (.elem v (.int (Int32.ofNat (k + j)))) (.int (Int32.ofNat (nth bs j))) ∈ elW v k bs := by
  intro bs
  induction bs with
  | nil => intro k j h; exact absurd h (Nat.not_lt_zero _)
  | cons b bs ih =>
    intro k j h
    cases j with
    | zero => exact List.mem_cons_self
    | succ j =>
      have q := ih (k + 1) j (Nat.lt_of_succ_lt_succ h)
      rw [show k + 1 + j = k + (j + 1) by omega] at q
      exact List.mem_cons_of_mem _ q
def rowW (v : Term) (bs : List Nat) : List Jvm.Cond := Jvm.Cond.arrayOf v .byte :: Jvm.Cond.eq (.length v) (.int (Int32.ofNat bs.length)) :: elW v 0 bs
def strW (t : Term) (bs : List Nat) : List Jvm.Cond := Jvm.Cond.exactly t "java/lang/String" :: Jvm.Cond.eq (.field t "java/lang/String" "coder" "B") (.int 0) :: rowW (sVl t) bs
def FL : List Jvm.Cond := flatC (Jvm.Cond.and given_1 narrow_1)
def SST : List Nat := [1048, 1060, 1072, 1083, 1094, 1100, 1110, 1121, 1126, 1138, 1147, 1156, 1167, 1177, 1188, 1216, 1229, 1239, 1247, 1257, 1267, 1277, 1339, 1347, 1357, 1547, 1287, 1291, 1301, 1306, 1320, 1327, 1332, 1367, 1373, 1379, 1391, 1399, 1404, 1413, 1427, 1444, 1454, 1461, 1475, 1482, 1499, 1515, 1524, 1532, 1538, 314, 1607, 1906, 1915, 1925, 1934]
def SEX : List Nat := [1961, 1962, 1963, 1964, 1965, 1966, 1967, 1968, 1969, 1970, 1971, 1972, 1973, 1974, 1975, 1976, 1977, 1978, 1979, 1980, 1981, 1982, 1990, 1991, 1992, 2011, 1983, 1984, 1985, 1986, 1987, 1988, 1989, 1993, 1994, 1995, 1996, 1997, 1998, 1999, 2000, 2001, 2002, 2003, 2004, 2005, 2006, 2007, 2008, 2009, 2010, 1946, 2014, 2023, 2024, 2025, 2026]
def segOK (st : Nat) (want : List Jvm.Cond) : Bool := decide ((FL.drop st).take want.length = want)
def okS (i : Nat) : Bool := match SKs[i]?, SKL[i]?, SST[i]?, SEX[i]? with
  | some q, some z, some st, some ex => decide (q.1 = 10 + 2 * i) && decide (z.1 = 10 + 2 * i) && decide (z.2.length < 1000) && segOK st (strW (sTm q) z.2) && decide (FL[ex]? = some (Jvm.Cond.exactly (sVl (sTm q)) "[B")) && decide (Jvm.Cond.stringRef q.2.1 q.2.2.1 q.2.2.2 ∈ tables_1)
  | _, _, _, _ => false
theorem okS_0 : ((List.range 20).all okS) = true := by decide +kernel
theorem okS_1 : ((List.range 20).all fun i => okS (20 + i)) = true := by decide +kernel
theorem okS_2 : ((List.range 17).all fun i => okS (40 + i)) = true := by decide +kernel
theorem okS_all {i : Nat} (h : i < 57) : okS i = true := by
  by_cases h1 : i < 20
  · exact List.all_eq_true.mp okS_0 i (List.mem_range.mpr h1)
  · by_cases h2 : i < 40
    · have q := List.all_eq_true.mp okS_1 (i - 20) (List.mem_range.mpr (by omega))
      rw [show 20 + (i - 20) = i by omega] at q
      exact q
    · have q := List.all_eq_true.mp okS_2 (i - 40) (List.mem_range.mpr (by omega))
      rw [show 40 + (i - 40) = i by omega] at q
      exact q
def dgO : List Nat := (List.range 100).map fun k => 48 + k % 10
def dgT : List Nat := (List.range 100).map fun k => 48 + k / 10
def tmO : Term := .static "java/lang/Integer" "DigitOnes" "[B"
def tmT : Term := .static "java/lang/Integer" "DigitTens" "[B"
def tmG : Term := .static "QuillBoatsLaw" "GRADES" "[Ljava/lang/String;"
theorem okO : (segOK 12 (rowW tmO dgO) && decide (FL[1944]? = some (Jvm.Cond.exactly tmO "[B"))) = true := by decide +kernel
theorem okT : (segOK 115 (rowW tmT dgT) && decide (FL[1945]? = some (Jvm.Cond.exactly tmT "[B"))) = true := by decide +kernel
def grW : List Jvm.Cond := [Jvm.Cond.arrayOf tmG (.object "java/lang/String"), Jvm.Cond.eq (.length tmG) (.int (Int32.ofNat 4)), Jvm.Cond.eq (.elem tmG (.int (Int32.ofNat 0))) (.string "QuillBoatsLaw" 186), Jvm.Cond.eq (.elem tmG (.int (Int32.ofNat 1))) (.string "QuillBoatsLaw" 188), Jvm.Cond.eq (.elem tmG (.int (Int32.ofNat 2))) (.string "QuillBoatsLaw" 190), Jvm.Cond.eq (.elem tmG (.int (Int32.ofNat 3))) (.string "QuillBoatsLaw" 192)]
theorem okG : segOK 218 grW = true := by decide +kernel
theorem okZ : (decide (FL[4]? = some (Jvm.Cond.eq (.static "java/lang/String" "COMPACT_STRINGS" "Z") (.int 1))) && decide (FL[5]? = some (Jvm.Cond.isRef (.static "jdk/internal/util/Preconditions" "SIOOBE_FORMATTER" "Ljava/util/function/BiFunction;")))) = true := by decide +kernel
section
variable {args : Array Value} {s : State}
theorem seg_w {st : Nat} {want : List Jvm.Cond} (hF : ∀ c ∈ FL, c.before args s = true) (h : segOK st want = true) : ∀ c ∈ want, c.before args s = true := by
  intro c hc
  have e : (FL.drop st).take want.length = want := of_decide_eq_true h
  rw [← e] at hc
  exact hF c (List.mem_of_mem_drop (List.mem_of_mem_take hc))
theorem get_w {k : Nat} {c : Jvm.Cond} (hF : ∀ c ∈ FL, c.before args s = true) (h : decide (FL[k]? = some c) = true) : c.before args s = true := hF c (List.mem_of_getElem? (of_decide_eq_true h))
theorem lw_FL (h : (Jvm.Cond.and given_1 narrow_1).before args s = true) : ∀ c ∈ FL, c.before args s = true := flat_of_before _ h
end

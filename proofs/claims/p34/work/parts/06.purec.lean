def f_X0_copyFrom (k k1 : Nat) (V : Wd) : Option (Wd) :=
  li_ (cp2 V (k1 + 1) (k + 1) 0 0 12) fun V1 =>
    li_ (cp2 V1 (k1 + 2) (k + 2) 0 0 12) fun V2 =>
    li_ (u2 V2 k 2 (V2 k1 2)) fun V3 =>
    some V3
def f_X0_size (k : Nat) (V : Wd) : Int32 :=
  (V k 2)
def f_X8_isBelow (x0 : Int32) (x1 : Int32) : Int32 :=
  if x0 < 0 then
      (0)
    else
      (if x1 ≤ x0 then
      (0)
    else
      (1))
def f_X0_flagsAt (k : Nat) (V : Wd) (x1 : Int32) : Option (Int32) :=
  if (f_X8_isBelow x1 12) = 0 then
      (some (-6))
    else
      ((rd_ (V (k + 1)) 12 x1).bind fun y1 =>
    some y1)
def f_X0_wordAt (k : Nat) (V : Wd) (x1 : Int32) : Option (Int32) :=
  if (f_X8_isBelow x1 12) = 0 then
      (some (-6))
    else
      ((rd_ (V (k + 2)) 12 x1).bind fun y1 =>
    some y1)
def f_X0_add (k : Nat) (V : Wd) (x1 : Int32) (x2 : Int32) : Option (Wd) :=
  if (f_X8_isBelow (V k 2) 12) = 0 then
      (some V)
    else
      (st_ V (k + 1) 12 (V k 2) x1 fun V1 =>
    st_ V1 (k + 2) 12 (V1 k 2) x2 fun V2 =>
    li_ (u2 V2 k 2 ((V2 k 2) + 1)) fun V3 =>
    some V3)
def f_X0_remove_76 (k : Nat) (x1 : Int32) (V : Wd) (x2 : Int32) : Option (Int32 × Wd) :=
  li_ (u2 V k 2 ((V k 2) - 1)) fun V9 =>
    some (x2, V9)
def f_X0_remove_32 (k : Nat) (x1 : Int32) : Nat → Wd → Int32 → Int32 → Option (Int32 × Wd)
  | 0, _, _, _ => none
  | n + 1, V, x2, x3 =>
    if (V k 2) ≤ (x3 + 1) then
      (f_X0_remove_76 k x1 V x2)
    else
      ((rd_ (V (k + 1)) 12 (x3 + 1)).bind fun y4 =>
    st_ V (k + 1) 12 x3 y4 fun V5 =>
    (rd_ (V5 (k + 2)) 12 (x3 + 1)).bind fun y6 =>
    st_ V5 (k + 2) 12 x3 y6 fun V7 =>
    f_X0_remove_32 k x1 n V7 x2 (x3 + 1))
def f_X0_remove (k : Nat) (V : Wd) (x1 : Int32) : Option (Int32 × Wd) :=
  if (f_X8_isBelow x1 (V k 2)) = 0 then
      (some ((-6), V))
    else
      (if (V k 2) ≤ 12 then
      ((rd_ (V (k + 2)) 12 x1).bind fun y1 =>
    f_X0_remove_32 k x1 FU_ V y1 x1)
    else
      (some ((-6), V)))
def f_X0_wordFor_2 (k : Nat) (V : Wd) (x1 : Int32) : Nat → Int32 → Option (Int32)
  | 0, _ => none
  | n + 1, x2 =>
    if (V k 2) ≤ x2 then
      (some (-6))
    else
      (if 12 ≤ x2 then
      (some (-6))
    else
      ((rd_ (V (k + 1)) 12 x2).bind fun y1 =>
    if y1 = x1 then
      ((rd_ (V (k + 2)) 12 x2).bind fun y2 =>
    some y2)
    else
      (f_X0_wordFor_2 k V x1 n (x2 + 1))))
def f_X0_wordFor (k : Nat) (V : Wd) (x1 : Int32) : Option (Int32) :=
  f_X0_wordFor_2 k V x1 FU_ 0
def f_X1_copyFrom (k k1 : Nat) (V : Wd) : Option (Wd) :=
  li_ (cp2 V (k1 + 1) (k + 1) 0 0 10) fun V1 =>
    li_ (cp2 V1 (k1 + 2) (k + 2) 0 0 10) fun V2 =>
    li_ (cp2 V2 (k1 + 3) (k + 3) 0 0 10) fun V3 =>
    some V3
def f_X1_change (k : Nat) (V : Wd) (x1 : Int32) (x2 : Int32) (x3 : Int32) (x4 : Int32) : Option (Wd) :=
  if (f_X8_isBelow x1 10) = 0 then
      (some V)
    else
      (st_ V (k + 1) 10 x1 x2 fun V1 =>
    st_ V1 (k + 2) 10 x1 x3 fun V2 =>
    st_ V2 (k + 3) 10 x1 x4 fun V3 =>
    some V3)
def f_X1_atHoist (k : Nat) (V : Wd) (x1 : Int32) : Option (Int32) :=
  if (f_X8_isBelow x1 10) = 0 then
      (some (-6))
    else
      ((rd_ (V (k + 1)) 10 x1).bind fun y1 =>
    some y1)
def f_X1_atFly (k : Nat) (V : Wd) (x1 : Int32) : Option (Int32) :=
  if (f_X8_isBelow x1 10) = 0 then
      (some (-6))
    else
      ((rd_ (V (k + 2)) 10 x1).bind fun y1 =>
    some y1)
def f_X1_weightOf (k : Nat) (V : Wd) (x1 : Int32) : Option (Int32) :=
  if (f_X8_isBelow x1 10) = 0 then
      (some (-6))
    else
      ((rd_ (V (k + 3)) 10 x1).bind fun y1 =>
    some y1)
def f_X1_countWith_5 (k : Nat) (V : Wd) (x1 : Int32) (x2 : Int32) : Nat → Int32 → Int32 → Option (Int32)
  | 0, _, _ => none
  | n + 1, x3, x4 =>
    if 10 ≤ x4 then
      (some x3)
    else
      ((rd_ (V (k + 1)) 10 x4).bind fun y1 =>
    if y1 = x1 then
      ((rd_ (V (k + 2)) 10 x4).bind fun y2 =>
    if y2 = x2 then
      (f_X1_countWith_5 k V x1 x2 n (x3 + 1) (x4 + 1))
    else
      (f_X1_countWith_5 k V x1 x2 n x3 (x4 + 1)))
    else
      (f_X1_countWith_5 k V x1 x2 n x3 (x4 + 1)))
def f_X1_countWith (k : Nat) (V : Wd) (x1 : Int32) (x2 : Int32) : Option (Int32) :=
  f_X1_countWith_5 k V x1 x2 FU_ 0 0
def f_X1_firstWith_2 (k : Nat) (V : Wd) (x1 : Int32) (x2 : Int32) : Nat → Int32 → Option (Int32)
  | 0, _ => none
  | n + 1, x3 =>
    if 10 ≤ x3 then
      (some (-6))
    else
      ((rd_ (V (k + 1)) 10 x3).bind fun y1 =>
    if y1 = x1 then
      ((rd_ (V (k + 2)) 10 x3).bind fun y2 =>
    if y2 = x2 then
      (some x3)
    else
      (f_X1_firstWith_2 k V x1 x2 n (x3 + 1)))
    else
      (f_X1_firstWith_2 k V x1 x2 n (x3 + 1)))
def f_X1_firstWith (k : Nat) (V : Wd) (x1 : Int32) (x2 : Int32) : Option (Int32) :=
  f_X1_firstWith_2 k V x1 x2 FU_ 0
def f_X1_takenFor (k : Nat) (V : Wd) (x1 : Int32) (x2 : Int32) (x3 : Int32) : Option (Int32) :=
  if (f_X8_isBelow x1 10) = 0 then
      (some (-6))
    else
      ((rd_ (V (k + 3)) 10 x1).bind fun y1 =>
    if y1 ≤ x3 then
      (if x2 = 0 then
      ((rd_ (V (k + 2)) 10 x1).bind fun y2 =>
    (rd_ (V (k + 1)) 10 x1).bind fun y3 =>
    (f_X1_firstWith k V y2 y3).bind fun y4 =>
    some y4)
    else
      ((rd_ (V (k + 1)) 10 x1).bind fun y5 =>
    (rd_ (V (k + 2)) 10 x1).bind fun y6 =>
    (f_X1_firstWith k V y5 y6).bind fun y7 =>
    some y7))
    else
      (some (-6)))
def f_X2_slotAt (V : Wd) (x1 : Int32) : Option (Option Nat) :=
  if (f_X8_isBelow x1 5) = 0 then
      (some none)
    else
      ((rq_ 30 x1).bind fun r1 =>
    some (some r1))
def f_X3_copyFrom (k k1 : Nat) (V : Wd) : Option (Wd) :=
  li_ (cp2 V (k1 + 1) (k + 1) 0 0 20) fun V1 =>
    li_ (cp2 V1 (k1 + 2) (k + 2) 0 0 5) fun V2 =>
    some V2
def f_X4_copyFrom (k k1 : Nat) (V : Wd) : Option (Wd) :=
  li_ (cp2 V (k1 + 1) (k + 1) 0 0 40) fun V1 =>
    li_ (cp2 V1 (k1 + 2) (k + 2) 0 0 8) fun V2 =>
    li_ (u2 V2 k 2 (V2 k1 2)) fun V3 =>
    li_ (u2 V3 k 3 (V3 k1 3)) fun V4 =>
    some V4
def f_X6_copyFrom (k k1 : Nat) (V : Wd) : Option (Wd) :=
  (f_X1_copyFrom (k + 1) (k1 + 1) V).bind fun V1 =>
    (f_X3_copyFrom (k + 5) (k1 + 5) V1).bind fun V2 =>
    (f_X0_copyFrom (k + 8) (k1 + 8) V2).bind fun V3 =>
    (f_X4_copyFrom (k + 11) (k1 + 11) V3).bind fun V4 =>
    li_ (u2 V4 k 4 (V4 k1 4)) fun V5 =>
    li_ (u2 V5 k 5 (V5 k1 5)) fun V6 =>
    li_ (u2 V6 k 6 (V6 k1 6)) fun V7 =>
    li_ (u2 V7 k 7 (V7 k1 7)) fun V8 =>
    li_ (u2 V8 k 8 (V8 k1 8)) fun V9 =>
    some V9
def f_X2_record (k1 : Nat) (V : Wd) : Option (Wd) :=
  (f_X2_slotAt V (V 29 1)).bind fun o1 =>
    match o1 with
    | none => (some V)
    | some r2 => if kd r2 = 1 then
      ((f_X6_copyFrom r2 k1 V).bind fun V3 =>
    li_ (u2 V3 29 1 (((V3 29 1) + 1) - ((V3 29 1) + 1) / 5 * 5)) fun V4 =>
    li_ (u2 V4 29 2 (if 5 < ((V4 29 2) + 1) then 5 else ((V4 29 2) + 1))) fun V5 =>
    some V5)
    else none
def f_X3_clear_2 (k : Nat) : Nat → Wd → Int32 → Option (Wd)
  | 0, _, _ => none
  | n + 1, V, x1 =>
    if 5 ≤ x1 then
      (some V)
    else
      (st_ V (k + 2) 5 x1 0 fun V1 =>
    f_X3_clear_2 k n V1 (x1 + 1))
def f_X3_clear (k : Nat) (V : Wd) : Option (Wd) :=
  f_X3_clear_2 k FU_ V 0
def f_X3_sizeOf (k : Nat) (V : Wd) (x1 : Int32) : Option (Int32) :=
  if (f_X8_isBelow x1 5) = 0 then
      (some 0)
    else
      ((rd_ (V (k + 2)) 5 x1).bind fun y1 =>
    some y1)
def f_X3_has (k : Nat) (V : Wd) (x1 : Int32) (x2 : Int32) : Option (Int32) :=
  if x1 < 0 then
      (some 0)
    else
      (if 5 ≤ x1 then
      (some 0)
    else
      (if x2 < 1 then
      (some 0)
    else
      (if 4 < x2 then
      (some 0)
    else
      ((rd_ (V (k + 2)) 5 x1).bind fun y1 =>
    if y1 < x2 then
      (some 0)
    else
      (some 1)))))
def f_X3_signAt (k : Nat) (V : Wd) (x1 : Int32) (x2 : Int32) : Option (Int32) :=
  (f_X3_has k V x1 x2).bind fun y1 =>
    if y1 = 0 then
      (some (-1))
    else
      ((rd_ (V (k + 1)) 20 (((x1 * 4) + x2) - 1)).bind fun y2 =>
    some y2)
def f_X3_flagAt_10 (k : Nat) (V : Wd) (x1 : Int32) (x2 : Int32) : Nat → Int32 → Int32 → Option (Int32)
  | 0, _, _ => none
  | n + 1, x3, x4 =>
    if 4 ≤ x4 then
      (some x3)
    else
      (if x3 ≤ 10 then
      (some x3)
    else
      ((f_X3_signAt k V x1 (x3 - 10)).bind fun y2 =>
    f_X3_flagAt_10 k V x1 x2 n y2 (x4 + 1)))
def f_X3_flagAt (k : Nat) (V : Wd) (x1 : Int32) (x2 : Int32) : Option (Int32) :=
  (f_X3_signAt k V x1 x2).bind fun y1 =>
    f_X3_flagAt_10 k V x1 x2 FU_ y1 1
def f_X3_add (k : Nat) (V : Wd) (x1 : Int32) (x2 : Int32) : Option (Wd) :=
  if (f_X8_isBelow x1 5) = 0 then
      (some V)
    else
      ((rd_ (V (k + 2)) 5 x1).bind fun y1 =>
    if (f_X8_isBelow y1 4) = 0 then
      (some V)
    else
      ((rd_ (V (k + 2)) 5 x1).bind fun y2 =>
    st_ V (k + 1) 20 ((x1 * 4) + y2) x2 fun V3 =>
    (rd_ (V3 (k + 2)) 5 x1).bind fun y4 =>
    st_ V3 (k + 2) 5 x1 (y4 + 1) fun V5 =>
    some V5))
def f_X3_removeLowest (k : Nat) (V : Wd) (x1 : Int32) : Option (Int32 × Wd) :=
  (f_X3_sizeOf k V x1).bind fun y1 =>
    (f_X3_has k V x1 y1).bind fun y2 =>
    if y2 = 0 then
      (some ((-1), V))
    else
      ((rd_ (V (k + 2)) 5 x1).bind fun y3 =>
    st_ V (k + 2) 5 x1 (y3 - 1) fun V4 =>
    (rd_ (V4 (k + 1)) 20 (((x1 * 4) + y1) - 1)).bind fun y5 =>
    some (y5, V4))
def f_X3_swap_74 (k : Nat) (x1 : Int32) (x2 : Int32) (V : Wd) : Option (Wd) :=
  (rd_ (V (k + 2)) 5 x1).bind fun y8 =>
    (rd_ (V (k + 2)) 5 x2).bind fun y9 =>
    st_ V (k + 2) 5 x1 y9 fun V10 =>
    st_ V10 (k + 2) 5 x2 y8 fun V11 =>
    some V11
def f_X3_swap_19 (k : Nat) (x1 : Int32) (x2 : Int32) : Nat → Wd → Int32 → Option (Wd)
  | 0, _, _ => none
  | n + 1, V, x3 =>
    if 4 ≤ x3 then
      (f_X3_swap_74 k x1 x2 V)
    else
      ((rd_ (V (k + 1)) 20 ((x1 * 4) + x3)).bind fun y3 =>
    (rd_ (V (k + 1)) 20 ((x2 * 4) + x3)).bind fun y4 =>
    st_ V (k + 1) 20 ((x1 * 4) + x3) y4 fun V5 =>
    st_ V5 (k + 1) 20 ((x2 * 4) + x3) y3 fun V6 =>
    f_X3_swap_19 k x1 x2 n V6 (x3 + 1))
def f_X3_swap (k : Nat) (V : Wd) (x1 : Int32) (x2 : Int32) : Option (Wd) :=
  if (f_X8_isBelow x1 5) = 0 then
      (some V)
    else
      (if (f_X8_isBelow x2 5) = 0 then
      (some V)
    else
      (f_X3_swap_19 k x1 x2 FU_ V 0))
def f_X3_countAll_4 (k : Nat) (V : Wd) : Nat → Int32 → Int32 → Option (Int32)
  | 0, _, _ => none
  | n + 1, x1, x2 =>
    if 5 ≤ x2 then
      (some x1)
    else
      ((rd_ (V (k + 2)) 5 x2).bind fun y1 =>
    li_ (x1 + y1) fun y2 =>
    f_X3_countAll_4 k V n y2 (x2 + 1))
def f_X3_countAll (k : Nat) (V : Wd) : Option (Int32) :=
  f_X3_countAll_4 k V FU_ 0 0
def f_X3_countNotEmpty_4 (k : Nat) (V : Wd) : Nat → Int32 → Int32 → Option (Int32)
  | 0, _, _ => none
  | n + 1, x1, x2 =>
    if 5 ≤ x2 then
      (some x1)
    else
      ((rd_ (V (k + 2)) 5 x2).bind fun y1 =>
    if y1 ≤ 0 then
      (f_X3_countNotEmpty_4 k V n x1 (x2 + 1))
    else
      (f_X3_countNotEmpty_4 k V n (x1 + 1) (x2 + 1)))
def f_X3_countNotEmpty (k : Nat) (V : Wd) : Option (Int32) :=
  f_X3_countNotEmpty_4 k V FU_ 0 0
def f_X3_countOf_12 (k : Nat) (V : Wd) (x1 : Int32) (K4 : Int32 → Int32 → Option (Int32)) : Nat → Int32 → Int32 → Int32 → Option (Int32)
  | 0, _, _, _ => none
  | n + 1, x2, x3, x4 =>
    (rd_ (V (k + 2)) 5 x3).bind fun y2 =>
    if y2 < x4 then
      (K4 x2 (x3 + 1))
    else
      ((f_X3_signAt k V x3 x4).bind fun y3 =>
    if y3 = x1 then
      (f_X3_countOf_12 k V x1 K4 n (x2 + 1) x3 (x4 + 1))
    else
      (f_X3_countOf_12 k V x1 K4 n x2 x3 (x4 + 1)))
def f_X3_countOf_4 (k : Nat) (V : Wd) (x1 : Int32) : Nat → Int32 → Int32 → Option (Int32)
  | 0, _, _ => none
  | n + 1, x2, x3 =>
    if 5 ≤ x3 then
      (some x2)
    else
      (f_X3_countOf_12 k V x1 (fun a2 a3 => f_X3_countOf_4 k V x1 n a2 a3) FU_ x2 x3 1)
def f_X3_countOf (k : Nat) (V : Wd) (x1 : Int32) : Option (Int32) :=
  f_X3_countOf_4 k V x1 FU_ 0 0
def f_X3_mostOfAKind_4 (k : Nat) (V : Wd) : Nat → Int32 → Int32 → Option (Int32)
  | 0, _, _ => none
  | n + 1, x1, x2 =>
    if 13 < x2 then
      (some x1)
    else
      ((f_X3_countOf k V x2).bind fun y1 =>
    li_ (if x1 < y1 then y1 else x1) fun y2 =>
    f_X3_mostOfAKind_4 k V n y2 (x2 + 1))
def f_X3_mostOfAKind (k : Nat) (V : Wd) : Option (Int32) :=
  f_X3_mostOfAKind_4 k V FU_ 0 0
def f_X4_size (k : Nat) (V : Wd) : Int32 :=
  (V k 2)
def f_X4_countAll (k : Nat) (V : Wd) : Int32 :=
  (V k 3)
def f_X4_wordsOf (k : Nat) (V : Wd) (x1 : Int32) : Option (Int32) :=
  if (f_X8_isBelow x1 8) = 0 then
      (some 0)
    else
      ((rd_ (V (k + 2)) 8 x1).bind fun y1 =>
    some y1)
def f_X4_wordAt (k : Nat) (V : Wd) (x1 : Int32) (x2 : Int32) : Option (Int32) :=
  if (f_X8_isBelow x2 5) = 0 then
      (some (-6))
    else
      (if (f_X8_isBelow x1 8) = 0 then
      (some (-6))
    else
      ((rd_ (V (k + 1)) 40 ((x1 * 5) + x2)).bind fun y1 =>
    some y1))
def f_X4_add_92 (k k1 : Nat) (x2 : Int32) (V : Wd) : Option (Wd) :=
  st_ V (k + 2) 8 (V k 2) x2 fun V11 =>
    li_ (u2 V11 k 2 ((V11 k 2) + 1)) fun V12 =>
    li_ (u2 V12 k 3 ((V12 k 3) + 1)) fun V13 =>
    some V13
def f_X4_add_59 (k k1 : Nat) (x2 : Int32) : Nat → Wd → Int32 → Option (Wd)
  | 0, _, _ => none
  | n + 1, V, x3 =>
    if 5 ≤ x3 then
      (f_X4_add_92 k k1 x2 V)
    else
      (if 5 ≤ x3 then
      (f_X4_add_92 k k1 x2 V)
    else
      ((rd_ (V k1) 5 x3).bind fun y7 =>
    st_ V (k + 1) 40 (((V k 2) * 5) + x3) y7 fun V8 =>
    f_X4_add_59 k k1 x2 n V8 (x3 + 1)))
def f_X4_add (k k1 : Nat) (V : Wd) (x2 : Int32) : Option (Wd) :=
  if (V k 2) < 8 then
      (if (f_X8_isBelow (V k 2) 8) = 0 then
      (some V)
    else
      (f_X4_add_59 k k1 x2 FU_ V 0))
    else
      (li_ (cp2 V (k + 1) (k + 1) 5 0 35) fun V2 =>
    li_ (cp2 V2 (k + 2) (k + 2) 1 0 7) fun V3 =>
    li_ (u2 V3 k 2 7) fun V4 =>
    if (f_X8_isBelow (V4 k 2) 8) = 0 then
      (some V4)
    else
      (f_X4_add_59 k k1 x2 FU_ V4 0))
def f_X5_arrange_49 (k : Nat) (x1 : Int32) (x2 : Int32) (K7 : Wd → Int32 → Option (Wd)) (V : Wd) (x3 : Int32) (x4 : Int32) : Option (Wd) :=
  if (f_X8_isBelow x4 5) = 0 then
      (K7 V (x3 + 1))
    else
      (if (f_X8_isBelow (V k 3) 5) = 0 then
      (K7 V (x3 + 1))
    else
      ((rd_ (V (k + 1)) 5 x4).bind fun y6 =>
    if y6 = (-7) then
      (K7 V (x3 + 1))
    else
      ((rd_ (V (k + 1)) 5 x4).bind fun y7 =>
    st_ V (k + 2) 5 (V k 3) y7 fun V8 =>
    li_ (u2 V8 k 3 ((V8 k 3) + 1)) fun V9 =>
    K7 V9 (x3 + 1))))
def f_X5_arrange_26 (k : Nat) (x1 : Int32) (x2 : Int32) (K7 : Wd → Int32 → Option (Wd)) (V : Wd) (x3 : Int32) (s0 : Int32) : Option (Wd) :=
  if s0 = x1 then
      (f_X5_arrange_49 k x1 x2 K7 V x3 x2)
    else
      (if s0 = x2 then
      (f_X5_arrange_49 k x1 x2 K7 V x3 x1)
    else
      (f_X5_arrange_49 k x1 x2 K7 V x3 s0))
def f_X5_arrange_7 (k : Nat) (x1 : Int32) (x2 : Int32) : Nat → Wd → Int32 → Option (Wd)
  | 0, _, _ => none
  | n + 1, V, x3 =>
    if 5 ≤ x3 then
      (some V)
    else
      (if (V k 0) = 0 then
      (f_X5_arrange_26 k x1 x2 (fun V1 a3 => f_X5_arrange_7 k x1 x2 n V1 a3) V x3 x3)
    else
      (f_X5_arrange_26 k x1 x2 (fun V1 a3 => f_X5_arrange_7 k x1 x2 n V1 a3) V x3 (4 - x3)))
def f_X5_arrange (k : Nat) (V : Wd) (x1 : Int32) (x2 : Int32) : Option (Wd) :=
  li_ (u2 V k 3 0) fun V1 =>
    f_X5_arrange_7 k x1 x2 FU_ V1 0
def f_X6_readHoist_24 (k : Nat) (V : Wd) (x1 : Int32) (x2 : Int32) (x3 : Int32) : Nat → Int32 → Int32 → Int32 → Option (Int32)
  | 0, _, _, _ => none
  | n + 1, x4, x5, x6 =>
    if x4 < x6 then
      ((f_X0_wordFor (k + 8) V x5).bind fun y3 =>
    some y3)
    else
      ((f_X3_flagAt (k + 5) V x1 x6).bind fun y4 =>
    (f_X1_takenFor (k + 1) V y4 x2 x3).bind fun y5 =>
    if y5 = (-6) then
      (some (-6))
    else
      (li_ ((10 * x5) + y5) fun y6 =>
    f_X6_readHoist_24 k V x1 x2 x3 n x4 y6 (x6 + 1)))
def f_X6_readHoist (k : Nat) (V : Wd) (x1 : Int32) (x2 : Int32) (x3 : Int32) : Option (Int32) :=
  (f_X3_sizeOf (k + 5) V x1).bind fun y1 =>
    if y1 = 0 then
      (some (-7))
    else
      (f_X6_readHoist_24 k V x1 x2 x3 FU_ y1 1 1)
def f_X8_isHoistFirst (x0 : Int32) (x1 : Int32) : Int32 :=
  if x0 = x1 then
      (1)
    else
      (0)
def f_X5_look_13 (k k1 : Nat) (x2 : Int32) (x3 : Int32) : Nat → Wd → Int32 → Int32 → Option (Wd)
  | 0, _, _, _ => none
  | n + 1, V, x4, x5 =>
    if 5 ≤ x5 then
      ((f_X5_arrange k V 0 0).bind fun V2 =>
    some V2)
    else
      ((f_X6_readHoist k1 V x5 x4 x2).bind fun y3 =>
    st_ V (k + 1) 5 x5 y3 fun V4 =>
    f_X5_look_13 k k1 x2 x3 n V4 x4 (x5 + 1))
def f_X5_look (k k1 : Nat) (V : Wd) (x2 : Int32) (x3 : Int32) : Option (Wd) :=
  li_ (f_X8_isHoistFirst (V k 0) x3) fun y1 =>
    f_X5_look_13 k k1 x2 x3 FU_ V y1 0
def f_X5_size (k : Nat) (V : Wd) : Int32 :=
  (V k 3)
def f_X5_wordAt (k : Nat) (V : Wd) (x1 : Int32) : Option (Int32) :=
  if (f_X8_isBelow x1 5) = 0 then
      (some (-6))
    else
      ((rd_ (V (k + 2)) 5 x1).bind fun y1 =>
    some y1)
def f_X5_countKnown_4 (k : Nat) (V : Wd) : Nat → Int32 → Int32 → Option (Int32)
  | 0, _, _ => none
  | n + 1, x1, x2 =>
    if (V k 3) ≤ x2 then
      (some x1)
    else
      (if 5 ≤ x2 then
      (some x1)
    else
      ((rd_ (V (k + 2)) 5 x2).bind fun y1 =>
    if y1 = (-6) then
      (f_X5_countKnown_4 k V n x1 (x2 + 1))
    else
      (f_X5_countKnown_4 k V n (x1 + 1) (x2 + 1))))
def f_X5_countKnown (k : Nat) (V : Wd) : Option (Int32) :=
  f_X5_countKnown_4 k V FU_ 0 0
def f_X5_knowsAll (k : Nat) (V : Wd) : Option (Int32) :=
  if (V k 3) ≤ 0 then
      (some 0)
    else
      ((f_X5_countKnown k V).bind fun y1 =>
    if y1 = (V k 3) then
      (some 1)
    else
      (some 0))
def f_X5_agreesWith_22 (k k1 : Nat) (V : Wd) : Nat → Int32 → Option (Int32)
  | 0, _ => none
  | n + 1, x2 =>
    if (V k 3) ≤ x2 then
      (some 1)
    else
      (if 5 ≤ x2 then
      (some 1)
    else
      ((rd_ (V (k + 2)) 5 x2).bind fun y4 =>
    (rd_ (V (k1 + 2)) 5 x2).bind fun y5 =>
    if y4 = y5 then
      (f_X5_agreesWith_22 k k1 V n (x2 + 1))
    else
      (some 0)))
def f_X5_agreesWith (k k1 : Nat) (V : Wd) : Option (Int32) :=
  (f_X5_knowsAll k V).bind fun y1 =>
    if y1 = 0 then
      (some 0)
    else
      (if (V k 3) = (V k1 3) then
      (f_X5_agreesWith_22 k k1 V FU_ 0)
    else
      (some 0))
def f_X8_recordAndBringPennantDown (V : Wd) : Option (Wd) :=
  (f_X2_record 1 V).bind fun V1 =>
    li_ (u2 V1 1 8 0) fun V2 =>
    some V2
def f_X8_paint (V : Wd) (x1 : Int32) (x2 : Int32) (x3 : Int32) (x4 : Int32) : Option (Int32 × Wd) :=
  if (f_X8_isBelow x1 10) = 0 then
      (some ((-1), V))
    else
      (if (f_X8_isBelow x2 8) = 0 then
      (some ((-2), V))
    else
      (if (f_X8_isBelow x3 8) = 0 then
      (some ((-2), V))
    else
      (if (f_X8_isBelow x4 10) = 0 then
      (some ((-2), V))
    else
      ((f_X8_recordAndBringPennantDown V).bind fun V1 =>
    (f_X1_change 2 V1 x1 x2 x3 x4).bind fun V2 =>
    (f_X1_countWith 2 V2 x2 x3).bind fun y3 =>
    some (y3, V2)))))
def f_X8_setStock (V : Wd) (x1 : Int32) : Option (Int32 × Wd) :=
  if x1 < 1 then
      (some ((-2), V))
    else
      (if x1 ≤ 3 then
      ((f_X3_mostOfAKind 6 V).bind fun y1 =>
    if y1 ≤ x1 then
      ((f_X2_record 1 V).bind fun V2 =>
    li_ (V2 1 4) fun y3 =>
    li_ (u2 V2 1 4 x1) fun V4 =>
    some (y3, V4))
    else
      (some ((-3), V)))
    else
      (some ((-2), V)))
def f_X8_setWind (V : Wd) (x1 : Int32) (x2 : Int32) : Option (Int32 × Wd) :=
  if (f_X8_isBelow x1 10) = 0 then
      (some ((-2), V))
    else
      (if (f_X8_isBelow x2 2) = 0 then
      (some ((-2), V))
    else
      ((f_X8_recordAndBringPennantDown V).bind fun V1 =>
    li_ (V1 1 5) fun y2 =>
    li_ (u2 V1 1 5 x1) fun V3 =>
    li_ (u2 V3 1 6 x2) fun V4 =>
    some (y2, V4)))
def f_X8_flag (V : Wd) (x1 : Int32) (x2 : Int32) : Option (Int32) :=
  if (f_X8_isBelow x1 10) = 0 then
      (some (-1))
    else
      (if x2 = 0 then
      ((f_X1_atHoist 2 V x1).bind fun y2 =>
    some y2)
    else
      (if x2 = 1 then
      ((f_X1_atFly 2 V x1).bind fun y4 =>
    some y4)
    else
      (if x2 = 2 then
      ((f_X1_weightOf 2 V x1).bind fun y6 =>
    some y6)
    else
      (if x2 = 3 then
      ((f_X3_countOf 6 V x1).bind fun y8 =>
    some ((V 1 4) - y8))
    else
      (if x2 = 4 then
      ((f_X1_atFly 2 V x1).bind fun y10 =>
    (f_X1_atHoist 2 V x1).bind fun y11 =>
    (f_X1_firstWith 2 V y10 y11).bind fun y12 =>
    some y12)
    else
      (some (-2)))))))
def f_X8_isSign (x0 : Int32) : Int32 :=
  if (f_X8_isBelow x0 10) = 0 then
      (if x0 ≤ 10 then
      (0)
    else
      (if 13 < x0 then
      (0)
    else
      (1)))
    else
      (1)
def f_X8_bend_46 (x1 : Int32) (x2 : Int32) (V : Wd) (x3 : Int32) : Option (Int32 × Wd) :=
  if 4 ≤ x3 then
      (some ((-4), V))
    else
      ((f_X3_countOf 6 V x2).bind fun y6 =>
    if y6 < (V 1 4) then
      ((f_X8_recordAndBringPennantDown V).bind fun V7 =>
    (f_X3_add 6 V7 x1 x2).bind fun V8 =>
    some ((x3 + 1), V8))
    else
      (some ((-4), V)))
def f_X8_bend (V : Wd) (x1 : Int32) (x2 : Int32) : Option (Int32 × Wd) :=
  if (f_X8_isBelow x1 5) = 0 then
      (some ((-1), V))
    else
      (if (f_X8_isSign x2) = 0 then
      (some ((-1), V))
    else
      ((f_X3_sizeOf 6 V x1).bind fun y1 =>
    if x2 ≤ 10 then
      (f_X8_bend_46 x1 x2 V y1)
    else
      (if (x2 - 10) ≤ y1 then
      (f_X8_bend_46 x1 x2 V y1)
    else
      (some ((-3), V)))))
def f_X8_unbend (V : Wd) (x1 : Int32) : Option (Int32 × Wd) :=
  if (f_X8_isBelow x1 5) = 0 then
      (some ((-1), V))
    else
      ((f_X3_sizeOf 6 V x1).bind fun y1 =>
    if y1 = 0 then
      (some ((-3), V))
    else
      ((f_X8_recordAndBringPennantDown V).bind fun V2 =>
    (f_X3_removeLowest 6 V2 x1).bind fun q3 =>
    some (q3.1, q3.2)))
def f_X8_exchange (V : Wd) (x1 : Int32) (x2 : Int32) : Option (Int32 × Wd) :=
  if (f_X8_isBelow x1 5) = 0 then
      (some ((-1), V))
    else
      (if (f_X8_isBelow x2 5) = 0 then
      (some ((-1), V))
    else
      (if x1 = x2 then
      (some ((-2), V))
    else
      ((f_X8_recordAndBringPennantDown V).bind fun V1 =>
    (f_X3_swap 6 V1 x1 x2).bind fun V2 =>
    (f_X3_sizeOf 6 V2 x1).bind fun y3 =>
    (f_X3_sizeOf 6 V2 x2).bind fun y4 =>
    some ((y3 + y4), V2))))
def f_X8_readingOf (V : Wd) (x1 : Int32) : Nat :=
  if x1 = 0 then
      (106)
    else
      (109)
def f_X8_read (V : Wd) (x1 : Int32) : Option (Nat × Wd) :=
  li_ (f_X8_readingOf V x1) fun r2 => if kd r2 = 8 then
    ((f_X5_look r2 1 V (V 1 5) (V 1 6)).bind fun V3 =>
    some (r2, V3)) else none
def f_X8_lower_16 (V : Wd) (s0 : Int32) : Option (Int32 × Wd) :=
  (f_X8_recordAndBringPennantDown V).bind fun V2 =>
    if s0 = 0 then
      ((f_X3_clear 6 V2).bind fun V3 =>
    some (0, V3))
    else
      ((f_X8_read V2 (V2 1 7)).bind fun q4 =>
    if kd q4.1 = 8 then
    (li_ (f_X5_size q4.1 q4.2) fun y6 =>
    (f_X4_add 12 (q4.1 + 2) q4.2 y6).bind fun V7 =>
    (f_X3_clear 6 V7).bind fun V8 =>
    some (y6, V8)) else none)
def f_X8_lower (V : Wd) : Option (Int32 × Wd) :=
  if (V 1 8) = 2 then
      (f_X8_lower_16 V 1)
    else
      (f_X8_lower_16 V 0)
def f_X8_sign (V : Wd) (x1 : Int32) (x2 : Int32) (x3 : Int32) : Option (Int32) :=
  (f_X3_has 6 V x1 x2).bind fun y1 =>
    if y1 = 0 then
      (some (-1))
    else
      (if x3 = 0 then
      ((f_X3_signAt 6 V x1 x2).bind fun y3 =>
    some y3)
    else
      (if x3 = 1 then
      ((f_X3_flagAt 6 V x1 x2).bind fun y5 =>
    some y5)
    else
      (if x3 = 2 then
      ((f_X3_flagAt 6 V x1 x2).bind fun y7 =>
    (f_X1_weightOf 2 V y7).bind fun y8 =>
    if y8 ≤ (V 1 5) then
      (some 0)
    else
      (some 1))
    else
      (some (-2)))))
def f_X8_isFlagsNumber_5 (x0 : Int32) : Nat → Int32 → Int32 → Option (Int32)
  | 0, _, _ => none
  | n + 1, x1, x2 =>
    if 4 < x2 then
      (some 0)
    else
      (if x0 < x1 then
      (li_ (x1 * 10) fun y1 =>
    f_X8_isFlagsNumber_5 x0 n y1 (x2 + 1))
    else
      (if (2 * x1) ≤ x0 then
      (li_ (x1 * 10) fun y2 =>
    f_X8_isFlagsNumber_5 x0 n y2 (x2 + 1))
    else
      (some 1)))
def f_X8_isFlagsNumber (x0 : Int32) : Option (Int32) :=
  f_X8_isFlagsNumber_5 x0 FU_ 10 1
def f_X8_enter (V : Wd) (x1 : Int32) (x2 : Int32) : Option (Int32 × Wd) :=
  (f_X8_isFlagsNumber x1).bind fun y1 =>
    if y1 = 0 then
      (some ((-2), V))
    else
      (if (f_X8_isBelow x2 100) = 0 then
      (some ((-2), V))
    else
      (if (f_X0_size 9 V) < 12 then
      ((f_X8_recordAndBringPennantDown V).bind fun V2 =>
    (f_X0_add 9 V2 x1 x2).bind fun V3 =>
    some ((f_X0_size 9 V3), V3))
    else
      (some ((-4), V))))
def f_X8_strike (V : Wd) (x1 : Int32) : Option (Int32 × Wd) :=
  if (f_X8_isBelow x1 (f_X0_size 9 V)) = 0 then
      (some ((-1), V))
    else
      ((f_X8_recordAndBringPennantDown V).bind fun V1 =>
    (f_X0_remove 9 V1 x1).bind fun q2 =>
    some (q2.1, q2.2))
def f_X8_entry (V : Wd) (x1 : Int32) (x2 : Int32) : Option (Int32) :=
  if (f_X8_isBelow x1 (f_X0_size 9 V)) = 0 then
      (some (-1))
    else
      (if x2 = 0 then
      ((f_X0_flagsAt 9 V x1).bind fun y1 =>
    some y1)
    else if x2 = 1 then
      ((f_X0_wordAt 9 V x1).bind fun y2 =>
    some y2)
    else
      (some (-2)))
def f_X8_seen (V : Wd) (x1 : Int32) (x2 : Int32) (x3 : Int32) : Option (Int32) :=
  if (f_X8_isBelow x1 2) = 0 then
      (some (-2))
    else
      ((f_X3_has 6 V x2 x3).bind fun y1 =>
    if y1 = 0 then
      (some (-1))
    else
      ((f_X3_flagAt 6 V x2 x3).bind fun y2 =>
    (f_X1_takenFor 2 V y2 (f_X8_isHoistFirst x1 (V 1 6)) (V 1 5)).bind fun y3 =>
    some y3))
def f_X8_word (V : Wd) (x1 : Int32) (x2 : Int32) : Option (Int32 × Wd) :=
  if (f_X8_isBelow x1 2) = 0 then
      (some ((-2), V))
    else
      ((f_X8_read V x1).bind fun q1 =>
    if kd q1.1 = 8 then
    (if (f_X8_isBelow x2 (f_X5_size q1.1 q1.2)) = 0 then
      (some ((-1), q1.2))
    else
      ((f_X5_wordAt q1.1 q1.2 x2).bind fun y3 =>
    some (y3, q1.2))) else none)
def f_X8_known (V : Wd) (x1 : Int32) : Option (Int32 × Wd) :=
  if (f_X8_isBelow x1 2) = 0 then
      (some ((-2), V))
    else
      ((f_X8_read V x1).bind fun q1 =>
    if kd q1.1 = 8 then
    ((f_X5_countKnown q1.1 q1.2).bind fun y3 =>
    some (y3, q1.2)) else none)
def f_X8_isSame (V : Wd) : Option (Int32 × Wd) :=
  (f_X8_read V 0).bind fun q1 =>
    if kd q1.1 = 8 then
    ((f_X8_read q1.2 1).bind fun q3 =>
    if kd q3.1 = 8 then
    ((f_X5_agreesWith q1.1 q3.1 q3.2).bind fun y5 =>
    if y5 = 0 then
      (some (0, q3.2))
    else
      (some (1, q3.2))) else none) else none
def f_X8_sail (V : Wd) (x1 : Int32) : Option (Int32 × Wd) :=
  if (f_X8_isBelow x1 2) = 0 then
      (some ((-2), V))
    else
      ((f_X8_recordAndBringPennantDown V).bind fun V1 =>
    li_ (V1 1 7) fun y2 =>
    li_ (u2 V1 1 7 x1) fun V3 =>
    some (y2, V3))
def f_X8_answer_58 (V : Wd) : Option (Int32 × Wd) :=
  (f_X2_record 1 V).bind fun V9 =>
    if (V9 1 8) = 0 then
      (li_ (u2 V9 1 8 1) fun V11 =>
    some ((V11 1 8), V11))
    else
      (li_ (u2 V9 1 8 2) fun V10 =>
    some ((V10 1 8), V10))
def f_X8_answer (V : Wd) : Option (Int32 × Wd) :=
  (f_X3_countAll 6 V).bind fun y1 =>
    if y1 = 0 then
      (some ((-3), V))
    else
      (if (V 1 8) = 2 then
      (some ((-3), V))
    else
      (if (V 1 8) = 1 then
      ((f_X8_read V (V 1 7)).bind fun q2 =>
    if kd q2.1 = 8 then
    ((f_X5_knowsAll q2.1 q2.2).bind fun y4 =>
    if y4 = 0 then
      (some ((-3), q2.2))
    else
      (f_X8_answer_58 q2.2)) else none)
    else
      (f_X8_answer_58 V)))
def f_X8_logged (V : Wd) (x1 : Int32) (x2 : Int32) : Option (Int32) :=
  if (f_X8_isBelow x1 (f_X4_size 12 V)) = 0 then
      (some (-1))
    else
      (if x2 < 0 then
      (some (-2))
    else
      (if x2 ≤ 5 then
      ((f_X4_wordsOf 12 V x1).bind fun y1 =>
    if x2 ≤ y1 then
      (if x2 = 0 then
      ((f_X4_wordsOf 12 V x1).bind fun y3 =>
    some y3)
    else
      ((f_X4_wordAt 12 V x1 (x2 - 1)).bind fun y2 =>
    some y2))
    else
      (some (-1)))
    else
      (some (-2))))
def f_X8_total (V : Wd) (x1 : Int32) : Option (Int32) :=
  if x1 = 0 then
      (some (V 1 5))
    else
      (if x1 = 1 then
      (some (V 1 6))
    else
      (if x1 = 2 then
      (some (V 1 4))
    else
      (if x1 = 3 then
      ((f_X3_countAll 6 V).bind fun y5 =>
    some y5)
    else
      (if x1 = 4 then
      ((f_X3_countNotEmpty 6 V).bind fun y7 =>
    some y7)
    else
      (if x1 = 5 then
      (some (f_X0_size 9 V))
    else
      (if x1 = 6 then
      (some (V 1 7))
    else
      (if x1 = 7 then
      (some (V 1 8))
    else
      (if x1 = 8 then
      (some (f_X4_size 12 V))
    else
      (if x1 = 9 then
      (some (f_X4_countAll 12 V))
    else
      (some (-2)))))))))))
def f_X8_leastWind_19 (x1 : Int32) : Nat → Wd → Nat → Int32 → Option (Int32 × Wd)
  | 0, _, _, _ => none
  | n + 1, V, r2, x3 =>
    if 10 ≤ x3 then
      (some ((-6), V))
    else
      ((f_X5_look r2 1 V x3 (V 1 6)).bind fun V4 =>
    (f_X5_knowsAll r2 V4).bind fun y5 =>
    if y5 = 0 then
      (f_X8_leastWind_19 x1 n V4 r2 (x3 + 1))
    else
      (some (x3, V4)))
def f_X8_leastWind (V : Wd) (x1 : Int32) : Option (Int32 × Wd) :=
  if (f_X8_isBelow x1 2) = 0 then
      (some ((-2), V))
    else
      (li_ (f_X8_readingOf V x1) fun r2 => if kd r2 = 8 then
    (f_X8_leastWind_19 x1 FU_ V r2 0) else none)
def f_X8_ifTurned (V : Wd) (x1 : Int32) : Option (Int32 × Wd) :=
  if (f_X8_isBelow x1 2) = 0 then
      (some ((-2), V))
    else
      (li_ (f_X8_readingOf V x1) fun r2 => if kd r2 = 8 then
    ((f_X5_look r2 1 V (V 1 5) (1 - (V 1 6))).bind fun V3 =>
    (f_X5_countKnown r2 V3).bind fun y4 =>
    some (y4, V3)) else none)
def f_X8_mendingExchange_29 (K20 : Wd → Int32 → Option (Int32 × Wd)) : Nat → Wd → Int32 → Int32 → Option (Int32 × Wd)
  | 0, _, _, _ => none
  | n + 1, V, x1, x2 =>
    if 5 ≤ x2 then
      (K20 V (x1 + 1))
    else
      ((f_X5_arrange 106 V x1 x2).bind fun V9 =>
    (f_X5_arrange 109 V9 x1 x2).bind fun V10 =>
    (f_X5_agreesWith 106 109 V10).bind fun y11 =>
    if y11 = 0 then
      (f_X8_mendingExchange_29 K20 n V10 x1 (x2 + 1))
    else
      (some (((10 * x1) + x2), V10)))
def f_X8_mendingExchange_20 : Nat → Wd → Int32 → Option (Int32 × Wd)
  | 0, _, _ => none
  | n + 1, V, x1 =>
    if 5 ≤ x1 then
      (some ((-6), V))
    else
      (li_ (x1 + 1) fun y7 =>
    f_X8_mendingExchange_29 (fun V1 a1 => f_X8_mendingExchange_20 n V1 a1) FU_ V x1 y7)
def f_X8_mendingExchange (V : Wd) : Option (Int32 × Wd) :=
  (f_X8_read V 0).bind fun q1 =>
    if kd q1.1 = 8 then
    ((f_X8_read q1.2 1).bind fun q3 =>
    if kd q3.1 = 8 then
    ((f_X5_agreesWith q1.1 q3.1 q3.2).bind fun y5 =>
    if y5 = 0 then
      (f_X8_mendingExchange_20 FU_ q3.2 0)
    else
      (some (0, q3.2))) else none) else none
def f_X8_isKnownAsItself_17 (V : Wd) (x1 : Int32) : Nat → Int32 → Int32 → Int32 → Option (Int32)
  | 0, _, _, _ => none
  | n + 1, x2, x3, x4 =>
    if 4 ≤ x4 then
      (some 1)
    else
      (if x3 < 10 then
      (some 1)
    else
      (li_ (x3 - x3 / 10 * 10) fun y2 =>
    (f_X1_takenFor 2 V y2 x2 (V 1 5)).bind fun y3 =>
    if y3 = y2 then
      (li_ (x3 / 10) fun y4 =>
    f_X8_isKnownAsItself_17 V x1 n x2 y4 (x4 + 1))
    else
      (some 0)))
def f_X8_isKnownAsItself (V : Wd) (x1 : Int32) : Option (Int32) :=
  li_ (f_X8_isHoistFirst 0 (V 1 6)) fun y1 =>
    f_X8_isKnownAsItself_17 V x1 FU_ y1 x1 0
def f_X8_lengthOf_4 (x0 : Int32) : Nat → Int32 → Int32 → Option (Int32)
  | 0, _, _ => none
  | n + 1, x1, x2 =>
    if 4 ≤ x1 then
      (some x1)
    else
      (if x2 < 10 then
      (some x1)
    else
      (li_ (x2 / 10) fun y1 =>
    f_X8_lengthOf_4 x0 n (x1 + 1) y1))
def f_X8_lengthOf (x0 : Int32) : Option (Int32) :=
  f_X8_lengthOf_4 x0 FU_ 0 x0
def f_X8_bestEntry_20 (V : Wd) (x1 : Int32) : Nat → Int32 → Int32 → Int32 → Option (Int32)
  | 0, _, _, _ => none
  | n + 1, x2, x3, x4 =>
    if (f_X0_size 9 V) ≤ x4 then
      (some x2)
    else
      ((f_X0_flagsAt 9 V x4).bind fun y2 =>
    (f_X8_lengthOf y2).bind fun y3 =>
    (f_X0_wordAt 9 V x4).bind fun y4 =>
    if y4 = x1 then
      (if x3 ≤ y3 then
      (f_X8_bestEntry_20 V x1 n x2 x3 (x4 + 1))
    else
      ((f_X8_isKnownAsItself V y2).bind fun y5 =>
    if y5 = 0 then
      (f_X8_bestEntry_20 V x1 n x2 x3 (x4 + 1))
    else
      (f_X8_bestEntry_20 V x1 n x4 y3 (x4 + 1))))
    else
      (f_X8_bestEntry_20 V x1 n x2 x3 (x4 + 1)))
def f_X8_bestEntry (V : Wd) (x1 : Int32) : Option (Int32) :=
  if (f_X8_isBelow x1 100) = 0 then
      (some (-2))
    else
      (f_X8_bestEntry_20 V x1 FU_ (-6) 5 0)

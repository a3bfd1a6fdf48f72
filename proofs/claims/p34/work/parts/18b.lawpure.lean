def f_L_law_1602 (xs : Nat → Int32) (L : Nat) (K126 : Wd → Int32 → Option (Int32 × Wd)) (V : Wd) (x7 : Int32) (x12 : Int32) (s0 : Int32) (s1 : Int32) : Option (Int32 × Wd) :=
  st_ V 122 7 s1 s0 fun V159 =>
    if x12 = 0 then
      (some (0, V159))
    else
      ((f_L_mast V159).bind fun q160 =>
    if q160.1 = 0 then
      (some (0, q160.2))
    else
      (if (x7 - x7 / 2 * 2) = 1 then
      (if (70 + x7) < 0 then none else
    (f_L_low (cl_ xs L (70 + x7)) 4).bind fun y162 =>
    (f_L_ahead q160.2 y162).bind fun q163 =>
    if q163.1 = 0 then
      (some (0, q163.2))
    else
      (K126 q163.2 (x7 + 1)))
    else
      (K126 q160.2 (x7 + 1))))
def f_L_law_1586 (xs : Nat → Int32) (L : Nat) (K126 : Wd → Int32 → Option (Int32 × Wd)) (V : Wd) (x7 : Int32) (x12 : Int32) (x13 : Int32) : Option (Int32 × Wd) :=
  if x13 = 0 then
      ((rd_ (V 122) 7 4).bind fun y131 =>
    f_L_law_1602 xs L K126 V x7 x12 y131 4)
    else
      (f_L_law_1602 xs L K126 V x7 x12 0 4)
def f_L_law_377 (xs : Nat → Int32) (L : Nat) (K126 : Wd → Int32 → Option (Int32 × Wd)) (V : Wd) (x7 : Int32) (x13 : Int32) (s0 : Int32) : Option (Int32 × Wd) :=
  f_L_law_1586 xs L K126 V x7 s0 x13
def f_L_law_339 (xs : Nat → Int32) (L : Nat) (K126 : Wd → Int32 → Option (Int32 × Wd)) (V : Wd) (x7 : Int32) (x13 : Int32) (x14 : Int32) (x15 : Int32) : Option (Int32 × Wd) :=
  (rd_ (V 118) 30 (3 * x14)).bind fun y197 =>
    (rd_ (V 118) 30 ((3 * x14) + 1)).bind fun y198 =>
    (rd_ (V 118) 30 ((3 * x14) + 2)).bind fun y199 =>
    (f_X8_paint V x14 y197 y198 y199).bind fun q200 =>
    (f_X9_paint q200.2 x14 y197 y198 y199).bind fun q201 =>
    li_ (gx_ q200.2 q201.2) fun V202 =>
    if q200.1 = x15 then
      (f_L_law_377 xs L K126 V202 x7 x13 1)
    else
      (f_L_law_377 xs L K126 V202 x7 x13 0)
def f_L_law_282 (xs : Nat → Int32) (L : Nat) (K126 : Wd → Int32 → Option (Int32 × Wd)) : Nat → Wd → Int32 → Int32 → Int32 → Int32 → Int32 → Option (Int32 × Wd)
  | 0, _, _, _, _, _, _ => none
  | n + 1, V, x7, x13, x14, x15, x16 =>
    if 10 ≤ x16 then
      (f_L_law_339 xs L K126 V x7 x13 x14 x15)
    else
      ((rd_ (V 118) 30 (3 * x16)).bind fun y169 =>
    (rd_ (V 118) 30 (3 * x14)).bind fun y170 =>
    if y169 = y170 then
      ((rd_ (V 118) 30 ((3 * x16) + 1)).bind fun y172 =>
    (rd_ (V 118) 30 ((3 * x14) + 1)).bind fun y173 =>
    if y172 = y173 then
      (li_ (x15 + 1) fun y175 =>
    f_L_law_282 xs L K126 n V x7 x13 x14 y175 (x16 + 1))
    else
      (li_ (x15 + 0) fun y174 =>
    f_L_law_282 xs L K126 n V x7 x13 x14 y174 (x16 + 1)))
    else
      (li_ (x15 + 0) fun y171 =>
    f_L_law_282 xs L K126 n V x7 x13 x14 y171 (x16 + 1)))
def f_L_law_254 (xs : Nat → Int32) (L : Nat) (K126 : Wd → Int32 → Option (Int32 × Wd)) (V : Wd) (x7 : Int32) (x8 : Int32) (x13 : Int32) (x14 : Int32) (s0 : Int32) (s1 : Int32) (s2 : Int32) : Option (Int32 × Wd) :=
  (f_L_low s1 s0).bind fun y138 =>
    st_ V 118 30 s2 y138 fun V139 =>
    (f_L_low (x8 >>> (18 &&& 31)) 10).bind fun y140 =>
    st_ V139 118 30 ((3 * x14) + 2) y140 fun V141 =>
    f_L_law_282 xs L K126 FU_ V141 x7 x13 x14 0 0
def f_L_law_220 (xs : Nat → Int32) (L : Nat) (K126 : Wd → Int32 → Option (Int32 × Wd)) (V : Wd) (x7 : Int32) (x8 : Int32) (x13 : Int32) (x14 : Int32) (s0 : Int32) (s1 : Int32) (s2 : Int32) : Option (Int32 × Wd) :=
  (f_L_low s1 s0).bind fun y99 =>
    st_ V 118 30 s2 y99 fun V100 =>
    (f_L_low (x8 >>> (25 &&& 31)) 2).bind fun y101 =>
    if y101 = 0 then
      (f_L_law_254 xs L K126 V100 x7 x8 x13 x14 8 (x8 >>> (15 &&& 31)) ((3 * x14) + 1))
    else
      (f_L_law_254 xs L K126 V100 x7 x8 x13 x14 2 (x8 >>> (15 &&& 31)) ((3 * x14) + 1))
def f_L_law_493 (xs : Nat → Int32) (L : Nat) (K126 : Wd → Int32 → Option (Int32 × Wd)) (V : Wd) (x7 : Int32) (x12 : Int32) (x13 : Int32) (s0 : Int32) (s1 : Int32) : Option (Int32 × Wd) :=
  st_ V 122 7 s1 s0 fun V223 =>
    f_L_law_1586 xs L K126 V223 x7 x12 x13
def f_L_law_474 (xs : Nat → Int32) (L : Nat) (K126 : Wd → Int32 → Option (Int32 × Wd)) (V : Wd) (x7 : Int32) (x13 : Int32) (x14 : Int32) (x15 : Int32) (s0 : Int32) : Option (Int32 × Wd) :=
  if x15 = 0 then
      ((rd_ (V 122) 7 0).bind fun y195 =>
    f_L_law_493 xs L K126 V x7 s0 x13 y195 0)
    else
      (f_L_law_493 xs L K126 V x7 s0 x13 x14 0)
def f_L_law_466 (xs : Nat → Int32) (L : Nat) (K126 : Wd → Int32 → Option (Int32 × Wd)) (V : Wd) (x7 : Int32) (x13 : Int32) (x14 : Int32) (x15 : Int32) (s0 : Int32) (s1 : Int32) : Option (Int32 × Wd) :=
  if s1 = s0 then
      (f_L_law_474 xs L K126 V x7 x13 x14 x15 1)
    else
      (f_L_law_474 xs L K126 V x7 x13 x14 x15 0)
def f_L_law_443 (xs : Nat → Int32) (L : Nat) (K126 : Wd → Int32 → Option (Int32 × Wd)) (V : Wd) (x7 : Int32) (x14 : Int32) (x15 : Int32) : Option (Int32 × Wd) :=
  (f_X8_setStock V x14).bind fun q133 =>
    (f_X9_setStock q133.2 x14).bind fun q134 =>
    li_ (gx_ q133.2 q134.2) fun V135 =>
    if x15 = 0 then
      (f_L_law_466 xs L K126 V135 x7 0 x14 x15 (-3) q133.1)
    else
      ((rd_ (V135 122) 7 0).bind fun y136 =>
    f_L_law_466 xs L K126 V135 x7 0 x14 x15 y136 q133.1)
def f_L_law_407 (xs : Nat → Int32) (L : Nat) (K126 : Wd → Int32 → Option (Int32 × Wd)) : Nat → Wd → Int32 → Int32 → Int32 → Int32 → Option (Int32 × Wd)
  | 0, _, _, _, _, _ => none
  | n + 1, V, x7, x14, x15, x16 =>
    if 14 ≤ x16 then
      (f_L_law_443 xs L K126 V x7 x14 x15)
    else
      (if x15 = 0 then
      (f_L_law_407 xs L K126 n V x7 x14 0 (x16 + 1))
    else
      ((f_L_used V x16).bind fun y95 =>
    if x14 < y95 then
      (f_L_law_407 xs L K126 n V x7 x14 0 (x16 + 1))
    else
      (f_L_law_407 xs L K126 n V x7 x14 1 (x16 + 1))))
def f_L_law_546 (xs : Nat → Int32) (L : Nat) (K126 : Wd → Int32 → Option (Int32 × Wd)) (V : Wd) (x7 : Int32) (x13 : Int32) (x14 : Int32) (x15 : Int32) (s0 : Int32) : Option (Int32 × Wd) :=
  st_ V 122 7 1 x14 fun V93 =>
    st_ V93 122 7 2 x15 fun V94 =>
    f_L_law_1586 xs L K126 V94 x7 s0 x13
def f_L_law_734 (xs : Nat → Int32) (L : Nat) (K126 : Wd → Int32 → Option (Int32 × Wd)) (V : Wd) (x7 : Int32) (x12 : Int32) (x13 : Int32) : Option (Int32 × Wd) :=
  f_L_law_1586 xs L K126 V x7 x12 x13
def f_L_law_716 (xs : Nat → Int32) (L : Nat) (K126 : Wd → Int32 → Option (Int32 × Wd)) (V : Wd) (x7 : Int32) (x10 : Int32) (x11 : Int32) (x13 : Int32) (x14 : Int32) (s0 : Int32) : Option (Int32 × Wd) :=
  if x13 = 0 then
      (f_L_law_734 xs L K126 V x7 s0 x13)
    else
      (st_ V 119 20 ((4 * x10) + x11) x14 fun V226 =>
    f_L_law_734 xs L K126 V226 x7 s0 x13)
def f_L_law_708 (xs : Nat → Int32) (L : Nat) (K126 : Wd → Int32 → Option (Int32 × Wd)) (V : Wd) (x7 : Int32) (x10 : Int32) (x11 : Int32) (x13 : Int32) (x14 : Int32) (s0 : Int32) (s1 : Int32) : Option (Int32 × Wd) :=
  if s1 = s0 then
      (f_L_law_716 xs L K126 V x7 x10 x11 x13 x14 1)
    else
      (f_L_law_716 xs L K126 V x7 x10 x11 x13 x14 0)
def f_L_law_674 (xs : Nat → Int32) (L : Nat) (K126 : Wd → Int32 → Option (Int32 × Wd)) (V : Wd) (x7 : Int32) (x10 : Int32) (x11 : Int32) (x14 : Int32) (x15 : Int32) (x16 : Int32) (s0 : Int32) : Option (Int32 × Wd) :=
  (f_X8_bend V x10 x14).bind fun q190 =>
    (f_X9_bend q190.2 x10 x14).bind fun q191 =>
    li_ (gx_ q190.2 q191.2) fun V192 =>
    if x15 = 0 then
      (if x16 = 0 then
      (f_L_law_708 xs L K126 V192 x7 x10 x11 s0 x14 (x11 + 1) q190.1)
    else
      (f_L_law_708 xs L K126 V192 x7 x10 x11 s0 x14 (-4) q190.1))
    else
      (f_L_law_708 xs L K126 V192 x7 x10 x11 s0 x14 (-3) q190.1)
def f_L_law_673 (xs : Nat → Int32) (L : Nat) (K126 : Wd → Int32 → Option (Int32 × Wd)) (V : Wd) (x7 : Int32) (x10 : Int32) (x11 : Int32) (x14 : Int32) (x15 : Int32) (x16 : Int32) : Option (Int32 × Wd) :=
  f_L_law_674 xs L K126 V x7 x10 x11 x14 x15 x16 0
def f_L_law_657 (xs : Nat → Int32) (L : Nat) (K126 : Wd → Int32 → Option (Int32 × Wd)) (V : Wd) (x7 : Int32) (x10 : Int32) (x11 : Int32) (x14 : Int32) (x15 : Int32) (s0 : Int32) : Option (Int32 × Wd) :=
  if x15 = 0 then
      (if s0 = 0 then
      (f_L_law_674 xs L K126 V x7 x10 x11 x14 x15 s0 1)
    else
      (f_L_law_673 xs L K126 V x7 x10 x11 x14 x15 s0))
    else
      (f_L_law_673 xs L K126 V x7 x10 x11 x14 x15 s0)
def f_L_law_652 (xs : Nat → Int32) (L : Nat) (K126 : Wd → Int32 → Option (Int32 × Wd)) (V : Wd) (x7 : Int32) (x10 : Int32) (x11 : Int32) (x14 : Int32) (x15 : Int32) : Option (Int32 × Wd) :=
  f_L_law_657 xs L K126 V x7 x10 x11 x14 x15 1
def f_L_law_631 (xs : Nat → Int32) (L : Nat) (K126 : Wd → Int32 → Option (Int32 × Wd)) (V : Wd) (x7 : Int32) (x10 : Int32) (x11 : Int32) (x14 : Int32) (s0 : Int32) : Option (Int32 × Wd) :=
  if x11 = 4 then
      (f_L_law_652 xs L K126 V x7 x10 x11 x14 s0)
    else
      ((f_L_used V x14).bind fun y127 =>
    (rd_ (V 122) 7 0).bind fun y128 =>
    if y127 < y128 then
      (f_L_law_657 xs L K126 V x7 x10 x11 x14 s0 0)
    else
      (f_L_law_652 xs L K126 V x7 x10 x11 x14 s0))
def f_L_law_630 (xs : Nat → Int32) (L : Nat) (K126 : Wd → Int32 → Option (Int32 × Wd)) (V : Wd) (x7 : Int32) (x10 : Int32) (x11 : Int32) (x14 : Int32) : Option (Int32 × Wd) :=
  f_L_law_631 xs L K126 V x7 x10 x11 x14 0
def f_L_law_607 (xs : Nat → Int32) (L : Nat) (K126 : Wd → Int32 → Option (Int32 × Wd)) (V : Wd) (x7 : Int32) (x10 : Int32) (x11 : Int32) (s0 : Int32) : Option (Int32 × Wd) :=
  if s0 ≤ 9 then
      (f_L_law_630 xs L K126 V x7 x10 x11 s0)
    else
      (if (s0 - 10) ≤ x11 then
      (f_L_law_630 xs L K126 V x7 x10 x11 s0)
    else
      (f_L_law_631 xs L K126 V x7 x10 x11 s0 1))
def f_L_law_791 (xs : Nat → Int32) (L : Nat) (K126 : Wd → Int32 → Option (Int32 × Wd)) (V : Wd) (x7 : Int32) (x10 : Int32) (x11 : Int32) (x13 : Int32) (s0 : Int32) : Option (Int32 × Wd) :=
  if x11 ≤ 0 then
      (f_L_law_1586 xs L K126 V x7 s0 x13)
    else
      (st_ V 119 20 (((4 * x10) + x11) - 1) (-1) fun V155 =>
    f_L_law_1586 xs L K126 V155 x7 s0 x13)
def f_L_law_783 (xs : Nat → Int32) (L : Nat) (K126 : Wd → Int32 → Option (Int32 × Wd)) (V : Wd) (x7 : Int32) (x10 : Int32) (x11 : Int32) (x13 : Int32) (s0 : Int32) (s1 : Int32) : Option (Int32 × Wd) :=
  if s1 = s0 then
      (f_L_law_791 xs L K126 V x7 x10 x11 x13 1)
    else
      (f_L_law_791 xs L K126 V x7 x10 x11 x13 0)
def f_L_law_754 (xs : Nat → Int32) (L : Nat) (K126 : Wd → Int32 → Option (Int32 × Wd)) (V : Wd) (x7 : Int32) (x10 : Int32) (x11 : Int32) (s0 : Int32) : Option (Int32 × Wd) :=
  (f_X8_unbend V x10).bind fun q86 =>
    (f_X9_unbend q86.2 x10).bind fun q87 =>
    li_ (gx_ q86.2 q87.2) fun V88 =>
    if x11 ≤ 0 then
      (f_L_law_783 xs L K126 V88 x7 x10 x11 s0 (-3) q86.1)
    else
      ((rd_ (V88 119) 20 (((4 * x10) + x11) - 1)).bind fun y89 =>
    f_L_law_783 xs L K126 V88 x7 x10 x11 s0 y89 q86.1)
def f_L_law_899 (xs : Nat → Int32) (L : Nat) (K126 : Wd → Int32 → Option (Int32 × Wd)) (V : Wd) (x7 : Int32) (x12 : Int32) (x13 : Int32) : Option (Int32 × Wd) :=
  f_L_law_1586 xs L K126 V x7 x12 x13
def f_L_law_882 (xs : Nat → Int32) (L : Nat) (K126 : Wd → Int32 → Option (Int32 × Wd)) (V : Wd) (x7 : Int32) (x10 : Int32) (x13 : Int32) (x14 : Int32) (s0 : Int32) : Option (Int32 × Wd) :=
  if x14 = x10 then
      (f_L_law_899 xs L K126 V x7 s0 x13)
    else
      ((f_L_swap V x10 x14).bind fun V153 =>
    f_L_law_899 xs L K126 V153 x7 s0 x13)
def f_L_law_874 (xs : Nat → Int32) (L : Nat) (K126 : Wd → Int32 → Option (Int32 × Wd)) (V : Wd) (x7 : Int32) (x10 : Int32) (x13 : Int32) (x14 : Int32) (s0 : Int32) (s1 : Int32) : Option (Int32 × Wd) :=
  if s1 = s0 then
      (f_L_law_882 xs L K126 V x7 x10 x13 x14 1)
    else
      (f_L_law_882 xs L K126 V x7 x10 x13 x14 0)
def f_L_law_843 (xs : Nat → Int32) (L : Nat) (K126 : Wd → Int32 → Option (Int32 × Wd)) (V : Wd) (x7 : Int32) (x10 : Int32) (x11 : Int32) (x14 : Int32) (s0 : Int32) : Option (Int32 × Wd) :=
  (f_X8_exchange V x10 x14).bind fun q81 =>
    (f_X9_exchange q81.2 x10 x14).bind fun q82 =>
    li_ (gx_ q81.2 q82.2) fun V83 =>
    if x14 = x10 then
      (f_L_law_874 xs L K126 V83 x7 x10 s0 x14 (-2) q81.1)
    else
      ((f_L_many V83 x14).bind fun y84 =>
    f_L_law_874 xs L K126 V83 x7 x10 s0 x14 (x11 + y84) q81.1)
def f_L_law_1133 (xs : Nat → Int32) (L : Nat) (K126 : Wd → Int32 → Option (Int32 × Wd)) (V : Wd) (x7 : Int32) (x12 : Int32) (x13 : Int32) : Option (Int32 × Wd) :=
  f_L_law_1586 xs L K126 V x7 x12 x13
def f_L_law_1090 (xs : Nat → Int32) (L : Nat) (K126 : Wd → Int32 → Option (Int32 × Wd)) (V : Wd) (x7 : Int32) (x13 : Int32) (x14 : Int32) (x16 : Int32) (s0 : Int32) : Option (Int32 × Wd) :=
  (rd_ (V 122) 7 5).bind fun y228 =>
    if 12 ≤ y228 then
      (f_L_law_1133 xs L K126 V x7 s0 x13)
    else
      ((rd_ (V 122) 7 5).bind fun y229 =>
    st_ V 120 24 (2 * y229) x14 fun V230 =>
    (rd_ (V230 122) 7 5).bind fun y231 =>
    st_ V230 120 24 ((2 * y231) + 1) x16 fun V232 =>
    (rd_ (V232 122) 7 5).bind fun y233 =>
    st_ V232 122 7 5 (y233 + 1) fun V234 =>
    f_L_law_1133 xs L K126 V234 x7 s0 x13)
def f_L_law_1082 (xs : Nat → Int32) (L : Nat) (K126 : Wd → Int32 → Option (Int32 × Wd)) (V : Wd) (x7 : Int32) (x13 : Int32) (x14 : Int32) (x16 : Int32) (s0 : Int32) (s1 : Int32) : Option (Int32 × Wd) :=
  if s1 = s0 then
      (f_L_law_1090 xs L K126 V x7 x13 x14 x16 1)
    else
      (f_L_law_1090 xs L K126 V x7 x13 x14 x16 0)
def f_L_law_1052 (xs : Nat → Int32) (L : Nat) (K126 : Wd → Int32 → Option (Int32 × Wd)) (V : Wd) (x7 : Int32) (x14 : Int32) (x16 : Int32) (s0 : Int32) : Option (Int32 × Wd) :=
  (f_X8_enter V x14 x16).bind fun q216 =>
    (f_X9_enter q216.2 x14 x16).bind fun q217 =>
    li_ (gx_ q216.2 q217.2) fun V218 =>
    (rd_ (V218 122) 7 5).bind fun y219 =>
    if 12 ≤ y219 then
      (f_L_law_1082 xs L K126 V218 x7 s0 x14 x16 (-4) q216.1)
    else
      ((rd_ (V218 122) 7 5).bind fun y220 =>
    f_L_law_1082 xs L K126 V218 x7 s0 x14 x16 (y220 + 1) q216.1)
def f_L_law_1033 (xs : Nat → Int32) (L : Nat) (K126 : Wd → Int32 → Option (Int32 × Wd)) (V : Wd) (x7 : Int32) (x14 : Int32) (s0 : Int32) (s1 : Int32) : Option (Int32 × Wd) :=
  (f_L_low s1 s0).bind fun y187 =>
    (rd_ (V 122) 7 5).bind fun y188 =>
    if 12 ≤ y188 then
      (f_L_law_1052 xs L K126 V x7 x14 y187 0)
    else
      (f_L_law_1052 xs L K126 V x7 x14 y187 1)
def f_L_law_1008 (xs : Nat → Int32) (L : Nat) (K126 : Wd → Int32 → Option (Int32 × Wd)) (V : Wd) (x7 : Int32) (x8 : Int32) (s0 : Int32) : Option (Int32 × Wd) :=
  (f_L_low (x8 >>> (25 &&& 31)) 2).bind fun y151 =>
    if y151 = 0 then
      (f_L_law_1033 xs L K126 V x7 s0 100 (x8 >>> (16 &&& 31)))
    else
      (f_L_law_1033 xs L K126 V x7 s0 4 (x8 >>> (16 &&& 31)))
def f_L_law_985 (xs : Nat → Int32) (L : Nat) (K126 : Wd → Int32 → Option (Int32 × Wd)) (V : Wd) (x7 : Int32) (x8 : Int32) (x11 : Int32) (x14 : Int32) : Option (Int32 × Wd) :=
  if x11 = 0 then
      ((f_L_low (x8 >>> (10 &&& 31)) 10).bind fun y123 =>
    f_L_law_1008 xs L K126 V x7 x8 (10 + y123))
    else
      (f_L_law_1008 xs L K126 V x7 x8 x14)
def f_L_law_926 (xs : Nat → Int32) (L : Nat) (K126 : Wd → Int32 → Option (Int32 × Wd)) : Nat → Wd → Int32 → Int32 → Int32 → Int32 → Int32 → Int32 → Int32 → Option (Int32 × Wd)
  | 0, _, _, _, _, _, _, _, _ => none
  | n + 1, V, x7, x8, x10, x11, x14, x15, x16 =>
    if x11 ≤ x16 then
      (f_L_law_985 xs L K126 V x7 x8 x11 x14)
    else
      ((f_L_stands V x10 x16).bind fun y74 =>
    (f_L_taken V x15 y74).bind fun y75 =>
    if 0 ≤ y75 then
      (li_ ((10 * x14) + y75) fun y76 =>
    f_L_law_926 xs L K126 n V x7 x8 x10 x11 y76 x15 (x16 + 1))
    else
      ((f_L_low (x8 >>> (10 &&& 31)) 10).bind fun y77 =>
    li_ ((10 * x14) + y77) fun y78 =>
    f_L_law_926 xs L K126 n V x7 x8 x10 x11 y78 x15 (x16 + 1)))
def f_L_law_1228 (xs : Nat → Int32) (L : Nat) (K126 : Wd → Int32 → Option (Int32 × Wd)) (V : Wd) (x7 : Int32) (x12 : Int32) (x13 : Int32) : Option (Int32 × Wd) :=
  f_L_law_1586 xs L K126 V x7 x12 x13
def f_L_law_1203 (xs : Nat → Int32) (L : Nat) (K126 : Wd → Int32 → Option (Int32 × Wd)) : Nat → Wd → Int32 → Int32 → Int32 → Int32 → Option (Int32 × Wd)
  | 0, _, _, _, _, _ => none
  | n + 1, V, x7, x12, x13, x15 =>
    if 22 ≤ x15 then
      (f_L_law_1228 xs L K126 V x7 x12 x13)
    else
      ((rd_ (V 120) 24 (x15 + 2)).bind fun y71 =>
    st_ V 120 24 x15 y71 fun V72 =>
    f_L_law_1203 xs L K126 n V72 x7 x12 x13 (x15 + 1))
def f_L_law_1267 (xs : Nat → Int32) (L : Nat) (K126 : Wd → Int32 → Option (Int32 × Wd)) (V : Wd) (x7 : Int32) (x13 : Int32) (x14 : Int32) (s0 : Int32) : Option (Int32 × Wd) :=
  st_ V 122 7 3 x14 fun V122 =>
    f_L_law_1586 xs L K126 V122 x7 s0 x13
def f_L_law_1486 (xs : Nat → Int32) (L : Nat) (K126 : Wd → Int32 → Option (Int32 × Wd)) (V : Wd) (x7 : Int32) (x12 : Int32) (x13 : Int32) : Option (Int32 × Wd) :=
  f_L_law_1586 xs L K126 V x7 x12 x13
def f_L_law_1468 (xs : Nat → Int32) (L : Nat) (K126 : Wd → Int32 → Option (Int32 × Wd)) : Nat → Wd → Int32 → Int32 → Int32 → Int32 → Option (Int32 × Wd)
  | 0, _, _, _, _, _ => none
  | n + 1, V, x7, x12, x13, x15 =>
    if 20 ≤ x15 then
      (f_L_law_1486 xs L K126 V x7 x12 x13)
    else
      (st_ V 119 20 x15 (-1) fun V142 =>
    f_L_law_1468 xs L K126 n V142 x7 x12 x13 (x15 + 1))
def f_L_law_1440 (xs : Nat → Int32) (L : Nat) (K126 : Wd → Int32 → Option (Int32 × Wd)) (V : Wd) (x7 : Int32) (x13 : Int32) (x14 : Int32) : Option (Int32 × Wd) :=
  (rd_ (V 122) 7 6).bind fun y210 =>
    st_ V 122 7 6 (y210 + 1) fun V211 =>
    (f_X8_lower V211).bind fun q212 =>
    (f_X9_lower q212.2).bind fun q213 =>
    li_ (gx_ q212.2 q213.2) fun V214 =>
    if q212.1 = x14 then
      (f_L_law_1468 xs L K126 FU_ V214 x7 1 x13 0)
    else
      (f_L_law_1468 xs L K126 FU_ V214 x7 0 x13 0)
def f_L_law_1394 (xs : Nat → Int32) (L : Nat) (K126 : Wd → Int32 → Option (Int32 × Wd)) : Nat → Wd → Int32 → Int32 → Int32 → Int32 → Int32 → Option (Int32 × Wd)
  | 0, _, _, _, _, _, _ => none
  | n + 1, V, x7, x13, x14, x15, x16 =>
    if x14 ≤ x16 then
      (f_L_law_1440 xs L K126 V x7 x13 x14)
    else
      ((rd_ (V 122) 7 3).bind fun y181 =>
    (rd_ (V 122) 7 3).bind fun y182 =>
    (f_L_nth V y182 x16).bind fun y183 =>
    (f_L_word V y181 y183).bind fun y184 =>
    st_ V 121 48 ((x15 + 1) + x16) y184 fun V185 =>
    f_L_law_1394 xs L K126 n V185 x7 x13 x14 x15 (x16 + 1))
def f_L_law_1348 (xs : Nat → Int32) (L : Nat) (K126 : Wd → Int32 → Option (Int32 × Wd)) : Nat → Wd → Int32 → Int32 → Int32 → Int32 → Int32 → Option (Int32 × Wd)
  | 0, _, _, _, _, _, _ => none
  | n + 1, V, x7, x13, x14, x15, x16 =>
    if 42 ≤ x16 then
      (st_ V 121 48 x15 x14 fun V144 =>
    f_L_law_1394 xs L K126 FU_ V144 x7 x13 x14 x15 0)
    else
      ((rd_ (V 122) 7 6).bind fun y145 =>
    if y145 ≤ 7 then
      (st_ V 121 48 x15 x14 fun V146 =>
    f_L_law_1394 xs L K126 FU_ V146 x7 x13 x14 x15 0)
    else
      ((rd_ (V 121) 48 (x16 + 6)).bind fun y147 =>
    st_ V 121 48 x16 y147 fun V148 =>
    f_L_law_1348 xs L K126 n V148 x7 x13 x14 x15 (x16 + 1)))
def f_L_law_1313 (xs : Nat → Int32) (L : Nat) (K126 : Wd → Int32 → Option (Int32 × Wd)) (V : Wd) (x7 : Int32) (x13 : Int32) (s0 : Int32) : Option (Int32 × Wd) :=
  if s0 ≤ 0 then
      ((f_X8_lower V).bind fun q113 =>
    (f_X9_lower q113.2).bind fun q114 =>
    li_ (gx_ q113.2 q114.2) fun V115 =>
    if q113.1 = s0 then
      (f_L_law_1468 xs L K126 FU_ V115 x7 1 x13 0)
    else
      (f_L_law_1468 xs L K126 FU_ V115 x7 0 x13 0))
    else
      ((rd_ (V 122) 7 6).bind fun y117 =>
    if 8 ≤ y117 then
      (f_L_law_1348 xs L K126 FU_ V x7 x13 s0 42 0)
    else
      ((rd_ (V 122) 7 6).bind fun y118 =>
    li_ (6 * y118) fun y119 =>
    f_L_law_1348 xs L K126 FU_ V x7 x13 s0 y119 0))
def f_L_law_1584 (xs : Nat → Int32) (L : Nat) (K126 : Wd → Int32 → Option (Int32 × Wd)) (V : Wd) (x7 : Int32) (x13 : Int32) (s0 : Int32) : Option (Int32 × Wd) :=
  f_L_law_1586 xs L K126 V x7 s0 x13
def f_L_law_1576 (xs : Nat → Int32) (L : Nat) (K126 : Wd → Int32 → Option (Int32 × Wd)) (V : Wd) (x7 : Int32) (x13 : Int32) (s0 : Int32) (s1 : Int32) : Option (Int32 × Wd) :=
  if s1 = s0 then
      (f_L_law_1584 xs L K126 V x7 x13 1)
    else
      (f_L_law_1584 xs L K126 V x7 x13 0)
def f_L_law_1556 (xs : Nat → Int32) (L : Nat) (K126 : Wd → Int32 → Option (Int32 × Wd)) (V : Wd) (x7 : Int32) (x13 : Int32) (x14 : Int32) (s0 : Int32) (s1 : Int32) (s2 : Int32) : Option (Int32 × Wd) :=
  st_ V 122 7 s2 (s1 + s0) fun V204 =>
    (f_X8_answer V204).bind fun q205 =>
    (f_X9_answer q205.2).bind fun q206 =>
    li_ (gx_ q205.2 q206.2) fun V207 =>
    if x14 = 0 then
      (f_L_law_1576 xs L K126 V207 x7 x13 (-3) q205.1)
    else
      ((rd_ (V207 122) 7 4).bind fun y208 =>
    f_L_law_1576 xs L K126 V207 x7 x13 y208 q205.1)
def f_L_law_1536 (xs : Nat → Int32) (L : Nat) (K126 : Wd → Int32 → Option (Int32 × Wd)) (V : Wd) (x7 : Int32) (s0 : Int32) : Option (Int32 × Wd) :=
  (rd_ (V 122) 7 4).bind fun y179 =>
    if s0 = 0 then
      (f_L_law_1556 xs L K126 V x7 0 s0 0 y179 4)
    else
      (f_L_law_1556 xs L K126 V x7 0 s0 1 y179 4)
def f_L_law_1531 (xs : Nat → Int32) (L : Nat) (K126 : Wd → Int32 → Option (Int32 × Wd)) (V : Wd) (x7 : Int32) : Option (Int32 × Wd) :=
  f_L_law_1536 xs L K126 V x7 1
def f_L_law_1535 (xs : Nat → Int32) (L : Nat) (K126 : Wd → Int32 → Option (Int32 × Wd)) (V : Wd) (x7 : Int32) : Option (Int32 × Wd) :=
  f_L_law_1536 xs L K126 V x7 0
def f_L_law_1489 (xs : Nat → Int32) (L : Nat) (K126 : Wd → Int32 → Option (Int32 × Wd)) (V : Wd) (x7 : Int32) : Option (Int32 × Wd) :=
  (f_L_hoists V).bind fun y103 =>
    if y103 ≤ 0 then
      (f_L_law_1535 xs L K126 V x7)
    else
      ((rd_ (V 122) 7 4).bind fun y104 =>
    if y104 = 0 then
      (f_L_law_1531 xs L K126 V x7)
    else
      ((rd_ (V 122) 7 4).bind fun y105 =>
    if y105 = 1 then
      ((rd_ (V 122) 7 3).bind fun y106 =>
    (f_L_known V y106).bind fun y107 =>
    (f_L_hoists V).bind fun y108 =>
    if y107 = y108 then
      (f_L_law_1531 xs L K126 V x7)
    else
      (f_L_law_1535 xs L K126 V x7))
    else
      (f_L_law_1535 xs L K126 V x7)))
def f_L_law_1231 (xs : Nat → Int32) (L : Nat) (K126 : Wd → Int32 → Option (Int32 × Wd)) (V : Wd) (x7 : Int32) (x8 : Int32) (x9 : Int32) (x13 : Int32) : Option (Int32 × Wd) :=
  if x9 = 17 then
      ((f_L_low (x8 >>> (8 &&& 31)) 2).bind fun y64 =>
    (f_X8_sail V y64).bind fun q65 =>
    (f_X9_sail q65.2 y64).bind fun q66 =>
    li_ (gx_ q65.2 q66.2) fun V67 =>
    (rd_ (V67 122) 7 3).bind fun y68 =>
    if q65.1 = y68 then
      (f_L_law_1267 xs L K126 V67 x7 x13 y64 1)
    else
      (f_L_law_1267 xs L K126 V67 x7 x13 y64 0))
    else
      (if x9 = 18 then
      ((f_L_low (x8 >>> (8 &&& 31)) 2).bind fun y58 =>
    if y58 = 0 then
      ((rd_ (V 122) 7 4).bind fun y59 =>
    if y59 = 2 then
      ((f_L_hoists V).bind fun y60 =>
    f_L_law_1313 xs L K126 V x7 x13 y60)
    else
      (f_L_law_1313 xs L K126 V x7 x13 0))
    else
      (f_L_law_1489 xs L K126 V x7))
    else
      (f_L_law_1489 xs L K126 V x7))
def f_L_law_126 (xs : Nat → Int32) (L : Nat) : Nat → Wd → Int32 → Option (Int32 × Wd)
  | 0, _, _ => none
  | n + 1, V, x7 =>
    if 64 ≤ x7 then
      (some (1, V))
    else
      (if x7 < 0 then none else
    li_ (cl_ xs L x7) fun y10 =>
    (f_L_low y10 22).bind fun y11 =>
    (f_L_low (y10 >>> (5 &&& 31)) 5).bind fun y12 =>
    (f_L_many V y12).bind fun y13 =>
    if 2 ≤ y11 then
      (if y11 = 2 then
      ((f_L_low (y10 >>> (8 &&& 31)) 3).bind fun y50 =>
    li_ (1 + y50) fun y51 =>
    f_L_law_407 xs L (fun V1 a7 => f_L_law_126 xs L n V1 a7) FU_ V x7 y51 1 0)
    else
      (if 5 ≤ y11 then
      (if 10 ≤ y11 then
      (if y11 = 10 then
      (if y13 ≤ 0 then
      (f_L_law_754 xs L (fun V1 a7 => f_L_law_126 xs L n V1 a7) V x7 y12 y13 0)
    else
      (f_L_law_754 xs L (fun V1 a7 => f_L_law_126 xs L n V1 a7) V x7 y12 y13 1))
    else
      (if y11 = 11 then
      ((f_L_low (y10 >>> (8 &&& 31)) 5).bind fun y32 =>
    if y32 = y12 then
      (f_L_law_843 xs L (fun V1 a7 => f_L_law_126 xs L n V1 a7) V x7 y12 y13 y32 0)
    else
      (f_L_law_843 xs L (fun V1 a7 => f_L_law_126 xs L n V1 a7) V x7 y12 y13 y32 1))
    else
      (if 16 ≤ y11 then
      (if y11 = 16 then
      ((rd_ (V 122) 7 5).bind fun y14 =>
    if y14 ≤ 0 then
      (f_L_law_1231 xs L (fun V1 a7 => f_L_law_126 xs L n V1 a7) V x7 y10 y11 1)
    else
      ((rd_ (V 122) 7 5).bind fun y15 =>
    (f_L_low (y10 >>> (8 &&& 31)) y15).bind fun y16 =>
    (f_X8_strike V y16).bind fun q17 =>
    (f_X9_strike q17.2 y16).bind fun q18 =>
    li_ (gx_ q17.2 q18.2) fun V19 =>
    (rd_ (V19 120) 24 ((2 * y16) + 1)).bind fun y20 =>
    if q17.1 = y20 then
      ((rd_ (V19 122) 7 5).bind fun y24 =>
    st_ V19 122 7 5 (y24 - 1) fun V25 =>
    li_ (2 * y16) fun y26 =>
    f_L_law_1203 xs L (fun V1 a7 => f_L_law_126 xs L n V1 a7) FU_ V25 x7 1 1 y26)
    else
      ((rd_ (V19 122) 7 5).bind fun y21 =>
    st_ V19 122 7 5 (y21 - 1) fun V22 =>
    li_ (2 * y16) fun y23 =>
    f_L_law_1203 xs L (fun V1 a7 => f_L_law_126 xs L n V1 a7) FU_ V22 x7 0 1 y23)))
    else
      (f_L_law_1231 xs L (fun V1 a7 => f_L_law_126 xs L n V1 a7) V x7 y10 y11 1))
    else
      ((f_L_low (y10 >>> (8 &&& 31)) 2).bind fun y30 =>
    f_L_law_926 xs L (fun V1 a7 => f_L_law_126 xs L n V1 a7) FU_ V x7 y10 y12 y13 1 y30 0))))
    else
      ((f_L_low (y10 >>> (8 &&& 31)) 4).bind fun y37 =>
    if y37 = 0 then
      ((f_L_low (y10 >>> (10 &&& 31)) 3).bind fun y39 =>
    f_L_law_607 xs L (fun V1 a7 => f_L_law_126 xs L n V1 a7) V x7 y12 y13 (11 + y39))
    else
      ((f_L_low (y10 >>> (12 &&& 31)) 10).bind fun y38 =>
    f_L_law_607 xs L (fun V1 a7 => f_L_law_126 xs L n V1 a7) V x7 y12 y13 y38)))
    else
      ((f_L_low (y10 >>> (8 &&& 31)) 10).bind fun y42 =>
    (f_L_low (y10 >>> (12 &&& 31)) 2).bind fun y43 =>
    (f_X8_setWind V y42 y43).bind fun q44 =>
    (f_X9_setWind q44.2 y42 y43).bind fun q45 =>
    li_ (gx_ q44.2 q45.2) fun V46 =>
    (rd_ (V46 122) 7 1).bind fun y47 =>
    if q44.1 = y47 then
      (f_L_law_546 xs L (fun V1 a7 => f_L_law_126 xs L n V1 a7) V46 x7 1 y42 y43 1)
    else
      (f_L_law_546 xs L (fun V1 a7 => f_L_law_126 xs L n V1 a7) V46 x7 1 y42 y43 0))))
    else
      ((f_L_low (y10 >>> (8 &&& 31)) 10).bind fun y53 =>
    (f_L_low (y10 >>> (25 &&& 31)) 2).bind fun y54 =>
    if y54 = 0 then
      (f_L_law_220 xs L (fun V1 a7 => f_L_law_126 xs L n V1 a7) V x7 y10 1 y53 8 (y10 >>> (12 &&& 31)) (3 * y53))
    else
      (f_L_law_220 xs L (fun V1 a7 => f_L_law_126 xs L n V1 a7) V x7 y10 1 y53 2 (y10 >>> (12 &&& 31)) (3 * y53))))
def f_L_law_105 (xs : Nat → Int32) (L : Nat) : Nat → Wd → Int32 → Option (Int32 × Wd)
  | 0, _, _ => none
  | n + 1, V, x7 =>
    if 20 ≤ x7 then
      (f_L_law_126 xs L FU_ V 0)
    else
      (st_ V 119 20 x7 (-1) fun V7 =>
    f_L_law_105 xs L n V7 (x7 + 1))
def f_L_law_49 (xs : Nat → Int32) (L : Nat) : Nat → Wd → Int32 → Option (Int32 × Wd)
  | 0, _, _ => none
  | n + 1, V, x7 =>
    if 10 ≤ x7 then
      (f_L_law_105 xs L FU_ V 0)
    else
      (st_ V 118 30 (3 * x7) (x7 - x7 / 8 * 8) fun V3 =>
    st_ V3 118 30 ((3 * x7) + 1) (((3 * x7) + 1) - ((3 * x7) + 1) / 8 * 8) fun V4 =>
    st_ V4 118 30 ((3 * x7) + 2) (x7 / 2) fun V5 =>
    f_L_law_49 xs L n V5 (x7 + 1))
def f_L_law (xs : Nat → Int32) (L : Nat) (V : Wd) : Option (Int32 × Wd) :=
  st_ V 122 7 0 1 fun V1 =>
    st_ V1 122 7 1 5 fun V2 =>
    f_L_law_49 xs L FU_ V2 0

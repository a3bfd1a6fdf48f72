def f_L_low (x0 : Int32) (x1 : Int32) : Option (Int32) :=
  if x1 = 0 then none else
    some ((x0 &&& 2147483647) - (x0 &&& 2147483647) / x1 * x1)
def f_L_many_2 (V : Wd) (x1 : Int32) : Nat → Int32 → Option (Int32)
  | 0, _ => none
  | n + 1, x2 =>
    if 4 ≤ x2 then
      (some x2)
    else
      ((rd_ (V 119) 20 ((4 * x1) + x2)).bind fun y1 =>
    if y1 < 0 then
      (some x2)
    else
      (f_L_many_2 V x1 n (x2 + 1)))
def f_L_many (V : Wd) (x1 : Int32) : Option (Int32) :=
  f_L_many_2 V x1 FU_ 0
def f_L_stands_11 (V : Wd) (x1 : Int32) (x2 : Int32) : Nat → Int32 → Int32 → Option (Int32)
  | 0, _, _ => none
  | n + 1, x3, x4 =>
    if 4 ≤ x4 then
      (some x3)
    else
      (if x3 ≤ 9 then
      (some x3)
    else
      ((rd_ (V 119) 20 (((4 * x1) + x3) - 11)).bind fun y2 =>
    f_L_stands_11 V x1 x2 n y2 (x4 + 1)))
def f_L_stands (V : Wd) (x1 : Int32) (x2 : Int32) : Option (Int32) :=
  (rd_ (V 119) 20 ((4 * x1) + x2)).bind fun y1 =>
    f_L_stands_11 V x1 x2 FU_ y1 0
def f_L_taken_49 (V : Wd) (x2 : Int32) (x3 : Int32) : Nat → Int32 → Int32 → Option (Int32)
  | 0, _, _ => none
  | n + 1, x4, x5 =>
    if 10 ≤ x5 then
      (some (-6))
    else
      ((rd_ (V 118) 30 ((3 * x3) + 2)).bind fun y9 =>
    (rd_ (V 122) 7 1).bind fun y10 =>
    if y10 < y9 then
      (some (-6))
    else
      ((rd_ (V 118) 30 (3 * x5)).bind fun y11 =>
    (rd_ (V 118) 30 ((3 * x5) + 1)).bind fun y12 =>
    if ((10 * y11) + y12) = x4 then
      (some x5)
    else
      (f_L_taken_49 V x2 x3 n x4 (x5 + 1))))
def f_L_taken (V : Wd) (x2 : Int32) (x3 : Int32) : Option (Int32) :=
  (rd_ (V 122) 7 2).bind fun y1 =>
    if (x2 + y1) = 1 then
      ((rd_ (V 118) 30 ((3 * x3) + 1)).bind fun y5 =>
    (rd_ (V 118) 30 (3 * x3)).bind fun y6 =>
    li_ ((10 * y5) + y6) fun y7 =>
    f_L_taken_49 V x2 x3 FU_ y7 0)
    else
      ((rd_ (V 118) 30 (3 * x3)).bind fun y2 =>
    (rd_ (V 118) 30 ((3 * x3) + 1)).bind fun y3 =>
    li_ ((10 * y2) + y3) fun y4 =>
    f_L_taken_49 V x2 x3 FU_ y4 0)
def f_L_word_76 (V : Wd) (x4 : Int32) (x5 : Int32) (K3 : Int32 → Option (Int32)) (K32 : Int32 → Int32 → Int32 → Int32 → Option (Int32)) (x6 : Int32) (x7 : Int32) (x9 : Int32) : Option (Int32) :=
  li_ (x7 / 10) fun y15 =>
    K32 x6 y15 0 (x9 + (-1))
def f_L_word_103 (V : Wd) (x4 : Int32) (x5 : Int32) (x6 : Int32) : Option (Int32) :=
  (rd_ (V 120) 24 ((2 * x6) + 1)).bind fun y16 =>
    some y16
def f_L_word_92 (V : Wd) (x4 : Int32) (x5 : Int32) (K3 : Int32 → Option (Int32)) (x6 : Int32) (x7 : Int32) (x8 : Int32) : Option (Int32) :=
  if x8 = 0 then
      (K3 (x6 + 1))
    else
      (if x7 = 1 then
      (f_L_word_103 V x4 x5 x6)
    else
      (K3 (x6 + 1)))
def f_L_word_32 (V : Wd) (x4 : Int32) (x5 : Int32) (K3 : Int32 → Option (Int32)) : Nat → Int32 → Int32 → Int32 → Int32 → Option (Int32)
  | 0, _, _, _, _ => none
  | n + 1, x6, x7, x8, x9 =>
    if x9 < 0 then
      (f_L_word_92 V x4 x5 K3 x6 x7 x8)
    else
      (if x8 = 0 then
      (f_L_word_76 V x4 x5 K3 (fun a6 a7 a8 a9 => f_L_word_32 V x4 x5 K3 n a6 a7 a8 a9) x6 x7 x9)
    else
      ((f_L_stands V x5 x9).bind fun y6 =>
    (f_L_taken V x4 y6).bind fun y7 =>
    if (x7 - x7 / 10 * 10) = y7 then
      (if x7 ≤ 9 then
      (f_L_word_76 V x4 x5 K3 (fun a6 a7 a8 a9 => f_L_word_32 V x4 x5 K3 n a6 a7 a8 a9) x6 x7 x9)
    else
      (li_ (x7 / 10) fun y8 =>
    f_L_word_32 V x4 x5 K3 n x6 y8 1 (x9 + (-1))))
    else
      (f_L_word_76 V x4 x5 K3 (fun a6 a7 a8 a9 => f_L_word_32 V x4 x5 K3 n a6 a7 a8 a9) x6 x7 x9)))
def f_L_word_3 (V : Wd) (x4 : Int32) (x5 : Int32) : Nat → Int32 → Option (Int32)
  | 0, _ => none
  | n + 1, x6 =>
    (rd_ (V 122) 7 5).bind fun y1 =>
    if y1 ≤ x6 then
      (some (-6))
    else
      ((rd_ (V 120) 24 (2 * x6)).bind fun y2 =>
    (f_L_many V x5).bind fun y3 =>
    li_ (y3 - 1) fun y4 =>
    f_L_word_32 V x4 x5 (fun a6 => f_L_word_3 V x4 x5 n a6) FU_ x6 y2 1 y4)
def f_L_word (V : Wd) (x4 : Int32) (x5 : Int32) : Option (Int32) :=
  f_L_word_3 V x4 x5 FU_ 0
def f_L_hoists_4 (V : Wd) : Nat → Int32 → Int32 → Option (Int32)
  | 0, _, _ => none
  | n + 1, x1, x2 =>
    if 5 ≤ x2 then
      (some x1)
    else
      ((rd_ (V 119) 20 (4 * x2)).bind fun y1 =>
    if y1 < 0 then
      (li_ (x1 + 0) fun y2 =>
    f_L_hoists_4 V n y2 (x2 + 1))
    else
      (li_ (x1 + 1) fun y3 =>
    f_L_hoists_4 V n y3 (x2 + 1)))
def f_L_hoists (V : Wd) : Option (Int32) :=
  f_L_hoists_4 V FU_ 0 0
def f_L_known_6 (V : Wd) (x4 : Int32) : Nat → Int32 → Int32 → Option (Int32)
  | 0, _, _ => none
  | n + 1, x5, x6 =>
    if 5 ≤ x6 then
      (some x5)
    else
      ((rd_ (V 119) 20 (4 * x6)).bind fun y1 =>
    if y1 < 0 then
      (li_ (x5 + 0) fun y2 =>
    f_L_known_6 V x4 n y2 (x6 + 1))
    else
      ((f_L_word V x4 x6).bind fun y3 =>
    if y3 < 0 then
      (li_ (x5 + 0) fun y4 =>
    f_L_known_6 V x4 n y4 (x6 + 1))
    else
      (li_ (x5 + 1) fun y5 =>
    f_L_known_6 V x4 n y5 (x6 + 1))))
def f_L_known (V : Wd) (x4 : Int32) : Option (Int32) :=
  f_L_known_6 V x4 FU_ 0 0
def f_L_nth_24 (V : Wd) (x1 : Int32) (x2 : Int32) (K5 : Int32 → Int32 → Option (Int32)) (x3 : Int32) (x4 : Int32) (s0 : Int32) : Option (Int32) :=
  (rd_ (V 119) 20 (4 * s0)).bind fun y3 =>
    if y3 < 0 then
      (li_ (x3 - 0) fun y4 =>
    if 0 ≤ y4 then
      (K5 y4 (x4 + 1))
    else
      (some s0))
    else
      (li_ (x3 - 1) fun y6 =>
    if 0 ≤ y6 then
      (K5 y6 (x4 + 1))
    else
      (some s0))
def f_L_nth_5 (V : Wd) (x1 : Int32) (x2 : Int32) : Nat → Int32 → Int32 → Option (Int32)
  | 0, _, _ => none
  | n + 1, x3, x4 =>
    if 5 ≤ x4 then
      (some (-1))
    else
      (if x1 = 0 then
      (f_L_nth_24 V x1 x2 (fun a3 a4 => f_L_nth_5 V x1 x2 n a3 a4) x3 x4 x4)
    else
      (f_L_nth_24 V x1 x2 (fun a3 a4 => f_L_nth_5 V x1 x2 n a3 a4) x3 x4 (4 - x4)))
def f_L_nth (V : Wd) (x1 : Int32) (x2 : Int32) : Option (Int32) :=
  f_L_nth_5 V x1 x2 FU_ x2 0
def f_L_same_47 (V : Wd) : Nat → Int32 → Int32 → Int32 → Option (Int32)
  | 0, _, _, _ => none
  | n + 1, x4, x5, x6 =>
    if x4 ≤ x6 then
      (if isB x5 then some x5 else none)
    else
      (if x5 = 0 then
      (if isB x5 then some x5 else none)
    else
      ((f_L_nth V 0 x6).bind fun y9 =>
    (f_L_word V 0 y9).bind fun y10 =>
    (f_L_nth V 1 x6).bind fun y11 =>
    (f_L_word V 1 y11).bind fun y12 =>
    if y10 = y12 then
      (f_L_same_47 V n x4 1 (x6 + 1))
    else
      (f_L_same_47 V n x4 0 (x6 + 1))))
def f_L_same (V : Wd) : Option (Int32) :=
  (f_L_hoists V).bind fun y1 =>
    if y1 ≤ 0 then
      (f_L_same_47 V FU_ y1 0 0)
    else
      ((f_L_known V 0).bind fun y2 =>
    if y2 = y1 then
      ((f_L_known V 1).bind fun y3 =>
    if y3 = y1 then
      (f_L_same_47 V FU_ y1 1 0)
    else
      (f_L_same_47 V FU_ y1 0 0))
    else
      (f_L_same_47 V FU_ y1 0 0))
def f_L_swap_2 (x1 : Int32) (x2 : Int32) : Nat → Wd → Int32 → Option (Wd)
  | 0, _, _ => none
  | n + 1, V, x3 =>
    if 4 ≤ x3 then
      (some V)
    else
      ((rd_ (V 119) 20 ((4 * x1) + x3)).bind fun y1 =>
    (rd_ (V 119) 20 ((4 * x2) + x3)).bind fun y2 =>
    st_ V 119 20 ((4 * x1) + x3) y2 fun V3 =>
    st_ V3 119 20 ((4 * x2) + x3) y1 fun V4 =>
    f_L_swap_2 x1 x2 n V4 (x3 + 1))
def f_L_swap (V : Wd) (x1 : Int32) (x2 : Int32) : Option (Wd) :=
  f_L_swap_2 x1 x2 FU_ V 0
def f_L_used_4 (V : Wd) (x1 : Int32) : Nat → Int32 → Int32 → Option (Int32)
  | 0, _, _ => none
  | n + 1, x2, x3 =>
    if 20 ≤ x3 then
      (some x2)
    else
      ((rd_ (V 119) 20 x3).bind fun y1 =>
    if y1 = x1 then
      (li_ (x2 + 1) fun y3 =>
    f_L_used_4 V x1 n y3 (x3 + 1))
    else
      (li_ (x2 + 0) fun y2 =>
    f_L_used_4 V x1 n y2 (x3 + 1)))
def f_L_used (V : Wd) (x1 : Int32) : Option (Int32) :=
  f_L_used_4 V x1 FU_ 0 0
def f_L_mast_75 (K6 : Wd → Int32 → Int32 → Option (Int32 × Wd)) (V : Wd) (x6 : Int32) (x7 : Int32) (x8 : Int32) : Option (Int32 × Wd) :=
  (f_X8_flag V x7 0).bind fun y25 =>
    (rd_ (V 118) 30 (3 * x7)).bind fun y26 =>
    if y25 = y26 then
      ((f_X8_flag V x7 1).bind fun y27 =>
    (rd_ (V 118) 30 ((3 * x7) + 1)).bind fun y28 =>
    if y27 = y28 then
      ((f_X8_flag V x7 2).bind fun y29 =>
    (rd_ (V 118) 30 ((3 * x7) + 2)).bind fun y30 =>
    if y29 = y30 then
      ((f_X8_flag V x7 3).bind fun y31 =>
    (rd_ (V 122) 7 0).bind fun y32 =>
    (f_L_used V x7).bind fun y33 =>
    if y31 = (y32 - y33) then
      ((f_X8_flag V x7 4).bind fun y34 =>
    if y34 = x8 then
      (K6 V x6 (x7 + 1))
    else
      (some (0, V)))
    else
      (some (0, V)))
    else
      (some (0, V)))
    else
      (some (0, V)))
    else
      (some (0, V))
def f_L_mast_21 (K6 : Wd → Int32 → Int32 → Option (Int32 × Wd)) : Nat → Wd → Int32 → Int32 → Int32 → Int32 → Option (Int32 × Wd)
  | 0, _, _, _, _, _ => none
  | n + 1, V, x6, x7, x8, x9 =>
    if x9 < 0 then
      (f_L_mast_75 K6 V x6 x7 x8)
    else
      ((rd_ (V 118) 30 (3 * x9)).bind fun y6 =>
    (rd_ (V 118) 30 ((3 * x7) + 1)).bind fun y7 =>
    if y6 = y7 then
      ((rd_ (V 118) 30 ((3 * x9) + 1)).bind fun y8 =>
    (rd_ (V 118) 30 (3 * x7)).bind fun y9 =>
    if y8 = y9 then
      (f_L_mast_21 K6 n V x6 x7 x9 (x9 + (-1)))
    else
      (f_L_mast_21 K6 n V x6 x7 x8 (x9 + (-1))))
    else
      (f_L_mast_21 K6 n V x6 x7 x8 (x9 + (-1))))
def f_L_mast_282 (K171 : Wd → Int32 → Int32 → Option (Int32 × Wd)) (K195 : Wd → Int32 → Int32 → Int32 → Int32 → Option (Int32 × Wd)) (V : Wd) (x6 : Int32) (x7 : Int32) (x8 : Int32) (x9 : Int32) (x10 : Int32) (s0 : Int32) (s1 : Int32) : Option (Int32 × Wd) :=
  if s1 = s0 then
      ((f_X8_seen V 0 x7 (x9 + 1)).bind fun y57 =>
    (f_L_taken V 0 x10).bind fun y58 =>
    if y57 = y58 then
      ((f_X8_seen V 1 x7 (x9 + 1)).bind fun y59 =>
    (f_L_taken V 1 x10).bind fun y60 =>
    if y59 = y60 then
      (K195 V x6 x7 x8 (x9 + 1))
    else
      (some (0, V)))
    else
      (some (0, V)))
    else
      (some (0, V))
def f_L_mast_339 (K171 : Wd → Int32 → Int32 → Option (Int32 × Wd)) (V : Wd) (x6 : Int32) (x7 : Int32) (x8 : Int32) : Option (Int32 × Wd) :=
  (f_X8_sign V x7 (x8 + 1) 0).bind fun y53 =>
    if y53 = (-1) then
      ((f_X8_seen V 1 x7 (x8 + 1)).bind fun y54 =>
    if y54 = (-1) then
      (K171 V x6 (x7 + 1))
    else
      (some (0, V)))
    else
      (some (0, V))
def f_L_mast_195 (K171 : Wd → Int32 → Int32 → Option (Int32 × Wd)) : Nat → Wd → Int32 → Int32 → Int32 → Int32 → Option (Int32 × Wd)
  | 0, _, _, _, _, _ => none
  | n + 1, V, x6, x7, x8, x9 =>
    if x8 ≤ x9 then
      (f_L_mast_339 K171 V x6 x7 x8)
    else
      ((f_L_stands V x7 x9).bind fun y14 =>
    (f_X8_sign V x7 (x9 + 1) 0).bind fun y15 =>
    (rd_ (V 119) 20 ((4 * x7) + x9)).bind fun y16 =>
    if y15 = y16 then
      ((f_X8_sign V x7 (x9 + 1) 1).bind fun y17 =>
    if y17 = y14 then
      ((f_X8_sign V x7 (x9 + 1) 2).bind fun y18 =>
    (rd_ (V 118) 30 ((3 * y14) + 2)).bind fun y19 =>
    (rd_ (V 122) 7 1).bind fun y20 =>
    if y19 ≤ y20 then
      (f_L_mast_282 K171 (fun V1 a6 a7 a8 a9 => f_L_mast_195 K171 n V1 a6 a7 a8 a9) V x6 x7 x8 x9 y14 0 y18)
    else
      (f_L_mast_282 K171 (fun V1 a6 a7 a8 a9 => f_L_mast_195 K171 n V1 a6 a7 a8 a9) V x6 x7 x8 x9 y14 1 y18))
    else
      (some (0, V)))
    else
      (some (0, V)))
def f_L_mast_439 (K386 : Wd → Int32 → Int32 → Int32 → Option (Int32 × Wd)) (V : Wd) (x6 : Int32) (x7 : Int32) (x8 : Int32) : Option (Int32 × Wd) :=
  (f_X8_word V x8 x7).bind fun q68 =>
    if q68.1 = (-1) then
      ((f_X8_known q68.2 x8).bind fun q69 =>
    (f_L_known q69.2 x8).bind fun y70 =>
    if q69.1 = y70 then
      (K386 q69.2 x6 x7 (x8 + 1))
    else
      (some (0, q69.2)))
    else
      (some (0, q68.2))
def f_L_mast_395 (K386 : Wd → Int32 → Int32 → Int32 → Option (Int32 × Wd)) : Nat → Wd → Int32 → Int32 → Int32 → Int32 → Option (Int32 × Wd)
  | 0, _, _, _, _, _ => none
  | n + 1, V, x6, x7, x8, x9 =>
    if x7 ≤ x9 then
      (f_L_mast_439 K386 V x6 x7 x8)
    else
      ((f_X8_word V x8 x9).bind fun q48 =>
    (f_L_nth q48.2 x8 x9).bind fun y49 =>
    (f_L_word q48.2 x8 y49).bind fun y50 =>
    if q48.1 = y50 then
      (f_L_mast_395 K386 n q48.2 x6 x7 x8 (x9 + 1))
    else
      (some (0, q48.2)))
def f_L_mast_625 (K560 : Wd → Int32 → Int32 → Int32 → Int32 → Option (Int32 × Wd)) (V : Wd) (x6 : Int32) (x7 : Int32) (x8 : Int32) (x9 : Int32) : Option (Int32 × Wd) :=
  (f_X8_logged V (x9 - x8) 0).bind fun y118 =>
    (rd_ (V 121) 48 (6 * (x9 - x8))).bind fun y119 =>
    if y118 = y119 then
      (K560 V x6 x7 x8 (x9 + 1))
    else
      (some (0, V))
def f_L_mast_573 (K560 : Wd → Int32 → Int32 → Int32 → Int32 → Option (Int32 × Wd)) : Nat → Wd → Int32 → Int32 → Int32 → Int32 → Int32 → Option (Int32 × Wd)
  | 0, _, _, _, _, _, _ => none
  | n + 1, V, x6, x7, x8, x9, x10 =>
    (rd_ (V 121) 48 (6 * (x9 - x8))).bind fun y78 =>
    if y78 < x10 then
      (f_L_mast_625 K560 V x6 x7 x8 x9)
    else
      ((f_X8_logged V (x9 - x8) x10).bind fun y79 =>
    (rd_ (V 121) 48 ((6 * (x9 - x8)) + x10)).bind fun y80 =>
    if y79 = y80 then
      (f_L_mast_573 K560 n V x6 x7 x8 x9 (x10 + 1))
    else
      (some (0, V)))
def f_L_mast_839 (V : Wd) : Option (Int32 × Wd) :=
  some (0, V)
def f_L_mast_677 (V : Wd) (x6 : Int32) (x7 : Int32) (x8 : Int32) (s0 : Int32) (s1 : Int32) : Option (Int32 × Wd) :=
  if s1 = s0 then
      ((f_X8_total V 0).bind fun y83 =>
    (rd_ (V 122) 7 1).bind fun y84 =>
    if y83 = y84 then
      ((f_X8_total V 1).bind fun y85 =>
    (rd_ (V 122) 7 2).bind fun y86 =>
    if y85 = y86 then
      ((f_X8_total V 2).bind fun y87 =>
    (rd_ (V 122) 7 0).bind fun y88 =>
    if y87 = y88 then
      ((f_X8_total V 3).bind fun y89 =>
    if y89 = x6 then
      ((f_X8_total V 4).bind fun y90 =>
    if y90 = x7 then
      ((f_X8_total V 5).bind fun y91 =>
    (rd_ (V 122) 7 5).bind fun y92 =>
    if y91 = y92 then
      ((f_X8_total V 6).bind fun y93 =>
    (rd_ (V 122) 7 3).bind fun y94 =>
    if y93 = y94 then
      ((f_X8_total V 7).bind fun y95 =>
    (rd_ (V 122) 7 4).bind fun y96 =>
    if y95 = y96 then
      ((f_X8_total V 8).bind fun y97 =>
    (rd_ (V 122) 7 6).bind fun y98 =>
    if y97 = (y98 - x8) then
      ((f_X8_total V 9).bind fun y99 =>
    (rd_ (V 122) 7 6).bind fun y100 =>
    if y99 = y100 then
      ((rd_ (V 122) 7 6).bind fun y101 =>
    (f_X8_logged V (y101 - x8) 0).bind fun y102 =>
    if y102 = (-1) then
      ((rd_ (V 122) 7 5).bind fun y103 =>
    (f_X8_entry V y103 0).bind fun y104 =>
    if y104 = (-1) then
      (some (1, V))
    else
      (f_L_mast_839 V))
    else
      (f_L_mast_839 V))
    else
      (f_L_mast_839 V))
    else
      (f_L_mast_839 V))
    else
      (f_L_mast_839 V))
    else
      (f_L_mast_839 V))
    else
      (f_L_mast_839 V))
    else
      (f_L_mast_839 V))
    else
      (f_L_mast_839 V))
    else
      (f_L_mast_839 V))
    else
      (f_L_mast_839 V))
    else
      (f_L_mast_839 V))
    else
      (f_L_mast_839 V)
def f_L_mast_657 (V : Wd) (x6 : Int32) (x7 : Int32) (x8 : Int32) : Option (Int32 × Wd) :=
  (f_X8_isSame V).bind fun q75 =>
    (f_L_same q75.2).bind fun y76 =>
    if y76 = 0 then
      (f_L_mast_677 q75.2 x6 x7 x8 0 q75.1)
    else
      (f_L_mast_677 q75.2 x6 x7 x8 1 q75.1)
def f_L_mast_560 : Nat → Wd → Int32 → Int32 → Int32 → Int32 → Option (Int32 × Wd)
  | 0, _, _, _, _, _ => none
  | n + 1, V, x6, x7, x8, x9 =>
    (rd_ (V 122) 7 6).bind fun y73 =>
    if y73 ≤ x9 then
      (f_L_mast_657 V x6 x7 x8)
    else
      (f_L_mast_573 (fun V1 a6 a7 a8 a9 => f_L_mast_560 n V1 a6 a7 a8 a9) FU_ V x6 x7 x8 x9 1)
def f_L_mast_532 (V : Wd) (x6 : Int32) (x7 : Int32) : Option (Int32 × Wd) :=
  (rd_ (V 122) 7 6).bind fun y64 =>
    if y64 ≤ 8 then
      (f_L_mast_560 FU_ V x6 x7 0 0)
    else
      ((rd_ (V 122) 7 6).bind fun y65 =>
    li_ (y65 - 8) fun y66 =>
    f_L_mast_560 FU_ V x6 x7 y66 y66)
def f_L_mast_481 : Nat → Wd → Int32 → Int32 → Int32 → Option (Int32 × Wd)
  | 0, _, _, _, _ => none
  | n + 1, V, x6, x7, x8 =>
    (rd_ (V 122) 7 5).bind fun y40 =>
    if y40 ≤ x8 then
      (f_L_mast_532 V x6 x7)
    else
      ((f_X8_entry V x8 0).bind fun y41 =>
    (rd_ (V 120) 24 (2 * x8)).bind fun y42 =>
    if y41 = y42 then
      ((f_X8_entry V x8 1).bind fun y43 =>
    (rd_ (V 120) 24 ((2 * x8) + 1)).bind fun y44 =>
    if y43 = y44 then
      (f_L_mast_481 n V x6 x7 (x8 + 1))
    else
      (some (0, V)))
    else
      (some (0, V)))
def f_L_mast_386 : Nat → Wd → Int32 → Int32 → Int32 → Option (Int32 × Wd)
  | 0, _, _, _, _ => none
  | n + 1, V, x6, x7, x8 =>
    if 2 ≤ x8 then
      (f_L_mast_481 FU_ V x6 x7 0)
    else
      (f_L_mast_395 (fun V1 a6 a7 a8 => f_L_mast_386 n V1 a6 a7 a8) FU_ V x6 x7 x8 0)
def f_L_mast_171 : Nat → Wd → Int32 → Int32 → Option (Int32 × Wd)
  | 0, _, _, _ => none
  | n + 1, V, x6, x7 =>
    if 5 ≤ x7 then
      ((f_L_hoists V).bind fun y2 =>
    f_L_mast_386 FU_ V x6 y2 0)
    else
      ((f_L_many V x7).bind fun y3 =>
    li_ (x6 + y3) fun y4 =>
    f_L_mast_195 (fun V1 a6 a7 => f_L_mast_171 n V1 a6 a7) FU_ V y4 x7 y3 0)
def f_L_mast_6 : Nat → Wd → Int32 → Int32 → Option (Int32 × Wd)
  | 0, _, _, _ => none
  | n + 1, V, x6, x7 =>
    if 10 ≤ x7 then
      (f_L_mast_171 FU_ V x6 0)
    else
      (f_L_mast_21 (fun V1 a6 a7 => f_L_mast_6 n V1 a6 a7) FU_ V x6 x7 (-6) 9)
def f_L_mast (V : Wd) : Option (Int32 × Wd) :=
  f_L_mast_6 FU_ V 0 0
def f_L_ahead_73 (x5 : Int32) (K9 : Wd → Int32 → Int32 → Option (Int32 × Wd)) (V : Wd) (x6 : Int32) (x7 : Int32) (x8 : Int32) : Option (Int32 × Wd) :=
  st_ V 122 7 1 x6 fun V21 =>
    (rd_ (V21 122) 7 2).bind fun y22 =>
    st_ V21 122 7 2 (1 - y22) fun V23 =>
    (f_L_known V23 x7).bind fun y24 =>
    (rd_ (V23 122) 7 2).bind fun y25 =>
    st_ V23 122 7 2 (1 - y25) fun V26 =>
    (f_X8_leastWind V26 x7).bind fun q27 =>
    if q27.1 = x8 then
      ((f_X8_ifTurned q27.2 x7).bind fun q28 =>
    if q28.1 = y24 then
      (K9 q28.2 x6 (x7 + 1))
    else
      (some (0, q28.2)))
    else
      (some (0, q27.2))
def f_L_ahead_23 (x5 : Int32) (K9 : Wd → Int32 → Int32 → Option (Int32 × Wd)) : Nat → Wd → Int32 → Int32 → Int32 → Int32 → Option (Int32 × Wd)
  | 0, _, _, _, _, _ => none
  | n + 1, V, x6, x7, x8, x9 =>
    if x9 < 0 then
      (f_L_ahead_73 x5 K9 V x6 x7 x8)
    else
      (st_ V 122 7 1 x9 fun V5 =>
    (f_L_hoists V5).bind fun y6 =>
    if y6 ≤ 0 then
      (f_L_ahead_23 x5 K9 n V5 x6 x7 x8 (x9 + (-1)))
    else
      ((f_L_known V5 x7).bind fun y7 =>
    (f_L_hoists V5).bind fun y8 =>
    if y7 = y8 then
      (f_L_ahead_23 x5 K9 n V5 x6 x7 x9 (x9 + (-1)))
    else
      (f_L_ahead_23 x5 K9 n V5 x6 x7 x8 (x9 + (-1)))))
def f_L_ahead_348 (x5 : Int32) (K256 : Wd → Int32 → Int32 → Int32 → Int32 → Option (Int32 × Wd)) (V : Wd) (x7 : Int32) (x8 : Int32) (x9 : Int32) (x10 : Int32) (x11 : Int32) (x12 : Int32) : Option (Int32 × Wd) :=
  if x12 = 0 then
      (if x12 = 0 then
      (K256 V x7 x8 x9 (x10 + 1))
    else
      (if x9 ≤ x11 then
      (K256 V x7 x8 x9 (x10 + 1))
    else
      (K256 V x7 x8 x11 (x10 + 1))))
    else
      (if x9 ≤ x11 then
      (if x12 = 0 then
      (K256 V x7 x8 x9 (x10 + 1))
    else
      (if x9 ≤ x11 then
      (K256 V x7 x8 x9 (x10 + 1))
    else
      (K256 V x7 x8 x11 (x10 + 1))))
    else
      (if x12 = 0 then
      (K256 V x7 x10 x9 (x10 + 1))
    else
      (if x9 ≤ x11 then
      (K256 V x7 x10 x9 (x10 + 1))
    else
      (K256 V x7 x10 x11 (x10 + 1)))))
def f_L_ahead_296 (x5 : Int32) (K256 : Wd → Int32 → Int32 → Int32 → Int32 → Option (Int32 × Wd)) : Nat → Wd → Int32 → Int32 → Int32 → Int32 → Int32 → Int32 → Int32 → Option (Int32 × Wd)
  | 0, _, _, _, _, _, _, _, _ => none
  | n + 1, V, x7, x8, x9, x10, x11, x12, x13 =>
    if x13 ≤ 9 then
      (f_L_ahead_348 x5 K256 V x7 x8 x9 x10 x11 x12)
    else
      (if x12 = 0 then
      (li_ (x13 / 10) fun y41 =>
    f_L_ahead_296 x5 K256 n V x7 x8 x9 x10 (x11 + 1) 0 y41)
    else
      ((f_L_taken V 0 (x13 - x13 / 10 * 10)).bind fun y42 =>
    if y42 = (x13 - x13 / 10 * 10) then
      (li_ (x13 / 10) fun y44 =>
    f_L_ahead_296 x5 K256 n V x7 x8 x9 x10 (x11 + 1) 1 y44)
    else
      (li_ (x13 / 10) fun y43 =>
    f_L_ahead_296 x5 K256 n V x7 x8 x9 x10 (x11 + 1) 0 y43)))
def f_L_ahead_396 (x5 : Int32) (V : Wd) (x7 : Int32) (x8 : Int32) : Option (Int32 × Wd) :=
  (f_X8_mendingExchange V).bind fun q37 =>
    if q37.1 = x7 then
      ((f_X8_bestEntry q37.2 x5).bind fun y38 =>
    if y38 = x8 then
      (some (1, q37.2))
    else
      (some (0, q37.2)))
    else
      (some (0, q37.2))
def f_L_ahead_256 (x5 : Int32) : Nat → Wd → Int32 → Int32 → Int32 → Int32 → Option (Int32 × Wd)
  | 0, _, _, _, _, _ => none
  | n + 1, V, x7, x8, x9, x10 =>
    (rd_ (V 122) 7 5).bind fun y31 =>
    if y31 ≤ x10 then
      (f_L_ahead_396 x5 V x7 x8)
    else
      ((rd_ (V 120) 24 ((2 * x10) + 1)).bind fun y32 =>
    if y32 = x5 then
      ((rd_ (V 120) 24 (2 * x10)).bind fun y34 =>
    f_L_ahead_296 x5 (fun V1 a7 a8 a9 a10 => f_L_ahead_256 x5 n V1 a7 a8 a9 a10) FU_ V x7 x8 x9 x10 0 1 y34)
    else
      ((rd_ (V 120) 24 (2 * x10)).bind fun y33 =>
    f_L_ahead_296 x5 (fun V1 a7 a8 a9 a10 => f_L_ahead_256 x5 n V1 a7 a8 a9 a10) FU_ V x7 x8 x9 x10 0 0 y33))
def f_L_ahead_164 (x5 : Int32) : Nat → Wd → Int32 → Int32 → Option (Int32 × Wd)
  | 0, _, _, _ => none
  | n + 1, V, x7, x8 =>
    if x8 < 0 then
      (f_L_ahead_256 x5 FU_ V x7 (-6) 9 0)
    else
      (if x7 = 0 then
      (f_L_ahead_256 x5 FU_ V x7 (-6) 9 0)
    else
      (if (x8 - x8 / 5 * 5) ≤ (x8 / 5) then
      (f_L_ahead_164 x5 n V x7 (x8 + (-1)))
    else
      ((f_L_swap V (x8 / 5) (x8 - x8 / 5 * 5)).bind fun V12 =>
    (f_L_same V12).bind fun y13 =>
    if y13 = 0 then
      ((f_L_swap V12 (x8 / 5) (x8 - x8 / 5 * 5)).bind fun V14 =>
    f_L_ahead_164 x5 n V14 x7 (x8 + (-1)))
    else
      (li_ ((10 * (x8 / 5)) + (x8 - x8 / 5 * 5)) fun y15 =>
    (f_L_swap V12 (x8 / 5) (x8 - x8 / 5 * 5)).bind fun V16 =>
    f_L_ahead_164 x5 n V16 y15 (x8 + (-1))))))
def f_L_ahead_141 (x5 : Int32) (V : Wd) : Option (Int32 × Wd) :=
  (f_L_same V).bind fun y3 =>
    if y3 = 0 then
      (f_L_ahead_164 x5 FU_ V (-6) 24)
    else
      (f_L_ahead_164 x5 FU_ V 0 24)
def f_L_ahead_9 (x5 : Int32) : Nat → Wd → Int32 → Int32 → Option (Int32 × Wd)
  | 0, _, _, _ => none
  | n + 1, V, x6, x7 =>
    if 2 ≤ x7 then
      (f_L_ahead_141 x5 V)
    else
      (f_L_ahead_23 x5 (fun V1 a6 a7 => f_L_ahead_9 x5 n V1 a6 a7) FU_ V x6 x7 (-6) 9)
def f_L_ahead (V : Wd) (x5 : Int32) : Option (Int32 × Wd) :=
  (rd_ (V 122) 7 1).bind fun y1 =>
    f_L_ahead_9 x5 FU_ V y1 0

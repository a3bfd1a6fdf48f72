def f_X9_in (x0 : Int32) (x1 : Int32) (x2 : Int32) : Int32 :=
  if x0 < x1 then
      (0)
    else
      (if x2 < x0 then
      (0)
    else
      (1))
def f_X9_isFlag (x0 : Int32) : Int32 :=
  (f_X9_in x0 0 9)
def f_X9_isHalyard (x0 : Int32) : Int32 :=
  (f_X9_in x0 0 4)
def f_X9_isSide (x0 : Int32) : Int32 :=
  (f_X9_in x0 0 1)
def f_X9_ofFlag (V : Wd) (x1 : Int32) (x2 : Int32) : Option (Int32) :=
  (rd_ (V 113) 136 ((8 + (3 * x1)) + x2)).bind fun y1 =>
    some y1
def f_X9_many (V : Wd) (x1 : Int32) : Option (Int32) :=
  (rd_ (V 113) 136 (38 + (5 * x1))).bind fun y1 =>
    some y1
def f_X9_signOn (V : Wd) (x1 : Int32) (x2 : Int32) : Option (Int32) :=
  (rd_ (V 113) 136 ((38 + (5 * x1)) + x2)).bind fun y1 =>
    some y1
def f_X9_record_85 (V : Wd) : Option (Wd) :=
  li_ (u2 V 112 2 ((V 112 2) + 1)) fun V8 =>
    some V8
def f_X9_record_51 : Nat → Wd → Int32 → Option (Wd)
  | 0, _, _ => none
  | n + 1, V, x1 =>
    if 136 ≤ x1 then
      (f_X9_record_85 V)
    else
      ((rd_ (V 113) 136 x1).bind fun y2 =>
    st_ V 114 680 (((V 112 2) * 136) + x1) y2 fun V3 =>
    f_X9_record_51 n V3 (x1 + 1))
def f_X9_record_39 (V : Wd) : Option (Wd) :=
  li_ (u2 V 112 2 ((V 112 2) - 1)) fun V9 =>
    f_X9_record_51 FU_ V9 0
def f_X9_record_10 : Nat → Wd → Int32 → Option (Wd)
  | 0, _, _ => none
  | n + 1, V, x1 =>
    if 544 ≤ x1 then
      (f_X9_record_39 V)
    else
      ((rd_ (V 114) 680 (x1 + 136)).bind fun y5 =>
    st_ V 114 680 x1 y5 fun V6 =>
    f_X9_record_10 n V6 (x1 + 1))
def f_X9_record (V : Wd) : Option (Wd) :=
  if (V 112 2) = 5 then
      (f_X9_record_10 FU_ V 0)
    else
      (f_X9_record_51 FU_ V 0)
def f_X9_recordAndDown (V : Wd) : Option (Wd) :=
  (f_X9_record V).bind fun V1 =>
    st_ V1 113 136 4 0 fun V2 =>
    some V2
def f_X9_undo_22 : Nat → Wd → Int32 → Option (Int32 × Wd)
  | 0, _, _ => none
  | n + 1, V, x1 =>
    if 136 ≤ x1 then
      (some ((V 112 2), V))
    else
      ((rd_ (V 114) 680 (((V 112 2) * 136) + x1)).bind fun y3 =>
    st_ V 113 136 x1 y3 fun V4 =>
    f_X9_undo_22 n V4 (x1 + 1))
def f_X9_undo (V : Wd) : Option (Int32 × Wd) :=
  if (V 112 2) = 0 then
      (some ((-3), V))
    else
      (li_ (u2 V 112 2 ((V 112 2) - 1)) fun V1 =>
    f_X9_undo_22 FU_ V1 0)
def f_X9_allSigns_4 (V : Wd) : Nat → Int32 → Int32 → Option (Int32)
  | 0, _, _ => none
  | n + 1, x1, x2 =>
    if 5 ≤ x2 then
      (some x1)
    else
      ((f_X9_many V x2).bind fun y1 =>
    li_ (x1 + y1) fun y2 =>
    f_X9_allSigns_4 V n y2 (x2 + 1))
def f_X9_allSigns (V : Wd) : Option (Int32) :=
  f_X9_allSigns_4 V FU_ 0 0
def f_X9_save_7 : Nat → Wd → Int32 → Option (Int32 × Wd)
  | 0, _, _ => none
  | n + 1, V, x1 =>
    if 136 ≤ x1 then
      ((f_X9_allSigns V).bind fun y2 =>
    some (y2, V))
    else
      ((rd_ (V 113) 136 x1).bind fun y3 =>
    st_ V 115 136 x1 y3 fun V4 =>
    f_X9_save_7 n V4 (x1 + 1))
def f_X9_save (V : Wd) : Option (Int32 × Wd) :=
  li_ (u2 V 112 4 1) fun V1 =>
    f_X9_save_7 FU_ V1 0
def f_X9_restore_16 : Nat → Wd → Int32 → Option (Int32 × Wd)
  | 0, _, _ => none
  | n + 1, V, x1 =>
    if 136 ≤ x1 then
      ((f_X9_allSigns V).bind fun y3 =>
    some (y3, V))
    else
      ((rd_ (V 115) 136 x1).bind fun y4 =>
    st_ V 113 136 x1 y4 fun V5 =>
    f_X9_restore_16 n V5 (x1 + 1))
def f_X9_restore (V : Wd) : Option (Int32 × Wd) :=
  if (V 112 4) = 0 then
      (some ((-3), V))
    else
      ((f_X9_record V).bind fun V1 =>
    f_X9_restore_16 FU_ V1 0)
def f_X9_flagWith_7 (V : Wd) (x1 : Int32) (x2 : Int32) : Nat → Int32 → Int32 → Option (Int32)
  | 0, _, _ => none
  | n + 1, x3, x4 =>
    if x4 < 0 then
      (some x3)
    else
      ((f_X9_ofFlag V x4 0).bind fun y1 =>
    if y1 = x1 then
      ((f_X9_ofFlag V x4 1).bind fun y2 =>
    if y2 = x2 then
      (f_X9_flagWith_7 V x1 x2 n x4 (x4 + (-1)))
    else
      (f_X9_flagWith_7 V x1 x2 n x3 (x4 + (-1))))
    else
      (f_X9_flagWith_7 V x1 x2 n x3 (x4 + (-1))))
def f_X9_flagWith (V : Wd) (x1 : Int32) (x2 : Int32) : Option (Int32) :=
  f_X9_flagWith_7 V x1 x2 FU_ (-6) 9
def f_X9_paint_94 (x1 : Int32) (x2 : Int32) (x3 : Int32) (x4 : Int32) : Nat → Wd → Int32 → Int32 → Option (Int32 × Wd)
  | 0, _, _, _ => none
  | n + 1, V, x5, x6 =>
    if 10 ≤ x6 then
      (some (x5, V))
    else
      ((f_X9_ofFlag V x6 0).bind fun y9 =>
    if y9 = x2 then
      ((f_X9_ofFlag V x6 1).bind fun y11 =>
    if y11 = x3 then
      (li_ (x5 + 1) fun y13 =>
    f_X9_paint_94 x1 x2 x3 x4 n V y13 (x6 + 1))
    else
      (li_ (x5 + 0) fun y12 =>
    f_X9_paint_94 x1 x2 x3 x4 n V y12 (x6 + 1)))
    else
      (li_ (x5 + 0) fun y10 =>
    f_X9_paint_94 x1 x2 x3 x4 n V y10 (x6 + 1)))
def f_X9_paint (V : Wd) (x1 : Int32) (x2 : Int32) (x3 : Int32) (x4 : Int32) : Option (Int32 × Wd) :=
  if (f_X9_isFlag x1) = 0 then
      (some ((-1), V))
    else
      (if (f_X9_in x2 0 7) = 0 then
      (some ((-2), V))
    else
      (if (f_X9_in x3 0 7) = 0 then
      (some ((-2), V))
    else
      (if (f_X9_in x4 0 9) = 0 then
      (some ((-2), V))
    else
      ((f_X9_recordAndDown V).bind fun V1 =>
    st_ V1 113 136 (8 + (3 * x1)) x2 fun V2 =>
    st_ V2 113 136 ((8 + (3 * x1)) + 1) x3 fun V3 =>
    st_ V3 113 136 ((8 + (3 * x1)) + 2) x4 fun V4 =>
    f_X9_paint_94 x1 x2 x3 x4 FU_ V4 0 0))))
def f_X9_used_12 (V : Wd) (x1 : Int32) (K4 : Int32 → Int32 → Option (Int32)) : Nat → Int32 → Int32 → Int32 → Option (Int32)
  | 0, _, _, _ => none
  | n + 1, x2, x3, x4 =>
    (f_X9_many V x3).bind fun y2 =>
    if y2 < x4 then
      (K4 x2 (x3 + 1))
    else
      ((f_X9_signOn V x3 x4).bind fun y3 =>
    if y3 = x1 then
      (li_ (x2 + 1) fun y5 =>
    f_X9_used_12 V x1 K4 n y5 x3 (x4 + 1))
    else
      (li_ (x2 + 0) fun y4 =>
    f_X9_used_12 V x1 K4 n y4 x3 (x4 + 1)))
def f_X9_used_4 (V : Wd) (x1 : Int32) : Nat → Int32 → Int32 → Option (Int32)
  | 0, _, _ => none
  | n + 1, x2, x3 =>
    if 5 ≤ x3 then
      (some x2)
    else
      (f_X9_used_12 V x1 (fun a2 a3 => f_X9_used_4 V x1 n a2 a3) FU_ x2 x3 1)
def f_X9_used (V : Wd) (x1 : Int32) : Option (Int32) :=
  f_X9_used_4 V x1 FU_ 0 0
def f_X9_mostUsed_4 (V : Wd) : Nat → Int32 → Int32 → Option (Int32)
  | 0, _, _ => none
  | n + 1, x1, x2 =>
    if 13 < x2 then
      (some x1)
    else
      ((f_X9_used V x2).bind fun y1 =>
    if y1 ≤ x1 then
      (f_X9_mostUsed_4 V n x1 (x2 + 1))
    else
      ((f_X9_used V x2).bind fun y2 =>
    f_X9_mostUsed_4 V n y2 (x2 + 1)))
def f_X9_mostUsed (V : Wd) : Option (Int32) :=
  f_X9_mostUsed_4 V FU_ 0 0
def f_X9_setStock (V : Wd) (x1 : Int32) : Option (Int32 × Wd) :=
  if (f_X9_in x1 1 3) = 0 then
      (some ((-2), V))
    else
      ((f_X9_mostUsed V).bind fun y1 =>
    if y1 ≤ x1 then
      ((f_X9_record V).bind fun V2 =>
    (rd_ (V2 113) 136 0).bind fun y3 =>
    st_ V2 113 136 0 x1 fun V4 =>
    some (y3, V4))
    else
      (some ((-3), V)))
def f_X9_setWind (V : Wd) (x1 : Int32) (x2 : Int32) : Option (Int32 × Wd) :=
  if (f_X9_in x1 0 9) = 0 then
      (some ((-2), V))
    else
      (if (f_X9_isSide x2) = 0 then
      (some ((-2), V))
    else
      ((f_X9_recordAndDown V).bind fun V1 =>
    (rd_ (V1 113) 136 1).bind fun y2 =>
    st_ V1 113 136 1 x1 fun V3 =>
    st_ V3 113 136 2 x2 fun V4 =>
    some (y2, V4)))
def f_X9_flag (V : Wd) (x1 : Int32) (x2 : Int32) : Option (Int32) :=
  if (f_X9_isFlag x1) = 0 then
      (some (-1))
    else
      (if x2 = 0 then
      ((f_X9_ofFlag V x1 x2).bind fun y2 =>
    some y2)
    else
      (if x2 = 1 then
      ((f_X9_ofFlag V x1 x2).bind fun y4 =>
    some y4)
    else
      (if x2 = 2 then
      ((f_X9_ofFlag V x1 x2).bind fun y6 =>
    some y6)
    else
      (if x2 = 3 then
      ((rd_ (V 113) 136 0).bind fun y8 =>
    (f_X9_used V x1).bind fun y9 =>
    some (y8 - y9))
    else
      (if x2 = 4 then
      ((f_X9_ofFlag V x1 1).bind fun y11 =>
    (f_X9_ofFlag V x1 0).bind fun y12 =>
    (f_X9_flagWith V y11 y12).bind fun y13 =>
    some y13)
    else
      (some (-2)))))))
def f_X9_isSign (x0 : Int32) : Int32 :=
  if (f_X9_isFlag x0) = 0 then
      (if (f_X9_in x0 11 13) = 0 then
      (0)
    else
      (1))
    else
      (1)
def f_X9_putOn (V : Wd) (x1 : Int32) (x2 : Int32) : Option (Wd) :=
  (rd_ (V 113) 136 (38 + (5 * x1))).bind fun y1 =>
    st_ V 113 136 (38 + (5 * x1)) (y1 + 1) fun V2 =>
    (f_X9_many V2 x1).bind fun y3 =>
    st_ V2 113 136 ((38 + (5 * x1)) + y3) x2 fun V4 =>
    some V4
def f_X9_bend_37 (x1 : Int32) (x2 : Int32) (V : Wd) : Option (Int32 × Wd) :=
  (f_X9_many V x1).bind fun y6 =>
    if y6 = 4 then
      (some ((-4), V))
    else
      ((f_X9_used V x2).bind fun y7 =>
    (rd_ (V 113) 136 0).bind fun y8 =>
    if y7 = y8 then
      (some ((-4), V))
    else
      ((f_X9_recordAndDown V).bind fun V9 =>
    (f_X9_putOn V9 x1 x2).bind fun V10 =>
    (f_X9_many V10 x1).bind fun y11 =>
    some (y11, V10)))
def f_X9_bend (V : Wd) (x1 : Int32) (x2 : Int32) : Option (Int32 × Wd) :=
  if (f_X9_isHalyard x1) = 0 then
      (some ((-1), V))
    else
      (if (f_X9_isSign x2) = 0 then
      (some ((-1), V))
    else
      (if x2 ≤ 10 then
      (f_X9_bend_37 x1 x2 V)
    else
      ((f_X9_many V x1).bind fun y1 =>
    if (x2 - 10) ≤ y1 then
      (f_X9_bend_37 x1 x2 V)
    else
      (some ((-3), V)))))
def f_X9_unbend (V : Wd) (x1 : Int32) : Option (Int32 × Wd) :=
  if (f_X9_isHalyard x1) = 0 then
      (some ((-1), V))
    else
      ((f_X9_many V x1).bind fun y1 =>
    if y1 = 0 then
      (some ((-3), V))
    else
      ((f_X9_recordAndDown V).bind fun V2 =>
    (rd_ (V2 113) 136 (38 + (5 * x1))).bind fun y3 =>
    st_ V2 113 136 (38 + (5 * x1)) (y3 - 1) fun V4 =>
    (f_X9_many V4 x1).bind fun y5 =>
    (f_X9_signOn V4 x1 (y5 + 1)).bind fun y6 =>
    some (y6, V4)))
def f_X9_swaps_2 (x1 : Int32) (x2 : Int32) : Nat → Wd → Int32 → Option (Wd)
  | 0, _, _ => none
  | n + 1, V, x3 =>
    if 5 ≤ x3 then
      (some V)
    else
      ((rd_ (V 113) 136 ((38 + (5 * x1)) + x3)).bind fun y1 =>
    (rd_ (V 113) 136 ((38 + (5 * x2)) + x3)).bind fun y2 =>
    st_ V 113 136 ((38 + (5 * x1)) + x3) y2 fun V3 =>
    st_ V3 113 136 ((38 + (5 * x2)) + x3) y1 fun V4 =>
    f_X9_swaps_2 x1 x2 n V4 (x3 + 1))
def f_X9_swaps (V : Wd) (x1 : Int32) (x2 : Int32) : Option (Wd) :=
  f_X9_swaps_2 x1 x2 FU_ V 0
def f_X9_exchange (V : Wd) (x1 : Int32) (x2 : Int32) : Option (Int32 × Wd) :=
  if (f_X9_isHalyard x1) = 0 then
      (some ((-1), V))
    else
      (if (f_X9_isHalyard x2) = 0 then
      (some ((-1), V))
    else
      (if x1 = x2 then
      (some ((-2), V))
    else
      ((f_X9_recordAndDown V).bind fun V1 =>
    (f_X9_swaps V1 x1 x2).bind fun V2 =>
    (f_X9_many V2 x1).bind fun y3 =>
    (f_X9_many V2 x2).bind fun y4 =>
    some ((y3 + y4), V2))))
def f_X9_hoists_4 (V : Wd) : Nat → Int32 → Int32 → Option (Int32)
  | 0, _, _ => none
  | n + 1, x1, x2 =>
    if 5 ≤ x2 then
      (some x1)
    else
      ((f_X9_many V x2).bind fun y1 =>
    if y1 ≤ 0 then
      (li_ (x1 + 0) fun y2 =>
    f_X9_hoists_4 V n y2 (x2 + 1))
    else
      (li_ (x1 + 1) fun y3 =>
    f_X9_hoists_4 V n y3 (x2 + 1)))
def f_X9_hoists (V : Wd) : Option (Int32) :=
  f_X9_hoists_4 V FU_ 0 0
def f_X9_makeEmpty_2 : Nat → Wd → Int32 → Option (Wd)
  | 0, _, _ => none
  | n + 1, V, x1 =>
    if 5 ≤ x1 then
      (some V)
    else
      (st_ V 113 136 (38 + (5 * x1)) 0 fun V1 =>
    f_X9_makeEmpty_2 n V1 (x1 + 1))
def f_X9_makeEmpty (V : Wd) : Option (Wd) :=
  f_X9_makeEmpty_2 FU_ V 0
def f_X9_codeOf (V : Wd) (x1 : Int32) : Option (Int32) :=
  (rd_ (V 113) 136 (63 + (2 * x1))).bind fun y1 =>
    some y1
def f_X9_flagOn_2 (V : Wd) (x1 : Int32) (x2 : Int32) : Nat → Int32 → Option (Int32)
  | 0, _ => none
  | n + 1, x3 =>
    (f_X9_signOn V x1 x3).bind fun y1 =>
    if y1 ≤ 10 then
      ((f_X9_signOn V x1 x3).bind fun y2 =>
    some y2)
    else
      ((f_X9_signOn V x1 x3).bind fun y3 =>
    li_ (y3 - 10) fun y4 =>
    f_X9_flagOn_2 V x1 x2 n y4)
def f_X9_flagOn (V : Wd) (x1 : Int32) (x2 : Int32) : Option (Int32) :=
  f_X9_flagOn_2 V x1 x2 FU_ x2
def f_X9_droops (V : Wd) (x1 : Int32) : Option (Int32) :=
  (f_X9_ofFlag V x1 2).bind fun y1 =>
    (rd_ (V 113) 136 1).bind fun y2 =>
    if y1 ≤ y2 then
      (some 0)
    else
      (some 1)
def f_X9_taken_26 (V : Wd) (x1 : Int32) (x2 : Int32) (s0 : Int32) : Option (Int32) :=
  if s0 = 0 then
      ((f_X9_ofFlag V x2 1).bind fun y5 =>
    (f_X9_ofFlag V x2 0).bind fun y6 =>
    (f_X9_flagWith V y5 y6).bind fun y7 =>
    some y7)
    else
      ((f_X9_ofFlag V x2 0).bind fun y8 =>
    (f_X9_ofFlag V x2 1).bind fun y9 =>
    (f_X9_flagWith V y8 y9).bind fun y10 =>
    some y10)
def f_X9_taken (V : Wd) (x1 : Int32) (x2 : Int32) : Option (Int32) :=
  (f_X9_droops V x2).bind fun y1 =>
    if y1 = 0 then
      ((rd_ (V 113) 136 2).bind fun y2 =>
    if x1 = y2 then
      (f_X9_taken_26 V x1 x2 1)
    else
      (f_X9_taken_26 V x1 x2 0))
    else
      (some (-6))
def f_X9_wordOf (V : Wd) (x1 : Int32) : Option (Int32) :=
  (rd_ (V 113) 136 ((63 + (2 * x1)) + 1)).bind fun y1 =>
    some y1
def f_X9_read_56 (V : Wd) (x1 : Int32) (x2 : Int32) : Nat → Int32 → Int32 → Option (Int32)
  | 0, _, _ => none
  | n + 1, x3, x4 =>
    (rd_ (V 113) 136 5).bind fun y7 =>
    if y7 ≤ x4 then
      (some (-6))
    else
      ((f_X9_codeOf V x4).bind fun y8 =>
    if y8 = x3 then
      ((f_X9_wordOf V x4).bind fun y9 =>
    some y9)
    else
      (f_X9_read_56 V x1 x2 n x3 (x4 + 1)))
def f_X9_read_5 (V : Wd) (x1 : Int32) (x2 : Int32) : Nat → Int32 → Int32 → Option (Int32)
  | 0, _, _ => none
  | n + 1, x3, x4 =>
    (f_X9_many V x2).bind fun y1 =>
    if y1 < x4 then
      (f_X9_read_56 V x1 x2 FU_ x3 0)
    else
      ((f_X9_flagOn V x2 x4).bind fun y2 =>
    (f_X9_taken V x1 y2).bind fun y3 =>
    if y3 = (-6) then
      (some (-6))
    else
      (li_ ((10 * x3) + y3) fun y4 =>
    f_X9_read_5 V x1 x2 n y4 (x4 + 1)))
def f_X9_read (V : Wd) (x1 : Int32) (x2 : Int32) : Option (Int32) :=
  f_X9_read_5 V x1 x2 FU_ 1 1
def f_X9_wordAt_24 (V : Wd) (x1 : Int32) (x2 : Int32) (K5 : Int32 → Int32 → Option (Int32)) (x3 : Int32) (x4 : Int32) (s0 : Int32) : Option (Int32) :=
  (f_X9_many V s0).bind fun y3 =>
    if y3 ≤ 0 then
      (K5 x3 (x4 + 1))
    else
      (if x3 = 0 then
      ((f_X9_read V x1 s0).bind fun y4 =>
    some y4)
    else
      (K5 (x3 + (-1)) (x4 + 1)))
def f_X9_wordAt_5 (V : Wd) (x1 : Int32) (x2 : Int32) : Nat → Int32 → Int32 → Option (Int32)
  | 0, _, _ => none
  | n + 1, x3, x4 =>
    if 5 ≤ x4 then
      (some (-6))
    else
      (if x1 = 0 then
      (f_X9_wordAt_24 V x1 x2 (fun a3 a4 => f_X9_wordAt_5 V x1 x2 n a3 a4) x3 x4 x4)
    else
      (f_X9_wordAt_24 V x1 x2 (fun a3 a4 => f_X9_wordAt_5 V x1 x2 n a3 a4) x3 x4 (4 - x4)))
def f_X9_wordAt (V : Wd) (x1 : Int32) (x2 : Int32) : Option (Int32) :=
  f_X9_wordAt_5 V x1 x2 FU_ x2 0
def f_X9_logs_124 (V : Wd) : Option (Wd) :=
  (rd_ (V 113) 136 6).bind fun y19 =>
    st_ V 113 136 6 (y19 + 1) fun V20 =>
    (rd_ (V20 113) 136 7).bind fun y21 =>
    st_ V20 113 136 7 (y21 + 1) fun V22 =>
    some V22
def f_X9_logs_80 : Nat → Wd → Int32 → Int32 → Option (Wd)
  | 0, _, _, _ => none
  | n + 1, V, x1, x2 =>
    if 5 ≤ x2 then
      (f_X9_logs_124 V)
    else
      ((f_X9_hoists V).bind fun y10 =>
    if y10 ≤ x2 then
      (st_ V 113 136 ((x1 + 1) + x2) 0 fun V11 =>
    f_X9_logs_80 n V11 x1 (x2 + 1))
    else
      ((rd_ (V 113) 136 3).bind fun y12 =>
    (f_X9_wordAt V y12 x2).bind fun y13 =>
    st_ V 113 136 ((x1 + 1) + x2) y13 fun V14 =>
    f_X9_logs_80 n V14 x1 (x2 + 1)))
def f_X9_logs_54 (V : Wd) : Option (Wd) :=
  (rd_ (V 113) 136 6).bind fun y3 =>
    li_ (87 + (6 * y3)) fun y4 =>
    (f_X9_hoists V).bind fun y5 =>
    st_ V 113 136 y4 y5 fun V6 =>
    f_X9_logs_80 FU_ V6 y4 0
def f_X9_logs_43 (V : Wd) : Option (Wd) :=
  (rd_ (V 113) 136 6).bind fun y17 =>
    st_ V 113 136 6 (y17 - 1) fun V18 =>
    f_X9_logs_54 V18
def f_X9_logs_15 : Nat → Wd → Int32 → Option (Wd)
  | 0, _, _ => none
  | n + 1, V, x1 =>
    if 129 ≤ x1 then
      (f_X9_logs_43 V)
    else
      ((rd_ (V 113) 136 (x1 + 6)).bind fun y7 =>
    st_ V 113 136 x1 y7 fun V8 =>
    f_X9_logs_15 n V8 (x1 + 1))
def f_X9_logs (V : Wd) : Option (Wd) :=
  (rd_ (V 113) 136 6).bind fun y1 =>
    if y1 = 8 then
      (f_X9_logs_15 FU_ V 87)
    else
      (f_X9_logs_54 V)
def f_X9_lower (V : Wd) : Option (Int32 × Wd) :=
  (f_X9_record V).bind fun V1 =>
    (rd_ (V1 113) 136 4).bind fun y2 =>
    if y2 = 2 then
      ((f_X9_hoists V1).bind fun y9 =>
    if y9 ≤ 0 then
      ((f_X9_makeEmpty V1).bind fun V10 =>
    st_ V10 113 136 4 0 fun V11 =>
    some (y9, V11))
    else
      ((f_X9_logs V1).bind fun V12 =>
    (f_X9_makeEmpty V12).bind fun V13 =>
    st_ V13 113 136 4 0 fun V14 =>
    some (y9, V14)))
    else
      (if (0 : Int32) ≤ 0 then
      ((f_X9_makeEmpty V1).bind fun V3 =>
    st_ V3 113 136 4 0 fun V4 =>
    some (0, V4))
    else
      ((f_X9_logs V1).bind fun V5 =>
    (f_X9_makeEmpty V5).bind fun V6 =>
    st_ V6 113 136 4 0 fun V7 =>
    some (0, V7)))
def f_X9_isPlace (V : Wd) (x1 : Int32) (x2 : Int32) : Option (Int32) :=
  if (f_X9_isHalyard x1) = 0 then
      (some 0)
    else
      ((f_X9_many V x1).bind fun y1 =>
    if (f_X9_in x2 1 y1) = 0 then
      (some 0)
    else
      (some 1))
def f_X9_sign (V : Wd) (x1 : Int32) (x2 : Int32) (x3 : Int32) : Option (Int32) :=
  (f_X9_isPlace V x1 x2).bind fun y1 =>
    if y1 = 0 then
      (some (-1))
    else
      (if x3 = 0 then
      ((f_X9_signOn V x1 x2).bind fun y3 =>
    some y3)
    else
      (if x3 = 1 then
      ((f_X9_flagOn V x1 x2).bind fun y5 =>
    some y5)
    else
      (if x3 = 2 then
      ((f_X9_flagOn V x1 x2).bind fun y7 =>
    (f_X9_droops V y7).bind fun y8 =>
    if y8 = 0 then
      (some 0)
    else
      (some 1))
    else
      (some (-2)))))
def f_X9_isCode (x0 : Int32) : Int32 :=
  if (f_X9_in x0 10 19) = 0 then
      (if (f_X9_in x0 100 199) = 0 then
      (if (f_X9_in x0 1000 1999) = 0 then
      (if (f_X9_in x0 10000 19999) = 0 then
      (0)
    else
      (1))
    else
      (1))
    else
      (1))
    else
      (1)
def f_X9_enter (V : Wd) (x1 : Int32) (x2 : Int32) : Option (Int32 × Wd) :=
  if (f_X9_isCode x1) = 0 then
      (some ((-2), V))
    else
      (if (f_X9_in x2 0 99) = 0 then
      (some ((-2), V))
    else
      ((rd_ (V 113) 136 5).bind fun y1 =>
    if y1 = 12 then
      (some ((-4), V))
    else
      ((f_X9_recordAndDown V).bind fun V2 =>
    (rd_ (V2 113) 136 5).bind fun y3 =>
    st_ V2 113 136 (63 + (2 * y3)) x1 fun V4 =>
    (rd_ (V4 113) 136 5).bind fun y5 =>
    st_ V4 113 136 ((63 + (2 * y5)) + 1) x2 fun V6 =>
    (rd_ (V6 113) 136 5).bind fun y7 =>
    st_ V6 113 136 5 (y7 + 1) fun V8 =>
    (rd_ (V8 113) 136 5).bind fun y9 =>
    some (y9, V8))))
def f_X9_isEntry (V : Wd) (x1 : Int32) : Option (Int32) :=
  (rd_ (V 113) 136 5).bind fun y1 =>
    if isB (f_X9_in x1 0 (y1 - 1)) then some (f_X9_in x1 0 (y1 - 1)) else none
def f_X9_strike_37 (x1 : Int32) : Nat → Wd → Int32 → Int32 → Option (Int32 × Wd)
  | 0, _, _, _ => none
  | n + 1, V, x2, x3 =>
    (rd_ (V 113) 136 5).bind fun y8 =>
    if (63 + (2 * y8)) ≤ x3 then
      (some (x2, V))
    else
      ((rd_ (V 113) 136 (x3 + 2)).bind fun y9 =>
    st_ V 113 136 x3 y9 fun V10 =>
    f_X9_strike_37 x1 n V10 x2 (x3 + 1))
def f_X9_strike (V : Wd) (x1 : Int32) : Option (Int32 × Wd) :=
  (f_X9_isEntry V x1).bind fun y1 =>
    if y1 = 0 then
      (some ((-1), V))
    else
      ((f_X9_recordAndDown V).bind fun V2 =>
    (f_X9_wordOf V2 x1).bind fun y3 =>
    (rd_ (V2 113) 136 5).bind fun y4 =>
    st_ V2 113 136 5 (y4 - 1) fun V5 =>
    li_ (63 + (2 * x1)) fun y6 =>
    f_X9_strike_37 x1 FU_ V5 y3 y6)
def f_X9_entry (V : Wd) (x1 : Int32) (x2 : Int32) : Option (Int32) :=
  (f_X9_isEntry V x1).bind fun y1 =>
    if y1 = 0 then
      (some (-1))
    else
      (if x2 = 0 then
      ((f_X9_codeOf V x1).bind fun y4 =>
    some y4)
    else
      (if x2 = 1 then
      ((f_X9_wordOf V x1).bind fun y2 =>
    some y2)
    else
      (some (-2))))
def f_X9_seen (V : Wd) (x1 : Int32) (x2 : Int32) (x3 : Int32) : Option (Int32) :=
  if (f_X9_isSide x1) = 0 then
      (some (-2))
    else
      ((f_X9_isPlace V x2 x3).bind fun y1 =>
    if y1 = 0 then
      (some (-1))
    else
      ((f_X9_flagOn V x2 x3).bind fun y2 =>
    (f_X9_taken V x1 y2).bind fun y3 =>
    some y3))
def f_X9_word (V : Wd) (x1 : Int32) (x2 : Int32) : Option (Int32) :=
  if (f_X9_isSide x1) = 0 then
      (some (-2))
    else
      ((f_X9_hoists V).bind fun y1 =>
    if (f_X9_in x2 0 (y1 - 1)) = 0 then
      (some (-1))
    else
      ((f_X9_wordAt V x1 x2).bind fun y2 =>
    some y2))
def f_X9_knownBy_4 (V : Wd) (x1 : Int32) : Nat → Int32 → Int32 → Option (Int32)
  | 0, _, _ => none
  | n + 1, x2, x3 =>
    if 5 ≤ x3 then
      (some x2)
    else
      ((f_X9_many V x3).bind fun y1 =>
    if y1 ≤ 0 then
      (li_ (x2 + 0) fun y2 =>
    f_X9_knownBy_4 V x1 n y2 (x3 + 1))
    else
      ((f_X9_read V x1 x3).bind fun y3 =>
    if y3 = (-6) then
      (li_ (x2 + 0) fun y4 =>
    f_X9_knownBy_4 V x1 n y4 (x3 + 1))
    else
      (li_ (x2 + 1) fun y5 =>
    f_X9_knownBy_4 V x1 n y5 (x3 + 1))))
def f_X9_knownBy (V : Wd) (x1 : Int32) : Option (Int32) :=
  f_X9_knownBy_4 V x1 FU_ 0 0
def f_X9_known (V : Wd) (x1 : Int32) : Option (Int32) :=
  if (f_X9_isSide x1) = 0 then
      (some (-2))
    else
      ((f_X9_knownBy V x1).bind fun y1 =>
    some y1)
def f_X9_knowsAll (V : Wd) (x1 : Int32) : Option (Int32) :=
  (f_X9_hoists V).bind fun y1 =>
    if y1 ≤ 0 then
      (some 0)
    else
      ((f_X9_knownBy V x1).bind fun y2 =>
    (f_X9_hoists V).bind fun y3 =>
    if y2 = y3 then
      (some 1)
    else
      (some 0))
def f_X9_isSame_24 (V : Wd) : Nat → Int32 → Int32 → Option (Int32)
  | 0, _, _ => none
  | n + 1, x1, x2 =>
    (f_X9_hoists V).bind fun y5 =>
    if y5 ≤ x2 then
      (if x1 = 0 then
      (some 0)
    else
      (some 1))
    else
      (if x1 = 0 then
      (f_X9_isSame_24 V n 0 (x2 + 1))
    else
      ((f_X9_wordAt V 0 x2).bind fun y7 =>
    (f_X9_wordAt V 1 x2).bind fun y8 =>
    if y7 = y8 then
      (f_X9_isSame_24 V n 1 (x2 + 1))
    else
      (f_X9_isSame_24 V n 0 (x2 + 1))))
def f_X9_isSame (V : Wd) : Option (Int32) :=
  (f_X9_knowsAll V 0).bind fun y1 =>
    if y1 = 0 then
      (f_X9_isSame_24 V FU_ 0 0)
    else
      ((f_X9_knowsAll V 1).bind fun y2 =>
    if y2 = 0 then
      (f_X9_isSame_24 V FU_ 0 0)
    else
      (f_X9_isSame_24 V FU_ 1 0))
def f_X9_sail (V : Wd) (x1 : Int32) : Option (Int32 × Wd) :=
  if (f_X9_isSide x1) = 0 then
      (some ((-2), V))
    else
      ((f_X9_recordAndDown V).bind fun V1 =>
    (rd_ (V1 113) 136 3).bind fun y2 =>
    st_ V1 113 136 3 x1 fun V3 =>
    some (y2, V3))
def f_X9_answer_43 (V : Wd) : Option (Int32 × Wd) :=
  (f_X9_record V).bind fun V10 =>
    (rd_ (V10 113) 136 4).bind fun y11 =>
    st_ V10 113 136 4 (y11 + 1) fun V12 =>
    (rd_ (V12 113) 136 4).bind fun y13 =>
    some (y13, V12)
def f_X9_answer (V : Wd) : Option (Int32 × Wd) :=
  (f_X9_hoists V).bind fun y1 =>
    if y1 = 0 then
      (some ((-3), V))
    else
      ((rd_ (V 113) 136 4).bind fun y2 =>
    if y2 = 2 then
      (some ((-3), V))
    else
      ((rd_ (V 113) 136 4).bind fun y3 =>
    if y3 = 1 then
      ((rd_ (V 113) 136 3).bind fun y4 =>
    (f_X9_knowsAll V y4).bind fun y5 =>
    if y5 = 0 then
      (some ((-3), V))
    else
      (f_X9_answer_43 V))
    else
      (f_X9_answer_43 V)))
def f_X9_logged (V : Wd) (x1 : Int32) (x2 : Int32) : Option (Int32) :=
  (rd_ (V 113) 136 6).bind fun y1 =>
    if (f_X9_in x1 0 (y1 - 1)) = 0 then
      (some (-1))
    else
      (if (f_X9_in x2 0 5) = 0 then
      (some (-2))
    else
      (li_ (87 + (6 * x1)) fun y2 =>
    (rd_ (V 113) 136 y2).bind fun y3 =>
    if x2 ≤ y3 then
      ((rd_ (V 113) 136 (y2 + x2)).bind fun y4 =>
    some y4)
    else
      (some (-1))))
def f_X9_total (V : Wd) (x1 : Int32) : Option (Int32) :=
  if x1 = 0 then
      ((rd_ (V 113) 136 1).bind fun y2 =>
    some y2)
    else
      (if x1 = 1 then
      ((rd_ (V 113) 136 2).bind fun y4 =>
    some y4)
    else
      (if x1 = 2 then
      ((rd_ (V 113) 136 0).bind fun y6 =>
    some y6)
    else
      (if x1 = 3 then
      ((f_X9_allSigns V).bind fun y8 =>
    some y8)
    else
      (if x1 = 4 then
      ((f_X9_hoists V).bind fun y10 =>
    some y10)
    else
      (if x1 = 5 then
      ((rd_ (V 113) 136 5).bind fun y12 =>
    some y12)
    else
      (if x1 = 6 then
      ((rd_ (V 113) 136 3).bind fun y14 =>
    some y14)
    else
      (if x1 = 7 then
      ((rd_ (V 113) 136 4).bind fun y16 =>
    some y16)
    else
      (if x1 = 8 then
      ((rd_ (V 113) 136 6).bind fun y18 =>
    some y18)
    else
      (if x1 = 9 then
      ((rd_ (V 113) 136 7).bind fun y20 =>
    some y20)
    else
      (some (-2)))))))))))
def f_X9_leastWind_58 (x1 : Int32) (V : Wd) (x2 : Int32) (x3 : Int32) : Option (Int32 × Wd) :=
  st_ V 113 136 1 x2 fun V7 =>
    some (x3, V7)
def f_X9_leastWind_24 (x1 : Int32) : Nat → Wd → Int32 → Int32 → Int32 → Option (Int32 × Wd)
  | 0, _, _, _, _ => none
  | n + 1, V, x2, x3, x4 =>
    if x4 < 0 then
      (f_X9_leastWind_58 x1 V x2 x3)
    else
      (st_ V 113 136 1 x4 fun V3 =>
    (f_X9_knowsAll V3 x1).bind fun y4 =>
    if y4 = 0 then
      (f_X9_leastWind_24 x1 n V3 x2 x3 (x4 + (-1)))
    else
      (f_X9_leastWind_24 x1 n V3 x2 x4 (x4 + (-1))))
def f_X9_leastWind (V : Wd) (x1 : Int32) : Option (Int32 × Wd) :=
  if (f_X9_isSide x1) = 0 then
      (some ((-2), V))
    else
      ((rd_ (V 113) 136 1).bind fun y1 =>
    f_X9_leastWind_24 x1 FU_ V y1 (-6) 9)
def f_X9_ifTurned (V : Wd) (x1 : Int32) : Option (Int32 × Wd) :=
  if (f_X9_isSide x1) = 0 then
      (some ((-2), V))
    else
      ((rd_ (V 113) 136 2).bind fun y1 =>
    st_ V 113 136 2 (1 - y1) fun V2 =>
    (f_X9_knownBy V2 x1).bind fun y3 =>
    (rd_ (V2 113) 136 2).bind fun y4 =>
    st_ V2 113 136 2 (1 - y4) fun V5 =>
    some (y3, V5))
def f_X9_mendingExchange_21 (K15 : Wd → Int32 → Int32 → Option (Int32 × Wd)) : Nat → Wd → Int32 → Int32 → Int32 → Option (Int32 × Wd)
  | 0, _, _, _, _ => none
  | n + 1, V, x1, x2, x3 =>
    if x3 ≤ x2 then
      (K15 V x1 (x2 + (-1)))
    else
      ((f_X9_swaps V x2 x3).bind fun V4 =>
    (f_X9_isSame V4).bind fun y5 =>
    if y5 = 1 then
      (li_ ((10 * x2) + x3) fun y7 =>
    (f_X9_swaps V4 x2 x3).bind fun V8 =>
    f_X9_mendingExchange_21 K15 n V8 y7 x2 (x3 + (-1)))
    else
      ((f_X9_swaps V4 x2 x3).bind fun V6 =>
    f_X9_mendingExchange_21 K15 n V6 x1 x2 (x3 + (-1))))
def f_X9_mendingExchange_15 : Nat → Wd → Int32 → Int32 → Option (Int32 × Wd)
  | 0, _, _, _ => none
  | n + 1, V, x1, x2 =>
    if x2 < 0 then
      (some (x1, V))
    else
      (f_X9_mendingExchange_21 (fun V1 a1 a2 => f_X9_mendingExchange_15 n V1 a1 a2) FU_ V x1 x2 4)
def f_X9_mendingExchange (V : Wd) : Option (Int32 × Wd) :=
  (f_X9_isSame V).bind fun y1 =>
    if y1 = 1 then
      (some (0, V))
    else
      (f_X9_mendingExchange_15 FU_ V (-6) 4)
def f_X9_lengthOf (x0 : Int32) : Int32 :=
  if 100 ≤ x0 then
      (if 1000 ≤ x0 then
      (if 10000 ≤ x0 then
      (4)
    else
      (3))
    else
      (2))
    else
      (1)
def f_X9_isKnownAs_11 (V : Wd) (x1 : Int32) : Nat → Int32 → Int32 → Int32 → Option (Int32)
  | 0, _, _, _ => none
  | n + 1, x2, x3, x4 =>
    (f_X9_codeOf V x1).bind fun y2 =>
    if (f_X9_lengthOf y2) ≤ x4 then
      (if isB x2 then some x2 else none)
    else
      (if x2 = 0 then
      (li_ (x3 / 10) fun y4 =>
    f_X9_isKnownAs_11 V x1 n 0 y4 (x4 + 1))
    else
      ((f_X9_taken V 0 (x3 - x3 / 10 * 10)).bind fun y5 =>
    if y5 = (x3 - x3 / 10 * 10) then
      (li_ (x3 / 10) fun y7 =>
    f_X9_isKnownAs_11 V x1 n 1 y7 (x4 + 1))
    else
      (li_ (x3 / 10) fun y6 =>
    f_X9_isKnownAs_11 V x1 n 0 y6 (x4 + 1))))
def f_X9_isKnownAs (V : Wd) (x1 : Int32) : Option (Int32) :=
  (f_X9_codeOf V x1).bind fun y1 =>
    f_X9_isKnownAs_11 V x1 FU_ 1 y1 0
def f_X9_bestEntry_50 (V : Wd) (x1 : Int32) (K18 : Int32 → Int32 → Option (Int32)) (x2 : Int32) (x3 : Int32) (s0 : Int32) : Option (Int32) :=
  if s0 = 0 then
      (K18 x2 (x3 + 1))
    else
      (if x2 = (-6) then
      (K18 x3 (x3 + 1))
    else
      ((f_X9_codeOf V x3).bind fun y8 =>
    (f_X9_codeOf V x2).bind fun y9 =>
    if (f_X9_lengthOf y9) ≤ (f_X9_lengthOf y8) then
      (K18 x2 (x3 + 1))
    else
      (K18 x3 (x3 + 1))))
def f_X9_bestEntry_49 (V : Wd) (x1 : Int32) (K18 : Int32 → Int32 → Option (Int32)) (x2 : Int32) (x3 : Int32) : Option (Int32) :=
  f_X9_bestEntry_50 V x1 K18 x2 x3 0
def f_X9_bestEntry_18 (V : Wd) (x1 : Int32) : Nat → Int32 → Int32 → Option (Int32)
  | 0, _, _ => none
  | n + 1, x2, x3 =>
    (rd_ (V 113) 136 5).bind fun y2 =>
    if y2 ≤ x3 then
      (some x2)
    else
      ((f_X9_wordOf V x3).bind fun y3 =>
    if y3 = x1 then
      ((f_X9_isKnownAs V x3).bind fun y4 =>
    if y4 = 0 then
      (f_X9_bestEntry_49 V x1 (fun a2 a3 => f_X9_bestEntry_18 V x1 n a2 a3) x2 x3)
    else
      (f_X9_bestEntry_50 V x1 (fun a2 a3 => f_X9_bestEntry_18 V x1 n a2 a3) x2 x3 1))
    else
      (f_X9_bestEntry_49 V x1 (fun a2 a3 => f_X9_bestEntry_18 V x1 n a2 a3) x2 x3))
def f_X9_bestEntry (V : Wd) (x1 : Int32) : Option (Int32) :=
  if (f_X9_in x1 0 99) = 0 then
      (some (-2))
    else
      (f_X9_bestEntry_18 V x1 FU_ (-6) 0)
def f_X9_append (V : Wd) (x1 : Int32) : Option (Int32 × Wd) :=
  if (f_X9_in x1 33 126) = 0 then
      (some ((-2), V))
    else
      (if (V 112 6) = 50 then
      (some ((-4), V))
    else
      (st_ V 116 50 (V 112 6) (vp_nar .char (i2c x1)) fun V1 =>
    li_ (u2 V1 112 6 ((V1 112 6) + 1)) fun V2 =>
    some ((V2 112 6), V2)))
def f_X9_clearText (V : Wd) : Option (Int32 × Wd) :=
  li_ (V 112 6) fun y1 =>
    li_ (u2 V 112 6 0) fun V2 =>
    some (y1, V2)
def f_X9_letter (V : Wd) : Option (Int32) :=
  if (V 112 6) ≤ (V 112 9) then
      (some (-6))
    else
      ((rd_ (V 116) 50 (V 112 9)).bind fun y1 =>
    some y1)
def f_X9_wants (V : Wd) (x1 : Int32) : Option (Wd) :=
  if (V 112 10) = (-6) then
      (if x1 = 0 then
      (li_ (u2 V 112 10 (V 112 9)) fun V1 =>
    li_ (u2 V1 112 9 ((V1 112 9) + 1)) fun V2 =>
    some V2)
    else
      (li_ (u2 V 112 10 (-6)) fun V3 =>
    li_ (u2 V3 112 9 ((V3 112 9) + 1)) fun V4 =>
    some V4))
    else
      (some V)
def f_X9_figure (V : Wd) (x1 : Int32) (x2 : Int32) : Option (Int32 × Wd) :=
  (f_X9_letter V).bind fun y1 =>
    li_ (y1 - 48) fun y2 =>
    (f_X9_wants V (f_X9_in y2 x1 x2)).bind fun V3 =>
    some (y2, V3)
def f_X9_isSignNext (V : Wd) (x1 : Int32) : Option (Int32) :=
  (f_X9_letter V).bind fun y1 =>
    if (f_X9_in y1 48 57) = 0 then
      ((f_X9_letter V).bind fun y2 =>
    if y2 = 114 then
      (if x1 ≤ 0 then
      (some 0)
    else
      (some 1))
    else
      (some 0))
    else
      (some 1)
def f_X9_readSign_90 (x1 : Int32) (V : Wd) (x3 : Int32) : Option (Wd) :=
  if (V 112 10) = (-6) then
      ((rd_ (V 117) 25 (5 * x1)).bind fun y10 =>
    st_ V 117 25 (5 * x1) (y10 + 1) fun V11 =>
    (rd_ (V11 117) 25 (5 * x1)).bind fun y12 =>
    st_ V11 117 25 ((5 * x1) + y12) x3 fun V13 =>
    some V13)
    else
      (some V)
def f_X9_readSign_85 (x1 : Int32) (V : Wd) (s0 : Int32) (s1 : Int32) (s3 : Int32) : Option (Wd) :=
  (f_X9_figure V s1 s0).bind fun q15 =>
    li_ (s3 + q15.1) fun y16 =>
    f_X9_readSign_90 x1 q15.2 y16
def f_X9_readSign_45 (x1 : Int32) (V : Wd) (x2 : Int32) (s0 : Int32) : Option (Wd) :=
  if (V 112 10) = (-6) then
      ((rd_ (V 116) 50 ((V 112 9) - 1)).bind fun y6 =>
    if y6 = 114 then
      (if 3 ≤ x2 then
      (f_X9_readSign_85 x1 V 3 1 10)
    else
      (f_X9_readSign_85 x1 V x2 1 10))
    else
      (f_X9_readSign_90 x1 V s0))
    else
      (f_X9_readSign_90 x1 V s0)
def f_X9_readSign (V : Wd) (x1 : Int32) : Option (Wd) :=
  (rd_ (V 117) 25 (5 * x1)).bind fun y1 =>
    (f_X9_isSignNext V y1).bind fun y2 =>
    (f_X9_wants V y2).bind fun V3 =>
    if (V3 112 10) = (-6) then
      ((rd_ (V3 116) 50 ((V3 112 9) - 1)).bind fun y4 =>
    f_X9_readSign_45 x1 V3 y1 (y4 - 48))
    else
      (f_X9_readSign_45 x1 V3 y1 0)
def f_X9_readHoist_49 : Nat → Wd → Int32 → Option (Wd)
  | 0, _, _ => none
  | n + 1, V, x1 =>
    if (V 112 10) = (-6) then
      ((rd_ (V 117) 25 (5 * x1)).bind fun y12 =>
    if 4 ≤ y12 then
      (some V)
    else
      ((rd_ (V 117) 25 (5 * x1)).bind fun y13 =>
    (f_X9_isSignNext V y13).bind fun y14 =>
    if y14 = 0 then
      (some V)
    else
      ((f_X9_readSign V x1).bind fun V15 =>
    f_X9_readHoist_49 n V15 x1)))
    else
      (some V)
def f_X9_readHoist (V : Wd) : Option (Wd) :=
  (f_X9_figure V ((V 112 8) + 1) 4).bind fun q1 =>
    (f_X9_letter q1.2).bind fun y2 =>
    if y2 = 58 then
      ((f_X9_wants q1.2 1).bind fun V7 =>
    if (V7 112 10) = (-6) then
      (li_ (u2 V7 112 8 q1.1) fun V8 =>
    (f_X9_readSign V8 q1.1).bind fun V9 =>
    f_X9_readHoist_49 FU_ V9 q1.1)
    else
      (f_X9_readHoist_49 FU_ V7 q1.1))
    else
      ((f_X9_wants q1.2 0).bind fun V3 =>
    if (V3 112 10) = (-6) then
      (li_ (u2 V3 112 8 q1.1) fun V4 =>
    (f_X9_readSign V4 q1.1).bind fun V5 =>
    f_X9_readHoist_49 FU_ V5 q1.1)
    else
      (f_X9_readHoist_49 FU_ V3 q1.1))
def f_X9_errorPosition_72 (K39 : Wd → Int32 → Option (Int32 × Wd)) (V : Wd) (s0 : Int32) : Option (Int32 × Wd) :=
  if s0 = 0 then
      (K39 V s0)
    else
      ((f_X9_letter V).bind fun y10 =>
    if y10 = 44 then
      (if 4 ≤ (V 112 8) then
      ((f_X9_wants V 0).bind fun V13 =>
    if (V13 112 10) = (-6) then
      (K39 V13 1)
    else
      (K39 V13 0))
    else
      ((f_X9_wants V 1).bind fun V15 =>
    if (V15 112 10) = (-6) then
      (K39 V15 1)
    else
      (K39 V15 0)))
    else
      ((f_X9_wants V 0).bind fun V11 =>
    if (V11 112 10) = (-6) then
      (K39 V11 1)
    else
      (K39 V11 0)))
def f_X9_errorPosition_71 (K39 : Wd → Int32 → Option (Int32 × Wd)) (V : Wd) : Option (Int32 × Wd) :=
  f_X9_errorPosition_72 K39 V 0
def f_X9_errorPosition_39 : Nat → Wd → Int32 → Option (Int32 × Wd)
  | 0, _, _ => none
  | n + 1, V, x1 =>
    if x1 = 0 then
      (some ((V 112 10), V))
    else
      ((f_X9_readHoist V).bind fun V6 =>
    if (V6 112 10) = (-6) then
      (if (V6 112 6) ≤ (V6 112 9) then
      (f_X9_errorPosition_71 (fun V1 a1 => f_X9_errorPosition_39 n V1 a1) V6)
    else
      (f_X9_errorPosition_72 (fun V1 a1 => f_X9_errorPosition_39 n V1 a1) V6 1))
    else
      (f_X9_errorPosition_71 (fun V1 a1 => f_X9_errorPosition_39 n V1 a1) V6))
def f_X9_errorPosition_21 (V : Wd) : Option (Int32 × Wd) :=
  li_ (u2 V 112 8 (-1)) fun V3 =>
    li_ (u2 V3 112 9 0) fun V4 =>
    li_ (u2 V4 112 10 (-6)) fun V5 =>
    f_X9_errorPosition_39 FU_ V5 1
def f_X9_errorPosition_2 : Nat → Wd → Int32 → Option (Int32 × Wd)
  | 0, _, _ => none
  | n + 1, V, x1 =>
    if 25 ≤ x1 then
      (f_X9_errorPosition_21 V)
    else
      (st_ V 117 25 x1 0 fun V1 =>
    f_X9_errorPosition_2 n V1 (x1 + 1))
def f_X9_errorPosition (V : Wd) : Option (Int32 × Wd) :=
  f_X9_errorPosition_2 FU_ V 0
def f_X9_neededOf_12 (V : Wd) (x1 : Int32) (K4 : Int32 → Int32 → Option (Int32)) : Nat → Int32 → Int32 → Int32 → Option (Int32)
  | 0, _, _, _ => none
  | n + 1, x2, x3, x4 =>
    (rd_ (V 117) 25 (5 * x3)).bind fun y2 =>
    if y2 < x4 then
      (K4 x2 (x3 + 1))
    else
      ((rd_ (V 117) 25 ((5 * x3) + x4)).bind fun y3 =>
    if y3 = x1 then
      (li_ (x2 + 1) fun y5 =>
    f_X9_neededOf_12 V x1 K4 n y5 x3 (x4 + 1))
    else
      (li_ (x2 + 0) fun y4 =>
    f_X9_neededOf_12 V x1 K4 n y4 x3 (x4 + 1)))
def f_X9_neededOf_4 (V : Wd) (x1 : Int32) : Nat → Int32 → Int32 → Option (Int32)
  | 0, _, _ => none
  | n + 1, x2, x3 =>
    if 5 ≤ x3 then
      (some x2)
    else
      (f_X9_neededOf_12 V x1 (fun a2 a3 => f_X9_neededOf_4 V x1 n a2 a3) FU_ x2 x3 1)
def f_X9_neededOf (V : Wd) (x1 : Int32) : Option (Int32) :=
  f_X9_neededOf_4 V x1 FU_ 0 0
def f_X9_hoist_60 (K53 : Wd → Int32 → Option (Int32 × Wd)) : Nat → Wd → Int32 → Int32 → Option (Int32 × Wd)
  | 0, _, _, _ => none
  | n + 1, V, x1, x2 =>
    (rd_ (V 117) 25 (5 * x1)).bind fun y12 =>
    if y12 < x2 then
      (K53 V (x1 + 1))
    else
      ((rd_ (V 117) 25 ((5 * x1) + x2)).bind fun y13 =>
    (f_X9_putOn V x1 y13).bind fun V14 =>
    f_X9_hoist_60 K53 n V14 x1 (x2 + 1))
def f_X9_hoist_53 : Nat → Wd → Int32 → Option (Int32 × Wd)
  | 0, _, _ => none
  | n + 1, V, x1 =>
    if 5 ≤ x1 then
      (li_ (u2 V 112 6 0) fun V9 =>
    (f_X9_allSigns V9).bind fun y10 =>
    some (y10, V9))
    else
      (f_X9_hoist_60 (fun V1 a1 => f_X9_hoist_53 n V1 a1) FU_ V x1 1)
def f_X9_hoist_14 : Nat → Wd → Int32 → Option (Int32 × Wd)
  | 0, _, _ => none
  | n + 1, V, x1 =>
    if 13 < x1 then
      ((f_X9_recordAndDown V).bind fun V3 =>
    (f_X9_makeEmpty V3).bind fun V4 =>
    f_X9_hoist_53 FU_ V4 0)
    else
      ((f_X9_neededOf V x1).bind fun y5 =>
    (rd_ (V 113) 136 0).bind fun y6 =>
    if y5 ≤ y6 then
      (f_X9_hoist_14 n V (x1 + 1))
    else
      (some ((-4), V)))
def f_X9_hoist (V : Wd) : Option (Int32 × Wd) :=
  (f_X9_errorPosition V).bind fun q1 =>
    if q1.1 = (-6) then
      (f_X9_hoist_14 FU_ q1.2 0)
    else
      (some ((-5), q1.2))

set_option maxRecDepth 100000 in
set_option maxHeartbeats 4000000 in
theorem lb_L_ahead_73 {E : En} {G : Gm} (F : Fx E G (AG G) RL cL_ahead 14 (some .boolean) 7 164 0 0) {x5 : Int32} {K9 : Wd → Int32 → Int32 → Option (Int32 × Wd)} {z : Int32 × Wd} (hK9 : ∀ (V1 : Wd) (a6 : Int32) (a7 : Int32), K9 V1 a6 a7 = some z → Go E G (AG G) 0 0 (MQq E G (some (.int z.1)) z.2) 14 V1 9 [(0, .ref (AD G 0)), (1, .ref (AD G 118)), (2, .ref (AD G 119)), (3, .ref (AD G 120)), (4, .ref (AD G 122)), (5, .int x5), (6, .int a6), (7, .int a7)] []) (V : Wd) (x6 : Int32) (x7 : Int32) (x8 : Int32) (h : f_L_ahead_73 x5 K9 V x6 x7 x8 = some z) : Go E G (AG G) 0 0 (MQq E G (some (.int z.1)) z.2) 14 V 73 [(0, .ref (AD G 0)), (1, .ref (AD G 118)), (2, .ref (AD G 119)), (3, .ref (AD G 120)), (4, .ref (AD G 122)), (5, .int x5), (6, .int x6), (7, .int x7), (8, .int x8)] [] := by
  unfold f_L_ahead_73 at h
  refine go_aload (pc := 73) F dL_ahead_73 4 rfl ?_
  refine go_iconst (pc := 75) 1 F dL_ahead_75 (by decide) ?_
  refine go_iload (pc := 76) F dL_ahead_76 6 rfl ?_
  refine go_jast (pc := 78) 122 7 F dL_ahead_78 (by decide) (fun _ => rfl) h (fun V21 h => ?_)
  refine go_aload (pc := 79) F dL_ahead_79 4 rfl ?_
  refine go_iconst (pc := 81) 2 F dL_ahead_81 (by decide) ?_
  refine go_iconst (pc := 82) 1 F dL_ahead_82 (by decide) ?_
  refine go_aload (pc := 83) F dL_ahead_83 4 rfl ?_
  refine go_iconst (pc := 85) 2 F dL_ahead_85 (by decide) ?_
  refine go_jald (pc := 86) 122 7 F dL_ahead_86 (by decide) (fun _ => rfl) h (fun y22 h => ?_)
  refine go_isub (pc := 87) F dL_ahead_87 ?_
  refine go_jast (pc := 88) 122 7 F dL_ahead_88 (by decide) (fun _ => rfl) h (fun V23 h => ?_)
  refine go_aloadn (pc := 89) F dL_ahead_89 1 rfl ?_
  refine go_aloadn (pc := 90) F dL_ahead_90 2 rfl ?_
  refine go_aloadn (pc := 91) F dL_ahead_91 3 rfl ?_
  refine go_aload (pc := 92) F dL_ahead_92 4 rfl ?_
  refine go_iload (pc := 94) F dL_ahead_94 7 rfl ?_
  obtain ⟨y24, hy24, h⟩ := ob_ h
  refine cv_L_34 (pc := 96) F dL_ahead_96 (ct_L_known (enL E) G V23 x7 y24 hy24) (by decide) (by decide) (Nat.le_of_ble_eq_true rfl) ?_
  refine go_istore (pc := 99) (lv' := [(9, .int y24), (0, .ref (AD G 0)), (1, .ref (AD G 118)), (2, .ref (AD G 119)), (3, .ref (AD G 120)), (4, .ref (AD G 122)), (5, .int x5), (6, .int x6), (7, .int x7), (8, .int x8)]) F dL_ahead_99 (by decide) rfl ?_
  refine go_aload (pc := 101) F dL_ahead_101 5 rfl ?_
  refine go_iconst (pc := 103) 2 F dL_ahead_103 (by decide) ?_
  refine go_iconst (pc := 104) 1 F dL_ahead_104 (by decide) ?_
  refine go_aload (pc := 105) F dL_ahead_105 5 rfl ?_
  refine go_iconst (pc := 107) 2 F dL_ahead_107 (by decide) ?_
  refine go_jald (pc := 108) 122 7 F dL_ahead_108 (by decide) (fun _ => rfl) h (fun y25 h => ?_)
  refine go_isub (pc := 109) F dL_ahead_109 ?_
  refine go_jast (pc := 110) 122 7 F dL_ahead_110 (by decide) (fun _ => rfl) h (fun V26 h => ?_)
  refine go_aloadn (pc := 111) F dL_ahead_111 1 rfl ?_
  refine go_iload (pc := 112) F dL_ahead_112 8 rfl ?_
  obtain ⟨q27, hq27, h⟩ := ob_ h
  refine cv_L_77 (pc := 114) F dL_ahead_114 rfl (ct_X8_leastWind (enL E) G V26 x7 q27 hq27) (by decide) (by decide) (Nat.le_of_ble_eq_true rfl) ?_
  refine go_iload (pc := 117) F dL_ahead_117 9 rfl ?_
  refine go_icmp_ne (pc := 119) 133 F dL_ahead_119 (by decide) h (fun c30 h => ?_) (fun c30 h => ?_)
  · refine go_iconst (pc := 133) 0 F dL_ahead_133 (by decide) ?_
    exact go_zretW (pc := 134) F dL_ahead_134 rfl h
  · refine go_aloadn (pc := 122) F dL_ahead_122 1 rfl ?_
    refine go_iload (pc := 123) F dL_ahead_123 8 rfl ?_
    obtain ⟨q28, hq28, h⟩ := ob_ h
    refine cv_L_80 (pc := 125) F dL_ahead_125 rfl (ct_X8_ifTurned (enL E) G q27.2 x7 q28 hq28) (by decide) (by decide) (Nat.le_of_ble_eq_true rfl) ?_
    refine go_iload (pc := 128) F dL_ahead_128 0 rfl ?_
    refine go_icmp_eq (pc := 130) 135 F dL_ahead_130 (by decide) h (fun c29 h => ?_) (fun c29 h => ?_)
    · refine go_iinc (pc := 135) (x7 + 1) (lv' := [(7, .int (x7 + 1)), (9, .int y24), (0, .ref (AD G 0)), (1, .ref (AD G 118)), (2, .ref (AD G 119)), (3, .ref (AD G 120)), (4, .ref (AD G 122)), (5, .int x5), (6, .int x6), (8, .int x8)]) F dL_ahead_135 (k := 8) rfl rfl (by decide) rfl ?_
      refine go_goto (pc := 138) 9 F dL_ahead_138 (by decide) ?_
      exact go_sub [2, 3, 4, 5, 6, 7, 8, 0] rfl (hK9 q28.2 x6 (x7 + 1) h)
    · refine go_iconst (pc := 133) 0 F dL_ahead_133 (by decide) ?_
      exact go_zretW (pc := 134) F dL_ahead_134 rfl h
set_option maxRecDepth 100000 in
set_option maxHeartbeats 4000000 in
theorem lb_L_ahead_23 {E : En} {G : Gm} (F : Fx E G (AG G) RL cL_ahead 14 (some .boolean) 7 164 0 0) {x5 : Int32} {K9 : Wd → Int32 → Int32 → Option (Int32 × Wd)} {z : Int32 × Wd} (hK9 : ∀ (V1 : Wd) (a6 : Int32) (a7 : Int32), K9 V1 a6 a7 = some z → Go E G (AG G) 0 0 (MQq E G (some (.int z.1)) z.2) 14 V1 9 [(0, .ref (AD G 0)), (1, .ref (AD G 118)), (2, .ref (AD G 119)), (3, .ref (AD G 120)), (4, .ref (AD G 122)), (5, .int x5), (6, .int a6), (7, .int a7)] []) : ∀ (n : Nat) (V : Wd) (x6 : Int32) (x7 : Int32) (x8 : Int32) (x9 : Int32), f_L_ahead_23 x5 K9 n V x6 x7 x8 x9 = some z → Go E G (AG G) 0 0 (MQq E G (some (.int z.1)) z.2) 14 V 23 [(0, .ref (AD G 0)), (1, .ref (AD G 118)), (2, .ref (AD G 119)), (3, .ref (AD G 120)), (4, .ref (AD G 122)), (5, .int x5), (6, .int x6), (7, .int x7), (8, .int x8), (9, .int x9)] [] := by
  intro n
  induction n with
  | zero => intro V x6 x7 x8 x9 h; cases h
  | succ n ih =>
    intro V x6 x7 x8 x9 h
    rw [f_L_ahead_23] at h
    refine go_iload (pc := 23) F dL_ahead_23 9 rfl ?_
    refine go_if_lt (pc := 25) 73 F dL_ahead_25 (by decide) h (fun c11 h => ?_) (fun c11 h => ?_)
    · exact go_sub [0, 1, 2, 3, 4, 5, 6, 7, 8] rfl (lb_L_ahead_73 F hK9 V x6 x7 x8 h)
    · refine go_aload (pc := 28) F dL_ahead_28 4 rfl ?_
      refine go_iconst (pc := 30) 1 F dL_ahead_30 (by decide) ?_
      refine go_iload (pc := 31) F dL_ahead_31 9 rfl ?_
      refine go_jast (pc := 33) 122 7 F dL_ahead_33 (by decide) (fun _ => rfl) h (fun V5 h => ?_)
      refine go_aloadn (pc := 34) F dL_ahead_34 2 rfl ?_
      obtain ⟨y6, hy6, h⟩ := ob_ h
      refine cv_L_30 (pc := 35) F dL_ahead_35 (ct_L_hoists (enL E) G V5 y6 hy6) (by decide) (by decide) (Nat.le_of_ble_eq_true rfl) ?_
      refine go_if_le (pc := 38) 63 F dL_ahead_38 (by decide) h (fun c10 h => ?_) (fun c10 h => ?_)
      · refine go_iload (pc := 63) F dL_ahead_63 8 rfl ?_
        refine go_istore (pc := 65) (lv' := [(8, .int x8), (0, .ref (AD G 0)), (1, .ref (AD G 118)), (2, .ref (AD G 119)), (3, .ref (AD G 120)), (4, .ref (AD G 122)), (5, .int x5), (6, .int x6), (7, .int x7), (9, .int x9)]) F dL_ahead_65 (by decide) rfl ?_
        refine go_iinc (pc := 67) (x9 + (-1)) (lv' := [(9, .int (x9 + (-1))), (8, .int x8), (0, .ref (AD G 0)), (1, .ref (AD G 118)), (2, .ref (AD G 119)), (3, .ref (AD G 120)), (4, .ref (AD G 122)), (5, .int x5), (6, .int x6), (7, .int x7)]) F dL_ahead_67 (k := 9) rfl rfl (by decide) rfl ?_
        refine go_goto (pc := 70) 23 F dL_ahead_70 (by decide) ?_
        exact go_sub [2, 3, 4, 5, 6, 7, 8, 9, 1, 0] rfl (ih V5 x6 x7 x8 (x9 + (-1)) h)
      · refine go_aloadn (pc := 41) F dL_ahead_41 1 rfl ?_
        refine go_aloadn (pc := 42) F dL_ahead_42 2 rfl ?_
        refine go_aloadn (pc := 43) F dL_ahead_43 3 rfl ?_
        refine go_aload (pc := 44) F dL_ahead_44 4 rfl ?_
        refine go_iload (pc := 46) F dL_ahead_46 7 rfl ?_
        obtain ⟨y7, hy7, h⟩ := ob_ h
        refine cv_L_34 (pc := 48) F dL_ahead_48 (ct_L_known (enL E) G V5 x7 y7 hy7) (by decide) (by decide) (Nat.le_of_ble_eq_true rfl) ?_
        refine go_aloadn (pc := 51) F dL_ahead_51 2 rfl ?_
        obtain ⟨y8, hy8, h⟩ := ob_ h
        refine cv_L_30 (pc := 52) F dL_ahead_52 (ct_L_hoists (enL E) G V5 y8 hy8) (by decide) (by decide) (Nat.le_of_ble_eq_true rfl) ?_
        refine go_icmp_ne (pc := 55) 63 F dL_ahead_55 (by decide) h (fun c9 h => ?_) (fun c9 h => ?_)
        · refine go_iload (pc := 63) F dL_ahead_63 8 rfl ?_
          refine go_istore (pc := 65) (lv' := [(8, .int x8), (0, .ref (AD G 0)), (1, .ref (AD G 118)), (2, .ref (AD G 119)), (3, .ref (AD G 120)), (4, .ref (AD G 122)), (5, .int x5), (6, .int x6), (7, .int x7), (9, .int x9)]) F dL_ahead_65 (by decide) rfl ?_
          refine go_iinc (pc := 67) (x9 + (-1)) (lv' := [(9, .int (x9 + (-1))), (8, .int x8), (0, .ref (AD G 0)), (1, .ref (AD G 118)), (2, .ref (AD G 119)), (3, .ref (AD G 120)), (4, .ref (AD G 122)), (5, .int x5), (6, .int x6), (7, .int x7)]) F dL_ahead_67 (k := 9) rfl rfl (by decide) rfl ?_
          refine go_goto (pc := 70) 23 F dL_ahead_70 (by decide) ?_
          exact go_sub [2, 3, 4, 5, 6, 7, 8, 9, 1, 0] rfl (ih V5 x6 x7 x8 (x9 + (-1)) h)
        · refine go_iload (pc := 58) F dL_ahead_58 9 rfl ?_
          refine go_goto (pc := 60) 65 F dL_ahead_60 (by decide) ?_
          refine go_istore (pc := 65) (lv' := [(8, .int x9), (0, .ref (AD G 0)), (1, .ref (AD G 118)), (2, .ref (AD G 119)), (3, .ref (AD G 120)), (4, .ref (AD G 122)), (5, .int x5), (6, .int x6), (7, .int x7), (9, .int x9)]) F dL_ahead_65 (by decide) rfl ?_
          refine go_iinc (pc := 67) (x9 + (-1)) (lv' := [(9, .int (x9 + (-1))), (8, .int x9), (0, .ref (AD G 0)), (1, .ref (AD G 118)), (2, .ref (AD G 119)), (3, .ref (AD G 120)), (4, .ref (AD G 122)), (5, .int x5), (6, .int x6), (7, .int x7)]) F dL_ahead_67 (k := 9) rfl rfl (by decide) rfl ?_
          refine go_goto (pc := 70) 23 F dL_ahead_70 (by decide) ?_
          exact go_sub [2, 3, 4, 5, 6, 7, 8, 9, 1, 0] rfl (ih V5 x6 x7 x9 (x9 + (-1)) h)
set_option maxRecDepth 100000 in
set_option maxHeartbeats 4000000 in
theorem lb_L_ahead_348 {E : En} {G : Gm} (F : Fx E G (AG G) RL cL_ahead 14 (some .boolean) 7 164 0 0) {x5 : Int32} {K256 : Wd → Int32 → Int32 → Int32 → Int32 → Option (Int32 × Wd)} {z : Int32 × Wd} (hK256 : ∀ (V1 : Wd) (a7 : Int32) (a8 : Int32) (a9 : Int32) (a10 : Int32), K256 V1 a7 a8 a9 a10 = some z → Go E G (AG G) 0 0 (MQq E G (some (.int z.1)) z.2) 14 V1 256 [(0, .ref (AD G 0)), (1, .ref (AD G 118)), (3, .ref (AD G 120)), (4, .ref (AD G 122)), (5, .int x5), (7, .int a7), (8, .int a8), (9, .int a9), (10, .int a10)] []) (V : Wd) (x7 : Int32) (x8 : Int32) (x9 : Int32) (x10 : Int32) (x11 : Int32) (x12 : Int32) (h : f_L_ahead_348 x5 K256 V x7 x8 x9 x10 x11 x12 = some z) : Go E G (AG G) 0 0 (MQq E G (some (.int z.1)) z.2) 14 V 348 [(0, .ref (AD G 0)), (1, .ref (AD G 118)), (3, .ref (AD G 120)), (4, .ref (AD G 122)), (5, .int x5), (7, .int x7), (8, .int x8), (9, .int x9), (10, .int x10), (11, .int x11), (12, .int x12)] [] := by
  unfold f_L_ahead_348 at h
  refine go_iload (pc := 348) F dL_ahead_348 10 rfl ?_
  refine go_if_eq (pc := 350) 365 F dL_ahead_350 (by decide) h (fun c55 h => ?_) (fun c55 h => ?_)
  · refine go_iload (pc := 365) F dL_ahead_365 6 rfl ?_
    refine go_istore (pc := 367) (lv' := [(8, .int x8), (0, .ref (AD G 0)), (1, .ref (AD G 118)), (3, .ref (AD G 120)), (4, .ref (AD G 122)), (5, .int x5), (7, .int x7), (9, .int x9), (10, .int x10), (11, .int x11), (12, .int x12)]) F dL_ahead_367 (by decide) rfl ?_
    refine go_iload (pc := 369) F dL_ahead_369 10 rfl ?_
    refine go_if_eq (pc := 371) 386 F dL_ahead_371 (by decide) h (fun c49 h => ?_) (fun c49 h => ?_)
    · refine go_iload (pc := 386) F dL_ahead_386 7 rfl ?_
      refine go_istore (pc := 388) (lv' := [(9, .int x9), (8, .int x8), (0, .ref (AD G 0)), (1, .ref (AD G 118)), (3, .ref (AD G 120)), (4, .ref (AD G 122)), (5, .int x5), (7, .int x7), (10, .int x10), (11, .int x11), (12, .int x12)]) F dL_ahead_388 (by decide) rfl ?_
      refine go_iinc (pc := 390) (x10 + 1) (lv' := [(10, .int (x10 + 1)), (9, .int x9), (8, .int x8), (0, .ref (AD G 0)), (1, .ref (AD G 118)), (3, .ref (AD G 120)), (4, .ref (AD G 122)), (5, .int x5), (7, .int x7), (11, .int x11), (12, .int x12)]) F dL_ahead_390 (k := 8) rfl rfl (by decide) rfl ?_
      refine go_goto (pc := 393) 256 F dL_ahead_393 (by decide) ?_
      exact go_sub [3, 4, 5, 6, 7, 8, 2, 1, 0] rfl (hK256 V x7 x8 x9 (x10 + 1) h)
    · refine go_iload (pc := 374) F dL_ahead_374 9 rfl ?_
      refine go_iload (pc := 376) F dL_ahead_376 7 rfl ?_
      refine go_icmp_ge (pc := 378) 386 F dL_ahead_378 (by decide) h (fun c48 h => ?_) (fun c48 h => ?_)
      · refine go_iload (pc := 386) F dL_ahead_386 7 rfl ?_
        refine go_istore (pc := 388) (lv' := [(9, .int x9), (8, .int x8), (0, .ref (AD G 0)), (1, .ref (AD G 118)), (3, .ref (AD G 120)), (4, .ref (AD G 122)), (5, .int x5), (7, .int x7), (10, .int x10), (11, .int x11), (12, .int x12)]) F dL_ahead_388 (by decide) rfl ?_
        refine go_iinc (pc := 390) (x10 + 1) (lv' := [(10, .int (x10 + 1)), (9, .int x9), (8, .int x8), (0, .ref (AD G 0)), (1, .ref (AD G 118)), (3, .ref (AD G 120)), (4, .ref (AD G 122)), (5, .int x5), (7, .int x7), (11, .int x11), (12, .int x12)]) F dL_ahead_390 (k := 8) rfl rfl (by decide) rfl ?_
        refine go_goto (pc := 393) 256 F dL_ahead_393 (by decide) ?_
        exact go_sub [3, 4, 5, 6, 7, 8, 2, 1, 0] rfl (hK256 V x7 x8 x9 (x10 + 1) h)
      · refine go_iload (pc := 381) F dL_ahead_381 9 rfl ?_
        refine go_goto (pc := 383) 388 F dL_ahead_383 (by decide) ?_
        refine go_istore (pc := 388) (lv' := [(9, .int x11), (8, .int x8), (0, .ref (AD G 0)), (1, .ref (AD G 118)), (3, .ref (AD G 120)), (4, .ref (AD G 122)), (5, .int x5), (7, .int x7), (10, .int x10), (11, .int x11), (12, .int x12)]) F dL_ahead_388 (by decide) rfl ?_
        refine go_iinc (pc := 390) (x10 + 1) (lv' := [(10, .int (x10 + 1)), (9, .int x11), (8, .int x8), (0, .ref (AD G 0)), (1, .ref (AD G 118)), (3, .ref (AD G 120)), (4, .ref (AD G 122)), (5, .int x5), (7, .int x7), (11, .int x11), (12, .int x12)]) F dL_ahead_390 (k := 8) rfl rfl (by decide) rfl ?_
        refine go_goto (pc := 393) 256 F dL_ahead_393 (by decide) ?_
        exact go_sub [3, 4, 5, 6, 7, 8, 2, 1, 0] rfl (hK256 V x7 x8 x11 (x10 + 1) h)
  · refine go_iload (pc := 353) F dL_ahead_353 9 rfl ?_
    refine go_iload (pc := 355) F dL_ahead_355 7 rfl ?_
    refine go_icmp_ge (pc := 357) 365 F dL_ahead_357 (by decide) h (fun c54 h => ?_) (fun c54 h => ?_)
    · refine go_iload (pc := 365) F dL_ahead_365 6 rfl ?_
      refine go_istore (pc := 367) (lv' := [(8, .int x8), (0, .ref (AD G 0)), (1, .ref (AD G 118)), (3, .ref (AD G 120)), (4, .ref (AD G 122)), (5, .int x5), (7, .int x7), (9, .int x9), (10, .int x10), (11, .int x11), (12, .int x12)]) F dL_ahead_367 (by decide) rfl ?_
      refine go_iload (pc := 369) F dL_ahead_369 10 rfl ?_
      refine go_if_eq (pc := 371) 386 F dL_ahead_371 (by decide) h (fun c51 h => ?_) (fun c51 h => ?_)
      · refine go_iload (pc := 386) F dL_ahead_386 7 rfl ?_
        refine go_istore (pc := 388) (lv' := [(9, .int x9), (8, .int x8), (0, .ref (AD G 0)), (1, .ref (AD G 118)), (3, .ref (AD G 120)), (4, .ref (AD G 122)), (5, .int x5), (7, .int x7), (10, .int x10), (11, .int x11), (12, .int x12)]) F dL_ahead_388 (by decide) rfl ?_
        refine go_iinc (pc := 390) (x10 + 1) (lv' := [(10, .int (x10 + 1)), (9, .int x9), (8, .int x8), (0, .ref (AD G 0)), (1, .ref (AD G 118)), (3, .ref (AD G 120)), (4, .ref (AD G 122)), (5, .int x5), (7, .int x7), (11, .int x11), (12, .int x12)]) F dL_ahead_390 (k := 8) rfl rfl (by decide) rfl ?_
        refine go_goto (pc := 393) 256 F dL_ahead_393 (by decide) ?_
        exact go_sub [3, 4, 5, 6, 7, 8, 2, 1, 0] rfl (hK256 V x7 x8 x9 (x10 + 1) h)
      · refine go_iload (pc := 374) F dL_ahead_374 9 rfl ?_
        refine go_iload (pc := 376) F dL_ahead_376 7 rfl ?_
        refine go_icmp_ge (pc := 378) 386 F dL_ahead_378 (by decide) h (fun c50 h => ?_) (fun c50 h => ?_)
        · refine go_iload (pc := 386) F dL_ahead_386 7 rfl ?_
          refine go_istore (pc := 388) (lv' := [(9, .int x9), (8, .int x8), (0, .ref (AD G 0)), (1, .ref (AD G 118)), (3, .ref (AD G 120)), (4, .ref (AD G 122)), (5, .int x5), (7, .int x7), (10, .int x10), (11, .int x11), (12, .int x12)]) F dL_ahead_388 (by decide) rfl ?_
          refine go_iinc (pc := 390) (x10 + 1) (lv' := [(10, .int (x10 + 1)), (9, .int x9), (8, .int x8), (0, .ref (AD G 0)), (1, .ref (AD G 118)), (3, .ref (AD G 120)), (4, .ref (AD G 122)), (5, .int x5), (7, .int x7), (11, .int x11), (12, .int x12)]) F dL_ahead_390 (k := 8) rfl rfl (by decide) rfl ?_
          refine go_goto (pc := 393) 256 F dL_ahead_393 (by decide) ?_
          exact go_sub [3, 4, 5, 6, 7, 8, 2, 1, 0] rfl (hK256 V x7 x8 x9 (x10 + 1) h)
        · refine go_iload (pc := 381) F dL_ahead_381 9 rfl ?_
          refine go_goto (pc := 383) 388 F dL_ahead_383 (by decide) ?_
          refine go_istore (pc := 388) (lv' := [(9, .int x11), (8, .int x8), (0, .ref (AD G 0)), (1, .ref (AD G 118)), (3, .ref (AD G 120)), (4, .ref (AD G 122)), (5, .int x5), (7, .int x7), (10, .int x10), (11, .int x11), (12, .int x12)]) F dL_ahead_388 (by decide) rfl ?_
          refine go_iinc (pc := 390) (x10 + 1) (lv' := [(10, .int (x10 + 1)), (9, .int x11), (8, .int x8), (0, .ref (AD G 0)), (1, .ref (AD G 118)), (3, .ref (AD G 120)), (4, .ref (AD G 122)), (5, .int x5), (7, .int x7), (11, .int x11), (12, .int x12)]) F dL_ahead_390 (k := 8) rfl rfl (by decide) rfl ?_
          refine go_goto (pc := 393) 256 F dL_ahead_393 (by decide) ?_
          exact go_sub [3, 4, 5, 6, 7, 8, 2, 1, 0] rfl (hK256 V x7 x8 x11 (x10 + 1) h)
    · refine go_iload (pc := 360) F dL_ahead_360 8 rfl ?_
      refine go_goto (pc := 362) 367 F dL_ahead_362 (by decide) ?_
      refine go_istore (pc := 367) (lv' := [(8, .int x10), (0, .ref (AD G 0)), (1, .ref (AD G 118)), (3, .ref (AD G 120)), (4, .ref (AD G 122)), (5, .int x5), (7, .int x7), (9, .int x9), (10, .int x10), (11, .int x11), (12, .int x12)]) F dL_ahead_367 (by decide) rfl ?_
      refine go_iload (pc := 369) F dL_ahead_369 10 rfl ?_
      refine go_if_eq (pc := 371) 386 F dL_ahead_371 (by decide) h (fun c53 h => ?_) (fun c53 h => ?_)
      · refine go_iload (pc := 386) F dL_ahead_386 7 rfl ?_
        refine go_istore (pc := 388) (lv' := [(9, .int x9), (8, .int x10), (0, .ref (AD G 0)), (1, .ref (AD G 118)), (3, .ref (AD G 120)), (4, .ref (AD G 122)), (5, .int x5), (7, .int x7), (10, .int x10), (11, .int x11), (12, .int x12)]) F dL_ahead_388 (by decide) rfl ?_
        refine go_iinc (pc := 390) (x10 + 1) (lv' := [(10, .int (x10 + 1)), (9, .int x9), (8, .int x10), (0, .ref (AD G 0)), (1, .ref (AD G 118)), (3, .ref (AD G 120)), (4, .ref (AD G 122)), (5, .int x5), (7, .int x7), (11, .int x11), (12, .int x12)]) F dL_ahead_390 (k := 8) rfl rfl (by decide) rfl ?_
        refine go_goto (pc := 393) 256 F dL_ahead_393 (by decide) ?_
        exact go_sub [3, 4, 5, 6, 7, 8, 2, 1, 0] rfl (hK256 V x7 x10 x9 (x10 + 1) h)
      · refine go_iload (pc := 374) F dL_ahead_374 9 rfl ?_
        refine go_iload (pc := 376) F dL_ahead_376 7 rfl ?_
        refine go_icmp_ge (pc := 378) 386 F dL_ahead_378 (by decide) h (fun c52 h => ?_) (fun c52 h => ?_)
        · refine go_iload (pc := 386) F dL_ahead_386 7 rfl ?_
          refine go_istore (pc := 388) (lv' := [(9, .int x9), (8, .int x10), (0, .ref (AD G 0)), (1, .ref (AD G 118)), (3, .ref (AD G 120)), (4, .ref (AD G 122)), (5, .int x5), (7, .int x7), (10, .int x10), (11, .int x11), (12, .int x12)]) F dL_ahead_388 (by decide) rfl ?_
          refine go_iinc (pc := 390) (x10 + 1) (lv' := [(10, .int (x10 + 1)), (9, .int x9), (8, .int x10), (0, .ref (AD G 0)), (1, .ref (AD G 118)), (3, .ref (AD G 120)), (4, .ref (AD G 122)), (5, .int x5), (7, .int x7), (11, .int x11), (12, .int x12)]) F dL_ahead_390 (k := 8) rfl rfl (by decide) rfl ?_
          refine go_goto (pc := 393) 256 F dL_ahead_393 (by decide) ?_
          exact go_sub [3, 4, 5, 6, 7, 8, 2, 1, 0] rfl (hK256 V x7 x10 x9 (x10 + 1) h)
        · refine go_iload (pc := 381) F dL_ahead_381 9 rfl ?_
          refine go_goto (pc := 383) 388 F dL_ahead_383 (by decide) ?_
          refine go_istore (pc := 388) (lv' := [(9, .int x11), (8, .int x10), (0, .ref (AD G 0)), (1, .ref (AD G 118)), (3, .ref (AD G 120)), (4, .ref (AD G 122)), (5, .int x5), (7, .int x7), (10, .int x10), (11, .int x11), (12, .int x12)]) F dL_ahead_388 (by decide) rfl ?_
          refine go_iinc (pc := 390) (x10 + 1) (lv' := [(10, .int (x10 + 1)), (9, .int x11), (8, .int x10), (0, .ref (AD G 0)), (1, .ref (AD G 118)), (3, .ref (AD G 120)), (4, .ref (AD G 122)), (5, .int x5), (7, .int x7), (11, .int x11), (12, .int x12)]) F dL_ahead_390 (k := 8) rfl rfl (by decide) rfl ?_
          refine go_goto (pc := 393) 256 F dL_ahead_393 (by decide) ?_
          exact go_sub [3, 4, 5, 6, 7, 8, 2, 1, 0] rfl (hK256 V x7 x10 x11 (x10 + 1) h)
set_option maxRecDepth 100000 in
set_option maxHeartbeats 4000000 in
theorem lb_L_ahead_296 {E : En} {G : Gm} (F : Fx E G (AG G) RL cL_ahead 14 (some .boolean) 7 164 0 0) {x5 : Int32} {K256 : Wd → Int32 → Int32 → Int32 → Int32 → Option (Int32 × Wd)} {z : Int32 × Wd} (hK256 : ∀ (V1 : Wd) (a7 : Int32) (a8 : Int32) (a9 : Int32) (a10 : Int32), K256 V1 a7 a8 a9 a10 = some z → Go E G (AG G) 0 0 (MQq E G (some (.int z.1)) z.2) 14 V1 256 [(0, .ref (AD G 0)), (1, .ref (AD G 118)), (3, .ref (AD G 120)), (4, .ref (AD G 122)), (5, .int x5), (7, .int a7), (8, .int a8), (9, .int a9), (10, .int a10)] []) : ∀ (n : Nat) (V : Wd) (x7 : Int32) (x8 : Int32) (x9 : Int32) (x10 : Int32) (x11 : Int32) (x12 : Int32) (x13 : Int32), f_L_ahead_296 x5 K256 n V x7 x8 x9 x10 x11 x12 x13 = some z → Go E G (AG G) 0 0 (MQq E G (some (.int z.1)) z.2) 14 V 296 [(0, .ref (AD G 0)), (1, .ref (AD G 118)), (3, .ref (AD G 120)), (4, .ref (AD G 122)), (5, .int x5), (7, .int x7), (8, .int x8), (9, .int x9), (10, .int x10), (11, .int x11), (12, .int x12), (13, .int x13)] [] := by
  intro n
  induction n with
  | zero => intro V x7 x8 x9 x10 x11 x12 x13 h; cases h
  | succ n ih =>
    intro V x7 x8 x9 x10 x11 x12 x13 h
    rw [f_L_ahead_296] at h
    refine go_iload (pc := 296) F dL_ahead_296 11 rfl ?_
    refine go_bipush (pc := 298) 9 F dL_ahead_298 (by decide) ?_
    refine go_icmp_le (pc := 300) 348 F dL_ahead_300 (by decide) h (fun c47 h => ?_) (fun c47 h => ?_)
    · exact go_sub [0, 1, 2, 3, 4, 5, 6, 7, 8, 9, 10] rfl (lb_L_ahead_348 F hK256 V x7 x8 x9 x10 x11 x12 h)
    · refine go_iinc (pc := 303) (x11 + 1) (lv' := [(11, .int (x11 + 1)), (0, .ref (AD G 0)), (1, .ref (AD G 118)), (3, .ref (AD G 120)), (4, .ref (AD G 122)), (5, .int x5), (7, .int x7), (8, .int x8), (9, .int x9), (10, .int x10), (12, .int x12), (13, .int x13)]) F dL_ahead_303 (k := 9) rfl rfl (by decide) rfl ?_
      refine go_iload (pc := 306) F dL_ahead_306 10 rfl ?_
      refine go_if_eq (pc := 308) 335 F dL_ahead_308 (by decide) h (fun c46 h => ?_) (fun c46 h => ?_)
      · refine go_iconst (pc := 335) 0 F dL_ahead_335 (by decide) ?_
        refine go_istore (pc := 336) (lv' := [(12, .int 0), (11, .int (x11 + 1)), (0, .ref (AD G 0)), (1, .ref (AD G 118)), (3, .ref (AD G 120)), (4, .ref (AD G 122)), (5, .int x5), (7, .int x7), (8, .int x8), (9, .int x9), (10, .int x10), (13, .int x13)]) F dL_ahead_336 (by decide) rfl ?_
        refine go_iload (pc := 338) F dL_ahead_338 11 rfl ?_
        refine go_bipush (pc := 340) 10 F dL_ahead_340 (by decide) ?_
        refine go_idiv (pc := 342) F dL_ahead_342 (by decide) ?_
        refine go_topi h (fun y41 h => ?_)
        refine go_istore (pc := 343) (lv' := [(13, .int y41), (12, .int 0), (11, .int (x11 + 1)), (0, .ref (AD G 0)), (1, .ref (AD G 118)), (3, .ref (AD G 120)), (4, .ref (AD G 122)), (5, .int x5), (7, .int x7), (8, .int x8), (9, .int x9), (10, .int x10)]) F dL_ahead_343 (by decide) rfl ?_
        refine go_goto (pc := 345) 296 F dL_ahead_345 (by decide) ?_
        exact go_sub [3, 4, 5, 6, 7, 8, 9, 10, 11, 2, 1, 0] rfl (ih V x7 x8 x9 x10 (x11 + 1) 0 y41 h)
      · refine go_aloadn (pc := 311) F dL_ahead_311 2 rfl ?_
        refine go_aload (pc := 312) F dL_ahead_312 4 rfl ?_
        refine go_iconst (pc := 314) 0 F dL_ahead_314 (by decide) ?_
        refine go_iload (pc := 315) F dL_ahead_315 11 rfl ?_
        refine go_bipush (pc := 317) 10 F dL_ahead_317 (by decide) ?_
        refine go_irem (pc := 319) F dL_ahead_319 (by decide) ?_
        obtain ⟨y42, hy42, h⟩ := ob_ h
        refine cv_L_22 (pc := 320) F dL_ahead_320 (ct_L_taken (enL E) G V 0 (x13 - x13 / 10 * 10) y42 hy42) (by decide) (by decide) (Nat.le_of_ble_eq_true rfl) ?_
        refine go_iload (pc := 323) F dL_ahead_323 11 rfl ?_
        refine go_bipush (pc := 325) 10 F dL_ahead_325 (by decide) ?_
        refine go_irem (pc := 327) F dL_ahead_327 (by decide) ?_
        refine go_icmp_ne (pc := 328) 335 F dL_ahead_328 (by decide) h (fun c45 h => ?_) (fun c45 h => ?_)
        · refine go_iconst (pc := 335) 0 F dL_ahead_335 (by decide) ?_
          refine go_istore (pc := 336) (lv' := [(12, .int 0), (11, .int (x11 + 1)), (0, .ref (AD G 0)), (1, .ref (AD G 118)), (3, .ref (AD G 120)), (4, .ref (AD G 122)), (5, .int x5), (7, .int x7), (8, .int x8), (9, .int x9), (10, .int x10), (13, .int x13)]) F dL_ahead_336 (by decide) rfl ?_
          refine go_iload (pc := 338) F dL_ahead_338 11 rfl ?_
          refine go_bipush (pc := 340) 10 F dL_ahead_340 (by decide) ?_
          refine go_idiv (pc := 342) F dL_ahead_342 (by decide) ?_
          refine go_topi h (fun y43 h => ?_)
          refine go_istore (pc := 343) (lv' := [(13, .int y43), (12, .int 0), (11, .int (x11 + 1)), (0, .ref (AD G 0)), (1, .ref (AD G 118)), (3, .ref (AD G 120)), (4, .ref (AD G 122)), (5, .int x5), (7, .int x7), (8, .int x8), (9, .int x9), (10, .int x10)]) F dL_ahead_343 (by decide) rfl ?_
          refine go_goto (pc := 345) 296 F dL_ahead_345 (by decide) ?_
          exact go_sub [3, 4, 5, 6, 7, 8, 9, 10, 11, 2, 1, 0] rfl (ih V x7 x8 x9 x10 (x11 + 1) 0 y43 h)
        · refine go_iconst (pc := 331) 1 F dL_ahead_331 (by decide) ?_
          refine go_goto (pc := 332) 336 F dL_ahead_332 (by decide) ?_
          refine go_istore (pc := 336) (lv' := [(12, .int 1), (11, .int (x11 + 1)), (0, .ref (AD G 0)), (1, .ref (AD G 118)), (3, .ref (AD G 120)), (4, .ref (AD G 122)), (5, .int x5), (7, .int x7), (8, .int x8), (9, .int x9), (10, .int x10), (13, .int x13)]) F dL_ahead_336 (by decide) rfl ?_
          refine go_iload (pc := 338) F dL_ahead_338 11 rfl ?_
          refine go_bipush (pc := 340) 10 F dL_ahead_340 (by decide) ?_
          refine go_idiv (pc := 342) F dL_ahead_342 (by decide) ?_
          refine go_topi h (fun y44 h => ?_)
          refine go_istore (pc := 343) (lv' := [(13, .int y44), (12, .int 1), (11, .int (x11 + 1)), (0, .ref (AD G 0)), (1, .ref (AD G 118)), (3, .ref (AD G 120)), (4, .ref (AD G 122)), (5, .int x5), (7, .int x7), (8, .int x8), (9, .int x9), (10, .int x10)]) F dL_ahead_343 (by decide) rfl ?_
          refine go_goto (pc := 345) 296 F dL_ahead_345 (by decide) ?_
          exact go_sub [3, 4, 5, 6, 7, 8, 9, 10, 11, 2, 1, 0] rfl (ih V x7 x8 x9 x10 (x11 + 1) 1 y44 h)
set_option maxRecDepth 100000 in
set_option maxHeartbeats 4000000 in
theorem lb_L_ahead_396 {E : En} {G : Gm} (F : Fx E G (AG G) RL cL_ahead 14 (some .boolean) 7 164 0 0) {x5 : Int32} {z : Int32 × Wd} (V : Wd) (x7 : Int32) (x8 : Int32) (h : f_L_ahead_396 x5 V x7 x8 = some z) : Go E G (AG G) 0 0 (MQq E G (some (.int z.1)) z.2) 14 V 396 [(0, .ref (AD G 0)), (5, .int x5), (7, .int x7), (8, .int x8)] [] := by
  unfold f_L_ahead_396 at h
  refine go_aloadn (pc := 396) F dL_ahead_396 0 rfl ?_
  obtain ⟨q37, hq37, h⟩ := ob_ h
  refine cv_L_87 (pc := 397) F dL_ahead_397 rfl (ct_X8_mendingExchange (enL E) G V q37 hq37) (by decide) (by decide) (Nat.le_of_ble_eq_true rfl) ?_
  refine go_iload (pc := 400) F dL_ahead_400 2 rfl ?_
  refine go_icmp_ne (pc := 402) 420 F dL_ahead_402 (by decide) h (fun c40 h => ?_) (fun c40 h => ?_)
  · refine go_iconst (pc := 420) 0 F dL_ahead_420 (by decide) ?_
    exact go_zretW (pc := 421) F dL_ahead_421 rfl h
  · refine go_aloadn (pc := 405) F dL_ahead_405 0 rfl ?_
    refine go_iload (pc := 406) F dL_ahead_406 1 rfl ?_
    obtain ⟨y38, hy38, h⟩ := ob_ h
    refine cv_L_90 (pc := 408) F dL_ahead_408 rfl (ct_X8_bestEntry (enL E) G q37.2 x5 y38 hy38) (by decide) (by decide) (Nat.le_of_ble_eq_true rfl) ?_
    refine go_iload (pc := 411) F dL_ahead_411 3 rfl ?_
    refine go_icmp_ne (pc := 413) 420 F dL_ahead_413 (by decide) h (fun c39 h => ?_) (fun c39 h => ?_)
    · refine go_iconst (pc := 420) 0 F dL_ahead_420 (by decide) ?_
      exact go_zretW (pc := 421) F dL_ahead_421 rfl h
    · refine go_iconst (pc := 416) 1 F dL_ahead_416 (by decide) ?_
      refine go_goto (pc := 417) 421 F dL_ahead_417 (by decide) ?_
      exact go_zretW (pc := 421) F dL_ahead_421 rfl h
set_option maxRecDepth 100000 in
set_option maxHeartbeats 4000000 in
theorem lb_L_ahead_256 {E : En} {G : Gm} (F : Fx E G (AG G) RL cL_ahead 14 (some .boolean) 7 164 0 0) {x5 : Int32} {z : Int32 × Wd} : ∀ (n : Nat) (V : Wd) (x7 : Int32) (x8 : Int32) (x9 : Int32) (x10 : Int32), f_L_ahead_256 x5 n V x7 x8 x9 x10 = some z → Go E G (AG G) 0 0 (MQq E G (some (.int z.1)) z.2) 14 V 256 [(0, .ref (AD G 0)), (1, .ref (AD G 118)), (3, .ref (AD G 120)), (4, .ref (AD G 122)), (5, .int x5), (7, .int x7), (8, .int x8), (9, .int x9), (10, .int x10)] [] := by
  intro n
  induction n with
  | zero => intro V x7 x8 x9 x10 h; cases h
  | succ n ih =>
    intro V x7 x8 x9 x10 h
    rw [f_L_ahead_256] at h
    refine go_iload (pc := 256) F dL_ahead_256 8 rfl ?_
    refine go_aload (pc := 258) F dL_ahead_258 3 rfl ?_
    refine go_iconst (pc := 260) 5 F dL_ahead_260 (by decide) ?_
    refine go_jald (pc := 261) 122 7 F dL_ahead_261 (by decide) (fun _ => rfl) h (fun y31 h => ?_)
    refine go_icmp_ge (pc := 262) 396 F dL_ahead_262 (by decide) h (fun c36 h => ?_) (fun c36 h => ?_)
    · exact go_sub [0, 4, 5, 6] rfl (lb_L_ahead_396 F V x7 x8 h)
    · refine go_iconst (pc := 265) 0 F dL_ahead_265 (by decide) ?_
      refine go_istore (pc := 266) (lv' := [(11, .int 0), (0, .ref (AD G 0)), (1, .ref (AD G 118)), (3, .ref (AD G 120)), (4, .ref (AD G 122)), (5, .int x5), (7, .int x7), (8, .int x8), (9, .int x9), (10, .int x10)]) F dL_ahead_266 (by decide) rfl ?_
      refine go_aloadn (pc := 268) F dL_ahead_268 3 rfl ?_
      refine go_iconst (pc := 269) 2 F dL_ahead_269 (by decide) ?_
      refine go_iload (pc := 270) F dL_ahead_270 9 rfl ?_
      refine go_imul (pc := 272) F dL_ahead_272 ?_
      refine go_iconst (pc := 273) 1 F dL_ahead_273 (by decide) ?_
      refine go_iadd (pc := 274) F dL_ahead_274 ?_
      refine go_jald (pc := 275) 120 24 F dL_ahead_275 (by decide) (fun _ => rfl) h (fun y32 h => ?_)
      refine go_iload (pc := 276) F dL_ahead_276 5 rfl ?_
      refine go_icmp_ne (pc := 278) 285 F dL_ahead_278 (by decide) h (fun c35 h => ?_) (fun c35 h => ?_)
      · refine go_iconst (pc := 285) 0 F dL_ahead_285 (by decide) ?_
        refine go_istore (pc := 286) (lv' := [(12, .int 0), (11, .int 0), (0, .ref (AD G 0)), (1, .ref (AD G 118)), (3, .ref (AD G 120)), (4, .ref (AD G 122)), (5, .int x5), (7, .int x7), (8, .int x8), (9, .int x9), (10, .int x10)]) F dL_ahead_286 (by decide) rfl ?_
        refine go_aloadn (pc := 288) F dL_ahead_288 4 rfl ?_
        refine go_iconst (pc := 289) 2 F dL_ahead_289 (by decide) ?_
        refine go_iload (pc := 290) F dL_ahead_290 10 rfl ?_
        refine go_imul (pc := 292) F dL_ahead_292 ?_
        refine go_jald (pc := 293) 120 24 F dL_ahead_293 (by decide) (fun _ => rfl) h (fun y33 h => ?_)
        refine go_istore (pc := 294) (lv' := [(13, .int y33), (12, .int 0), (11, .int 0), (0, .ref (AD G 0)), (1, .ref (AD G 118)), (3, .ref (AD G 120)), (4, .ref (AD G 122)), (5, .int x5), (7, .int x7), (8, .int x8), (9, .int x9), (10, .int x10)]) F dL_ahead_294 (by decide) rfl ?_
        exact go_sub [3, 4, 5, 6, 7, 8, 9, 10, 11, 2, 1, 0] rfl (lb_L_ahead_296 F (fun V1 a7 a8 a9 a10 h => ih V1 a7 a8 a9 a10 h) FU_ V x7 x8 x9 x10 0 0 y33 h)
      · refine go_iconst (pc := 281) 1 F dL_ahead_281 (by decide) ?_
        refine go_goto (pc := 282) 286 F dL_ahead_282 (by decide) ?_
        refine go_istore (pc := 286) (lv' := [(12, .int 1), (11, .int 0), (0, .ref (AD G 0)), (1, .ref (AD G 118)), (3, .ref (AD G 120)), (4, .ref (AD G 122)), (5, .int x5), (7, .int x7), (8, .int x8), (9, .int x9), (10, .int x10)]) F dL_ahead_286 (by decide) rfl ?_
        refine go_aloadn (pc := 288) F dL_ahead_288 4 rfl ?_
        refine go_iconst (pc := 289) 2 F dL_ahead_289 (by decide) ?_
        refine go_iload (pc := 290) F dL_ahead_290 10 rfl ?_
        refine go_imul (pc := 292) F dL_ahead_292 ?_
        refine go_jald (pc := 293) 120 24 F dL_ahead_293 (by decide) (fun _ => rfl) h (fun y34 h => ?_)
        refine go_istore (pc := 294) (lv' := [(13, .int y34), (12, .int 1), (11, .int 0), (0, .ref (AD G 0)), (1, .ref (AD G 118)), (3, .ref (AD G 120)), (4, .ref (AD G 122)), (5, .int x5), (7, .int x7), (8, .int x8), (9, .int x9), (10, .int x10)]) F dL_ahead_294 (by decide) rfl ?_
        exact go_sub [3, 4, 5, 6, 7, 8, 9, 10, 11, 2, 1, 0] rfl (lb_L_ahead_296 F (fun V1 a7 a8 a9 a10 h => ih V1 a7 a8 a9 a10 h) FU_ V x7 x8 x9 x10 0 1 y34 h)
set_option maxRecDepth 100000 in
set_option maxHeartbeats 4000000 in
theorem lb_L_ahead_164 {E : En} {G : Gm} (F : Fx E G (AG G) RL cL_ahead 14 (some .boolean) 7 164 0 0) {x5 : Int32} {z : Int32 × Wd} : ∀ (n : Nat) (V : Wd) (x7 : Int32) (x8 : Int32), f_L_ahead_164 x5 n V x7 x8 = some z → Go E G (AG G) 0 0 (MQq E G (some (.int z.1)) z.2) 14 V 164 [(0, .ref (AD G 0)), (1, .ref (AD G 118)), (2, .ref (AD G 119)), (3, .ref (AD G 120)), (4, .ref (AD G 122)), (5, .int x5), (7, .int x7), (8, .int x8)] [] := by
  intro n
  induction n with
  | zero => intro V x7 x8 h; cases h
  | succ n ih =>
    intro V x7 x8 h
    rw [f_L_ahead_164] at h
    refine go_iload (pc := 164) F dL_ahead_164 7 rfl ?_
    refine go_if_lt (pc := 166) 245 F dL_ahead_166 (by decide) h (fun c20 h => ?_) (fun c20 h => ?_)
    · refine go_bipush (pc := 245) (-6) F dL_ahead_245 (by decide) ?_
      refine go_istore (pc := 247) (lv' := [(8, .int (-6)), (0, .ref (AD G 0)), (1, .ref (AD G 118)), (2, .ref (AD G 119)), (3, .ref (AD G 120)), (4, .ref (AD G 122)), (5, .int x5), (7, .int x7)]) F dL_ahead_247 (by decide) rfl ?_
      refine go_bipush (pc := 249) 9 F dL_ahead_249 (by decide) ?_
      refine go_istore (pc := 251) (lv' := [(9, .int 9), (8, .int (-6)), (0, .ref (AD G 0)), (1, .ref (AD G 118)), (2, .ref (AD G 119)), (3, .ref (AD G 120)), (4, .ref (AD G 122)), (5, .int x5), (7, .int x7)]) F dL_ahead_251 (by decide) rfl ?_
      refine go_iconst (pc := 253) 0 F dL_ahead_253 (by decide) ?_
      refine go_istore (pc := 254) (lv' := [(10, .int 0), (9, .int 9), (8, .int (-6)), (0, .ref (AD G 0)), (1, .ref (AD G 118)), (2, .ref (AD G 119)), (3, .ref (AD G 120)), (4, .ref (AD G 122)), (5, .int x5), (7, .int x7)]) F dL_ahead_254 (by decide) rfl ?_
      exact go_sub [3, 4, 6, 7, 8, 9, 2, 1, 0] rfl (lb_L_ahead_256 F FU_ V x7 (-6) 9 0 h)
    · refine go_iload (pc := 169) F dL_ahead_169 6 rfl ?_
      refine go_if_eq (pc := 171) 245 F dL_ahead_171 (by decide) h (fun c19 h => ?_) (fun c19 h => ?_)
      · refine go_bipush (pc := 245) (-6) F dL_ahead_245 (by decide) ?_
        refine go_istore (pc := 247) (lv' := [(8, .int (-6)), (0, .ref (AD G 0)), (1, .ref (AD G 118)), (2, .ref (AD G 119)), (3, .ref (AD G 120)), (4, .ref (AD G 122)), (5, .int x5), (7, .int x7)]) F dL_ahead_247 (by decide) rfl ?_
        refine go_bipush (pc := 249) 9 F dL_ahead_249 (by decide) ?_
        refine go_istore (pc := 251) (lv' := [(9, .int 9), (8, .int (-6)), (0, .ref (AD G 0)), (1, .ref (AD G 118)), (2, .ref (AD G 119)), (3, .ref (AD G 120)), (4, .ref (AD G 122)), (5, .int x5), (7, .int x7)]) F dL_ahead_251 (by decide) rfl ?_
        refine go_iconst (pc := 253) 0 F dL_ahead_253 (by decide) ?_
        refine go_istore (pc := 254) (lv' := [(10, .int 0), (9, .int 9), (8, .int (-6)), (0, .ref (AD G 0)), (1, .ref (AD G 118)), (2, .ref (AD G 119)), (3, .ref (AD G 120)), (4, .ref (AD G 122)), (5, .int x5), (7, .int x7)]) F dL_ahead_254 (by decide) rfl ?_
        exact go_sub [3, 4, 6, 7, 8, 9, 2, 1, 0] rfl (lb_L_ahead_256 F FU_ V x7 (-6) 9 0 h)
      · refine go_iload (pc := 174) F dL_ahead_174 7 rfl ?_
        refine go_iconst (pc := 176) 5 F dL_ahead_176 (by decide) ?_
        refine go_idiv (pc := 177) F dL_ahead_177 (by decide) ?_
        refine go_iload (pc := 178) F dL_ahead_178 7 rfl ?_
        refine go_iconst (pc := 180) 5 F dL_ahead_180 (by decide) ?_
        refine go_irem (pc := 181) F dL_ahead_181 (by decide) ?_
        refine go_icmp_ge (pc := 182) 239 F dL_ahead_182 (by decide) h (fun c18 h => ?_) (fun c18 h => ?_)
        · refine go_iinc (pc := 239) (x8 + (-1)) (lv' := [(8, .int (x8 + (-1))), (0, .ref (AD G 0)), (1, .ref (AD G 118)), (2, .ref (AD G 119)), (3, .ref (AD G 120)), (4, .ref (AD G 122)), (5, .int x5), (7, .int x7)]) F dL_ahead_239 (k := 7) rfl rfl (by decide) rfl ?_
          refine go_goto (pc := 242) 164 F dL_ahead_242 (by decide) ?_
          exact go_sub [1, 2, 3, 4, 5, 6, 7, 0] rfl (ih V x7 (x8 + (-1)) h)
        · refine go_aloadn (pc := 185) F dL_ahead_185 2 rfl ?_
          refine go_iload (pc := 186) F dL_ahead_186 7 rfl ?_
          refine go_iconst (pc := 188) 5 F dL_ahead_188 (by decide) ?_
          refine go_idiv (pc := 189) F dL_ahead_189 (by decide) ?_
          refine go_iload (pc := 190) F dL_ahead_190 7 rfl ?_
          refine go_iconst (pc := 192) 5 F dL_ahead_192 (by decide) ?_
          refine go_irem (pc := 193) F dL_ahead_193 (by decide) ?_
          obtain ⟨V12, hV12, h⟩ := ob_ h
          refine cv_L_83 (pc := 194) F dL_ahead_194 (ct_L_swap (enL E) G V (x8 / 5) (x8 - x8 / 5 * 5) V12 hV12) (by decide) (by decide) (Nat.le_of_ble_eq_true rfl) ?_
          refine go_aloadn (pc := 197) F dL_ahead_197 1 rfl ?_
          refine go_aloadn (pc := 198) F dL_ahead_198 2 rfl ?_
          refine go_aloadn (pc := 199) F dL_ahead_199 3 rfl ?_
          refine go_aload (pc := 200) F dL_ahead_200 4 rfl ?_
          obtain ⟨y13, hy13, h⟩ := ob_ h
          refine cv_L_70 (pc := 202) F dL_ahead_202 (ct_L_same (enL E) G V12 y13 hy13) (by decide) (by decide) (Nat.le_of_ble_eq_true rfl) ?_
          refine go_if_eq (pc := 205) 223 F dL_ahead_205 (by decide) h (fun c17 h => ?_) (fun c17 h => ?_)
          · refine go_iload (pc := 223) F dL_ahead_223 6 rfl ?_
            refine go_istore (pc := 225) (lv' := [(7, .int x7), (0, .ref (AD G 0)), (1, .ref (AD G 118)), (2, .ref (AD G 119)), (3, .ref (AD G 120)), (4, .ref (AD G 122)), (5, .int x5), (8, .int x8)]) F dL_ahead_225 (by decide) rfl ?_
            refine go_aloadn (pc := 227) F dL_ahead_227 3 rfl ?_
            refine go_iload (pc := 228) F dL_ahead_228 7 rfl ?_
            refine go_iconst (pc := 230) 5 F dL_ahead_230 (by decide) ?_
            refine go_idiv (pc := 231) F dL_ahead_231 (by decide) ?_
            refine go_iload (pc := 232) F dL_ahead_232 7 rfl ?_
            refine go_iconst (pc := 234) 5 F dL_ahead_234 (by decide) ?_
            refine go_irem (pc := 235) F dL_ahead_235 (by decide) ?_
            obtain ⟨V14, hV14, h⟩ := ob_ h
            refine cv_L_83 (pc := 236) F dL_ahead_236 (ct_L_swap (enL E) G V12 (x8 / 5) (x8 - x8 / 5 * 5) V14 hV14) (by decide) (by decide) (Nat.le_of_ble_eq_true rfl) ?_
            refine go_iinc (pc := 239) (x8 + (-1)) (lv' := [(8, .int (x8 + (-1))), (7, .int x7), (0, .ref (AD G 0)), (1, .ref (AD G 118)), (2, .ref (AD G 119)), (3, .ref (AD G 120)), (4, .ref (AD G 122)), (5, .int x5)]) F dL_ahead_239 (k := 7) rfl rfl (by decide) rfl ?_
            refine go_goto (pc := 242) 164 F dL_ahead_242 (by decide) ?_
            exact go_sub [2, 3, 4, 5, 6, 7, 1, 0] rfl (ih V14 x7 (x8 + (-1)) h)
          · refine go_bipush (pc := 208) 10 F dL_ahead_208 (by decide) ?_
            refine go_iload (pc := 210) F dL_ahead_210 7 rfl ?_
            refine go_iconst (pc := 212) 5 F dL_ahead_212 (by decide) ?_
            refine go_idiv (pc := 213) F dL_ahead_213 (by decide) ?_
            refine go_imul (pc := 214) F dL_ahead_214 ?_
            refine go_iload (pc := 215) F dL_ahead_215 7 rfl ?_
            refine go_iconst (pc := 217) 5 F dL_ahead_217 (by decide) ?_
            refine go_irem (pc := 218) F dL_ahead_218 (by decide) ?_
            refine go_iadd (pc := 219) F dL_ahead_219 ?_
            refine go_goto (pc := 220) 225 F dL_ahead_220 (by decide) ?_
            refine go_topi h (fun y15 h => ?_)
            refine go_istore (pc := 225) (lv' := [(7, .int y15), (0, .ref (AD G 0)), (1, .ref (AD G 118)), (2, .ref (AD G 119)), (3, .ref (AD G 120)), (4, .ref (AD G 122)), (5, .int x5), (8, .int x8)]) F dL_ahead_225 (by decide) rfl ?_
            refine go_aloadn (pc := 227) F dL_ahead_227 3 rfl ?_
            refine go_iload (pc := 228) F dL_ahead_228 7 rfl ?_
            refine go_iconst (pc := 230) 5 F dL_ahead_230 (by decide) ?_
            refine go_idiv (pc := 231) F dL_ahead_231 (by decide) ?_
            refine go_iload (pc := 232) F dL_ahead_232 7 rfl ?_
            refine go_iconst (pc := 234) 5 F dL_ahead_234 (by decide) ?_
            refine go_irem (pc := 235) F dL_ahead_235 (by decide) ?_
            obtain ⟨V16, hV16, h⟩ := ob_ h
            refine cv_L_83 (pc := 236) F dL_ahead_236 (ct_L_swap (enL E) G V12 (x8 / 5) (x8 - x8 / 5 * 5) V16 hV16) (by decide) (by decide) (Nat.le_of_ble_eq_true rfl) ?_
            refine go_iinc (pc := 239) (x8 + (-1)) (lv' := [(8, .int (x8 + (-1))), (7, .int y15), (0, .ref (AD G 0)), (1, .ref (AD G 118)), (2, .ref (AD G 119)), (3, .ref (AD G 120)), (4, .ref (AD G 122)), (5, .int x5)]) F dL_ahead_239 (k := 7) rfl rfl (by decide) rfl ?_
            refine go_goto (pc := 242) 164 F dL_ahead_242 (by decide) ?_
            exact go_sub [2, 3, 4, 5, 6, 7, 1, 0] rfl (ih V16 y15 (x8 + (-1)) h)
set_option maxRecDepth 100000 in
set_option maxHeartbeats 4000000 in
theorem lb_L_ahead_141 {E : En} {G : Gm} (F : Fx E G (AG G) RL cL_ahead 14 (some .boolean) 7 164 0 0) {x5 : Int32} {z : Int32 × Wd} (V : Wd) (h : f_L_ahead_141 x5 V = some z) : Go E G (AG G) 0 0 (MQq E G (some (.int z.1)) z.2) 14 V 141 [(0, .ref (AD G 0)), (1, .ref (AD G 118)), (2, .ref (AD G 119)), (3, .ref (AD G 120)), (4, .ref (AD G 122)), (5, .int x5)] [] := by
  unfold f_L_ahead_141 at h
  refine go_aloadn (pc := 141) F dL_ahead_141 1 rfl ?_
  refine go_aloadn (pc := 142) F dL_ahead_142 2 rfl ?_
  refine go_aloadn (pc := 143) F dL_ahead_143 3 rfl ?_
  refine go_aload (pc := 144) F dL_ahead_144 4 rfl ?_
  obtain ⟨y3, hy3, h⟩ := ob_ h
  refine cv_L_70 (pc := 146) F dL_ahead_146 (ct_L_same (enL E) G V y3 hy3) (by decide) (by decide) (Nat.le_of_ble_eq_true rfl) ?_
  refine go_if_eq (pc := 149) 156 F dL_ahead_149 (by decide) h (fun c4 h => ?_) (fun c4 h => ?_)
  · refine go_bipush (pc := 156) (-6) F dL_ahead_156 (by decide) ?_
    refine go_istore (pc := 158) (lv' := [(7, .int (-6)), (0, .ref (AD G 0)), (1, .ref (AD G 118)), (2, .ref (AD G 119)), (3, .ref (AD G 120)), (4, .ref (AD G 122)), (5, .int x5)]) F dL_ahead_158 (by decide) rfl ?_
    refine go_bipush (pc := 160) 24 F dL_ahead_160 (by decide) ?_
    refine go_istore (pc := 162) (lv' := [(8, .int 24), (7, .int (-6)), (0, .ref (AD G 0)), (1, .ref (AD G 118)), (2, .ref (AD G 119)), (3, .ref (AD G 120)), (4, .ref (AD G 122)), (5, .int x5)]) F dL_ahead_162 (by decide) rfl ?_
    exact go_sub [2, 3, 4, 5, 6, 7, 1, 0] rfl (lb_L_ahead_164 F FU_ V (-6) 24 h)
  · refine go_iconst (pc := 152) 0 F dL_ahead_152 (by decide) ?_
    refine go_goto (pc := 153) 158 F dL_ahead_153 (by decide) ?_
    refine go_istore (pc := 158) (lv' := [(7, .int 0), (0, .ref (AD G 0)), (1, .ref (AD G 118)), (2, .ref (AD G 119)), (3, .ref (AD G 120)), (4, .ref (AD G 122)), (5, .int x5)]) F dL_ahead_158 (by decide) rfl ?_
    refine go_bipush (pc := 160) 24 F dL_ahead_160 (by decide) ?_
    refine go_istore (pc := 162) (lv' := [(8, .int 24), (7, .int 0), (0, .ref (AD G 0)), (1, .ref (AD G 118)), (2, .ref (AD G 119)), (3, .ref (AD G 120)), (4, .ref (AD G 122)), (5, .int x5)]) F dL_ahead_162 (by decide) rfl ?_
    exact go_sub [2, 3, 4, 5, 6, 7, 1, 0] rfl (lb_L_ahead_164 F FU_ V 0 24 h)
set_option maxRecDepth 100000 in
set_option maxHeartbeats 4000000 in
theorem lb_L_ahead_9 {E : En} {G : Gm} (F : Fx E G (AG G) RL cL_ahead 14 (some .boolean) 7 164 0 0) {x5 : Int32} {z : Int32 × Wd} : ∀ (n : Nat) (V : Wd) (x6 : Int32) (x7 : Int32), f_L_ahead_9 x5 n V x6 x7 = some z → Go E G (AG G) 0 0 (MQq E G (some (.int z.1)) z.2) 14 V 9 [(0, .ref (AD G 0)), (1, .ref (AD G 118)), (2, .ref (AD G 119)), (3, .ref (AD G 120)), (4, .ref (AD G 122)), (5, .int x5), (6, .int x6), (7, .int x7)] [] := by
  intro n
  induction n with
  | zero => intro V x6 x7 h; cases h
  | succ n ih =>
    intro V x6 x7 h
    rw [f_L_ahead_9] at h
    refine go_iload (pc := 9) F dL_ahead_9 7 rfl ?_
    refine go_iconst (pc := 11) 2 F dL_ahead_11 (by decide) ?_
    refine go_icmp_ge (pc := 12) 141 F dL_ahead_12 (by decide) h (fun c2 h => ?_) (fun c2 h => ?_)
    · exact go_sub [0, 1, 2, 3, 4, 5] rfl (lb_L_ahead_141 F V h)
    · refine go_bipush (pc := 15) (-6) F dL_ahead_15 (by decide) ?_
      refine go_istore (pc := 17) (lv' := [(8, .int (-6)), (0, .ref (AD G 0)), (1, .ref (AD G 118)), (2, .ref (AD G 119)), (3, .ref (AD G 120)), (4, .ref (AD G 122)), (5, .int x5), (6, .int x6), (7, .int x7)]) F dL_ahead_17 (by decide) rfl ?_
      refine go_bipush (pc := 19) 9 F dL_ahead_19 (by decide) ?_
      refine go_istore (pc := 21) (lv' := [(9, .int 9), (8, .int (-6)), (0, .ref (AD G 0)), (1, .ref (AD G 118)), (2, .ref (AD G 119)), (3, .ref (AD G 120)), (4, .ref (AD G 122)), (5, .int x5), (6, .int x6), (7, .int x7)]) F dL_ahead_21 (by decide) rfl ?_
      exact go_sub [2, 3, 4, 5, 6, 7, 8, 9, 1, 0] rfl (lb_L_ahead_23 F (fun V1 a6 a7 h => ih V1 a6 a7 h) FU_ V x6 x7 (-6) 9 h)
set_option maxRecDepth 100000 in
set_option maxHeartbeats 4000000 in
theorem ct_L_ahead (l : Launch) (G : Gm) (V : Wd) (x5 : Int32) (z : Int32 × Wd) (h : f_L_ahead V x5 = some z) : Ct l G yL_ahead cL_ahead 14 (some .boolean) 7 164 [.ref (AD G 0), .ref (AD G 118), .ref (AD G 119), .ref (AD G 120), .ref (AD G 122), .int x5] V (some (.int z.1)) z.2 := by
  refine Ct.of (own := RL) (by decide +kernel) rfl (Nat.le_of_ble_eq_true rfl) (fun E F he => ?_)
  clear he
  refine go_sub (lv' := [(0, .ref (AD G 0)), (1, .ref (AD G 118)), (2, .ref (AD G 119)), (3, .ref (AD G 120)), (4, .ref (AD G 122)), (5, .int x5)]) [0, 1, 2, 3, 4, 5] rfl ?_
  unfold f_L_ahead at h
  refine go_aload (pc := 0) F dL_ahead_0 4 rfl ?_
  refine go_iconst (pc := 2) 1 F dL_ahead_2 (by decide) ?_
  refine go_jald (pc := 3) 122 7 F dL_ahead_3 (by decide) (fun _ => rfl) h (fun y1 h => ?_)
  refine go_istore (pc := 4) (lv' := [(6, .int y1), (0, .ref (AD G 0)), (1, .ref (AD G 118)), (2, .ref (AD G 119)), (3, .ref (AD G 120)), (4, .ref (AD G 122)), (5, .int x5)]) F dL_ahead_4 (by decide) rfl ?_
  refine go_iconst (pc := 6) 0 F dL_ahead_6 (by decide) ?_
  refine go_istore (pc := 7) (lv' := [(7, .int 0), (6, .int y1), (0, .ref (AD G 0)), (1, .ref (AD G 118)), (2, .ref (AD G 119)), (3, .ref (AD G 120)), (4, .ref (AD G 122)), (5, .int x5)]) F dL_ahead_7 (by decide) rfl ?_
  exact go_sub [2, 3, 4, 5, 6, 7, 1, 0] rfl (lb_L_ahead_9 F FU_ V y1 0 h)

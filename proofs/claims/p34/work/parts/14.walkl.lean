set_option maxRecDepth 100000 in
set_option maxHeartbeats 4000000 in
theorem lb_L_mast_75 {E : En} {G : Gm} (F : Fx E G (AG G) RL cL_mast 11 (some .boolean) 7 165 0 0) {K6 : Wd → Int32 → Int32 → Option (Int32 × Wd)} {z : Int32 × Wd} (hK6 : ∀ (V1 : Wd) (a6 : Int32) (a7 : Int32), K6 V1 a6 a7 = some z → Go E G (AG G) 0 0 (MQq E G (some (.int z.1)) z.2) 11 V1 6 [(0, .ref (AD G 0)), (1, .ref (AD G 118)), (2, .ref (AD G 119)), (3, .ref (AD G 120)), (4, .ref (AD G 121)), (5, .ref (AD G 122)), (6, .int a6), (7, .int a7)] []) (V : Wd) (x6 : Int32) (x7 : Int32) (x8 : Int32) (h : f_L_mast_75 K6 V x6 x7 x8 = some z) : Go E G (AG G) 0 0 (MQq E G (some (.int z.1)) z.2) 11 V 75 [(0, .ref (AD G 0)), (1, .ref (AD G 118)), (2, .ref (AD G 119)), (3, .ref (AD G 120)), (4, .ref (AD G 121)), (5, .ref (AD G 122)), (6, .int x6), (7, .int x7), (8, .int x8)] [] := by
  unfold f_L_mast_75 at h
  refine go_aloadn (pc := 75) F dL_mast_75 0 rfl ?_
  refine go_iload (pc := 76) F dL_mast_76 7 rfl ?_
  refine go_iconst (pc := 78) 0 F dL_mast_78 (by decide) ?_
  obtain ⟨y25, hy25, h⟩ := ob_ h
  refine cv_L_41 (pc := 79) F dL_mast_79 rfl (ct_X8_flag (enL E) G V x7 0 y25 hy25) (by decide) (by decide) (Nat.le_of_ble_eq_true rfl) ?_
  refine go_aloadn (pc := 82) F dL_mast_82 1 rfl ?_
  refine go_iconst (pc := 83) 3 F dL_mast_83 (by decide) ?_
  refine go_iload (pc := 84) F dL_mast_84 7 rfl ?_
  refine go_imul (pc := 86) F dL_mast_86 ?_
  refine go_jald (pc := 87) 118 30 F dL_mast_87 (by decide) (fun _ => rfl) h (fun y26 h => ?_)
  refine go_icmp_ne (pc := 88) 160 F dL_mast_88 (by decide) h (fun c39 h => ?_) (fun c39 h => ?_)
  · refine go_iconst (pc := 160) 0 F dL_mast_160 (by decide) ?_
    exact go_zretW (pc := 161) F dL_mast_161 rfl h
  · refine go_aloadn (pc := 91) F dL_mast_91 0 rfl ?_
    refine go_iload (pc := 92) F dL_mast_92 7 rfl ?_
    refine go_iconst (pc := 94) 1 F dL_mast_94 (by decide) ?_
    obtain ⟨y27, hy27, h⟩ := ob_ h
    refine cv_L_41 (pc := 95) F dL_mast_95 rfl (ct_X8_flag (enL E) G V x7 1 y27 hy27) (by decide) (by decide) (Nat.le_of_ble_eq_true rfl) ?_
    refine go_aloadn (pc := 98) F dL_mast_98 1 rfl ?_
    refine go_iconst (pc := 99) 3 F dL_mast_99 (by decide) ?_
    refine go_iload (pc := 100) F dL_mast_100 7 rfl ?_
    refine go_imul (pc := 102) F dL_mast_102 ?_
    refine go_iconst (pc := 103) 1 F dL_mast_103 (by decide) ?_
    refine go_iadd (pc := 104) F dL_mast_104 ?_
    refine go_jald (pc := 105) 118 30 F dL_mast_105 (by decide) (fun _ => rfl) h (fun y28 h => ?_)
    refine go_icmp_ne (pc := 106) 160 F dL_mast_106 (by decide) h (fun c38 h => ?_) (fun c38 h => ?_)
    · refine go_iconst (pc := 160) 0 F dL_mast_160 (by decide) ?_
      exact go_zretW (pc := 161) F dL_mast_161 rfl h
    · refine go_aloadn (pc := 109) F dL_mast_109 0 rfl ?_
      refine go_iload (pc := 110) F dL_mast_110 7 rfl ?_
      refine go_iconst (pc := 112) 2 F dL_mast_112 (by decide) ?_
      obtain ⟨y29, hy29, h⟩ := ob_ h
      refine cv_L_41 (pc := 113) F dL_mast_113 rfl (ct_X8_flag (enL E) G V x7 2 y29 hy29) (by decide) (by decide) (Nat.le_of_ble_eq_true rfl) ?_
      refine go_aloadn (pc := 116) F dL_mast_116 1 rfl ?_
      refine go_iconst (pc := 117) 3 F dL_mast_117 (by decide) ?_
      refine go_iload (pc := 118) F dL_mast_118 7 rfl ?_
      refine go_imul (pc := 120) F dL_mast_120 ?_
      refine go_iconst (pc := 121) 2 F dL_mast_121 (by decide) ?_
      refine go_iadd (pc := 122) F dL_mast_122 ?_
      refine go_jald (pc := 123) 118 30 F dL_mast_123 (by decide) (fun _ => rfl) h (fun y30 h => ?_)
      refine go_icmp_ne (pc := 124) 160 F dL_mast_124 (by decide) h (fun c37 h => ?_) (fun c37 h => ?_)
      · refine go_iconst (pc := 160) 0 F dL_mast_160 (by decide) ?_
        exact go_zretW (pc := 161) F dL_mast_161 rfl h
      · refine go_aloadn (pc := 127) F dL_mast_127 0 rfl ?_
        refine go_iload (pc := 128) F dL_mast_128 7 rfl ?_
        refine go_iconst (pc := 130) 3 F dL_mast_130 (by decide) ?_
        obtain ⟨y31, hy31, h⟩ := ob_ h
        refine cv_L_41 (pc := 131) F dL_mast_131 rfl (ct_X8_flag (enL E) G V x7 3 y31 hy31) (by decide) (by decide) (Nat.le_of_ble_eq_true rfl) ?_
        refine go_aload (pc := 134) F dL_mast_134 5 rfl ?_
        refine go_iconst (pc := 136) 0 F dL_mast_136 (by decide) ?_
        refine go_jald (pc := 137) 122 7 F dL_mast_137 (by decide) (fun _ => rfl) h (fun y32 h => ?_)
        refine go_aloadn (pc := 138) F dL_mast_138 2 rfl ?_
        refine go_iload (pc := 139) F dL_mast_139 7 rfl ?_
        obtain ⟨y33, hy33, h⟩ := ob_ h
        refine cv_L_45 (pc := 141) F dL_mast_141 (ct_L_used (enL E) G V x7 y33 hy33) (by decide) (by decide) (Nat.le_of_ble_eq_true rfl) ?_
        refine go_isub (pc := 144) F dL_mast_144 ?_
        refine go_icmp_ne (pc := 145) 160 F dL_mast_145 (by decide) h (fun c36 h => ?_) (fun c36 h => ?_)
        · refine go_iconst (pc := 160) 0 F dL_mast_160 (by decide) ?_
          exact go_zretW (pc := 161) F dL_mast_161 rfl h
        · refine go_aloadn (pc := 148) F dL_mast_148 0 rfl ?_
          refine go_iload (pc := 149) F dL_mast_149 7 rfl ?_
          refine go_iconst (pc := 151) 4 F dL_mast_151 (by decide) ?_
          obtain ⟨y34, hy34, h⟩ := ob_ h
          refine cv_L_41 (pc := 152) F dL_mast_152 rfl (ct_X8_flag (enL E) G V x7 4 y34 hy34) (by decide) (by decide) (Nat.le_of_ble_eq_true rfl) ?_
          refine go_iload (pc := 155) F dL_mast_155 8 rfl ?_
          refine go_icmp_eq (pc := 157) 162 F dL_mast_157 (by decide) h (fun c35 h => ?_) (fun c35 h => ?_)
          · refine go_iinc (pc := 162) (x7 + 1) (lv' := [(7, .int (x7 + 1)), (0, .ref (AD G 0)), (1, .ref (AD G 118)), (2, .ref (AD G 119)), (3, .ref (AD G 120)), (4, .ref (AD G 121)), (5, .ref (AD G 122)), (6, .int x6), (8, .int x8)]) F dL_mast_162 (k := 7) rfl rfl (by decide) rfl ?_
            refine go_goto (pc := 165) 6 F dL_mast_165 (by decide) ?_
            exact go_sub [1, 2, 3, 4, 5, 6, 7, 0] rfl (hK6 V x6 (x7 + 1) h)
          · refine go_iconst (pc := 160) 0 F dL_mast_160 (by decide) ?_
            exact go_zretW (pc := 161) F dL_mast_161 rfl h
set_option maxRecDepth 100000 in
set_option maxHeartbeats 4000000 in
theorem lb_L_mast_21 {E : En} {G : Gm} (F : Fx E G (AG G) RL cL_mast 11 (some .boolean) 7 165 0 0) {K6 : Wd → Int32 → Int32 → Option (Int32 × Wd)} {z : Int32 × Wd} (hK6 : ∀ (V1 : Wd) (a6 : Int32) (a7 : Int32), K6 V1 a6 a7 = some z → Go E G (AG G) 0 0 (MQq E G (some (.int z.1)) z.2) 11 V1 6 [(0, .ref (AD G 0)), (1, .ref (AD G 118)), (2, .ref (AD G 119)), (3, .ref (AD G 120)), (4, .ref (AD G 121)), (5, .ref (AD G 122)), (6, .int a6), (7, .int a7)] []) : ∀ (n : Nat) (V : Wd) (x6 : Int32) (x7 : Int32) (x8 : Int32) (x9 : Int32), f_L_mast_21 K6 n V x6 x7 x8 x9 = some z → Go E G (AG G) 0 0 (MQq E G (some (.int z.1)) z.2) 11 V 21 [(0, .ref (AD G 0)), (1, .ref (AD G 118)), (2, .ref (AD G 119)), (3, .ref (AD G 120)), (4, .ref (AD G 121)), (5, .ref (AD G 122)), (6, .int x6), (7, .int x7), (8, .int x8), (9, .int x9)] [] := by
  intro n
  induction n with
  | zero => intro V x6 x7 x8 x9 h; cases h
  | succ n ih =>
    intro V x6 x7 x8 x9 h
    rw [f_L_mast_21] at h
    refine go_iload (pc := 21) F dL_mast_21 9 rfl ?_
    refine go_if_lt (pc := 23) 75 F dL_mast_23 (by decide) h (fun c12 h => ?_) (fun c12 h => ?_)
    · exact go_sub [0, 1, 2, 3, 4, 5, 6, 7, 8] rfl (lb_L_mast_75 F hK6 V x6 x7 x8 h)
    · refine go_aloadn (pc := 26) F dL_mast_26 1 rfl ?_
      refine go_iconst (pc := 27) 3 F dL_mast_27 (by decide) ?_
      refine go_iload (pc := 28) F dL_mast_28 9 rfl ?_
      refine go_imul (pc := 30) F dL_mast_30 ?_
      refine go_jald (pc := 31) 118 30 F dL_mast_31 (by decide) (fun _ => rfl) h (fun y6 h => ?_)
      refine go_aloadn (pc := 32) F dL_mast_32 1 rfl ?_
      refine go_iconst (pc := 33) 3 F dL_mast_33 (by decide) ?_
      refine go_iload (pc := 34) F dL_mast_34 7 rfl ?_
      refine go_imul (pc := 36) F dL_mast_36 ?_
      refine go_iconst (pc := 37) 1 F dL_mast_37 (by decide) ?_
      refine go_iadd (pc := 38) F dL_mast_38 ?_
      refine go_jald (pc := 39) 118 30 F dL_mast_39 (by decide) (fun _ => rfl) h (fun y7 h => ?_)
      refine go_icmp_ne (pc := 40) 65 F dL_mast_40 (by decide) h (fun c11 h => ?_) (fun c11 h => ?_)
      · refine go_iload (pc := 65) F dL_mast_65 8 rfl ?_
        refine go_istore (pc := 67) (lv' := [(8, .int x8), (0, .ref (AD G 0)), (1, .ref (AD G 118)), (2, .ref (AD G 119)), (3, .ref (AD G 120)), (4, .ref (AD G 121)), (5, .ref (AD G 122)), (6, .int x6), (7, .int x7), (9, .int x9)]) F dL_mast_67 (by decide) rfl ?_
        refine go_iinc (pc := 69) (x9 + (-1)) (lv' := [(9, .int (x9 + (-1))), (8, .int x8), (0, .ref (AD G 0)), (1, .ref (AD G 118)), (2, .ref (AD G 119)), (3, .ref (AD G 120)), (4, .ref (AD G 121)), (5, .ref (AD G 122)), (6, .int x6), (7, .int x7)]) F dL_mast_69 (k := 9) rfl rfl (by decide) rfl ?_
        refine go_goto (pc := 72) 21 F dL_mast_72 (by decide) ?_
        exact go_sub [2, 3, 4, 5, 6, 7, 8, 9, 1, 0] rfl (ih V x6 x7 x8 (x9 + (-1)) h)
      · refine go_aloadn (pc := 43) F dL_mast_43 1 rfl ?_
        refine go_iconst (pc := 44) 3 F dL_mast_44 (by decide) ?_
        refine go_iload (pc := 45) F dL_mast_45 9 rfl ?_
        refine go_imul (pc := 47) F dL_mast_47 ?_
        refine go_iconst (pc := 48) 1 F dL_mast_48 (by decide) ?_
        refine go_iadd (pc := 49) F dL_mast_49 ?_
        refine go_jald (pc := 50) 118 30 F dL_mast_50 (by decide) (fun _ => rfl) h (fun y8 h => ?_)
        refine go_aloadn (pc := 51) F dL_mast_51 1 rfl ?_
        refine go_iconst (pc := 52) 3 F dL_mast_52 (by decide) ?_
        refine go_iload (pc := 53) F dL_mast_53 7 rfl ?_
        refine go_imul (pc := 55) F dL_mast_55 ?_
        refine go_jald (pc := 56) 118 30 F dL_mast_56 (by decide) (fun _ => rfl) h (fun y9 h => ?_)
        refine go_icmp_ne (pc := 57) 65 F dL_mast_57 (by decide) h (fun c10 h => ?_) (fun c10 h => ?_)
        · refine go_iload (pc := 65) F dL_mast_65 8 rfl ?_
          refine go_istore (pc := 67) (lv' := [(8, .int x8), (0, .ref (AD G 0)), (1, .ref (AD G 118)), (2, .ref (AD G 119)), (3, .ref (AD G 120)), (4, .ref (AD G 121)), (5, .ref (AD G 122)), (6, .int x6), (7, .int x7), (9, .int x9)]) F dL_mast_67 (by decide) rfl ?_
          refine go_iinc (pc := 69) (x9 + (-1)) (lv' := [(9, .int (x9 + (-1))), (8, .int x8), (0, .ref (AD G 0)), (1, .ref (AD G 118)), (2, .ref (AD G 119)), (3, .ref (AD G 120)), (4, .ref (AD G 121)), (5, .ref (AD G 122)), (6, .int x6), (7, .int x7)]) F dL_mast_69 (k := 9) rfl rfl (by decide) rfl ?_
          refine go_goto (pc := 72) 21 F dL_mast_72 (by decide) ?_
          exact go_sub [2, 3, 4, 5, 6, 7, 8, 9, 1, 0] rfl (ih V x6 x7 x8 (x9 + (-1)) h)
        · refine go_iload (pc := 60) F dL_mast_60 9 rfl ?_
          refine go_goto (pc := 62) 67 F dL_mast_62 (by decide) ?_
          refine go_istore (pc := 67) (lv' := [(8, .int x9), (0, .ref (AD G 0)), (1, .ref (AD G 118)), (2, .ref (AD G 119)), (3, .ref (AD G 120)), (4, .ref (AD G 121)), (5, .ref (AD G 122)), (6, .int x6), (7, .int x7), (9, .int x9)]) F dL_mast_67 (by decide) rfl ?_
          refine go_iinc (pc := 69) (x9 + (-1)) (lv' := [(9, .int (x9 + (-1))), (8, .int x9), (0, .ref (AD G 0)), (1, .ref (AD G 118)), (2, .ref (AD G 119)), (3, .ref (AD G 120)), (4, .ref (AD G 121)), (5, .ref (AD G 122)), (6, .int x6), (7, .int x7)]) F dL_mast_69 (k := 9) rfl rfl (by decide) rfl ?_
          refine go_goto (pc := 72) 21 F dL_mast_72 (by decide) ?_
          exact go_sub [2, 3, 4, 5, 6, 7, 8, 9, 1, 0] rfl (ih V x6 x7 x9 (x9 + (-1)) h)
set_option maxRecDepth 100000 in
set_option maxHeartbeats 4000000 in
theorem lb_L_mast_282 {E : En} {G : Gm} (F : Fx E G (AG G) RL cL_mast 11 (some .boolean) 7 165 0 0) {K171 : Wd → Int32 → Int32 → Option (Int32 × Wd)} {K195 : Wd → Int32 → Int32 → Int32 → Int32 → Option (Int32 × Wd)} {z : Int32 × Wd} (hK171 : ∀ (V1 : Wd) (a6 : Int32) (a7 : Int32), K171 V1 a6 a7 = some z → Go E G (AG G) 0 0 (MQq E G (some (.int z.1)) z.2) 11 V1 171 [(0, .ref (AD G 0)), (1, .ref (AD G 118)), (2, .ref (AD G 119)), (3, .ref (AD G 120)), (4, .ref (AD G 121)), (5, .ref (AD G 122)), (6, .int a6), (7, .int a7)] []) (hK195 : ∀ (V1 : Wd) (a6 : Int32) (a7 : Int32) (a8 : Int32) (a9 : Int32), K195 V1 a6 a7 a8 a9 = some z → Go E G (AG G) 0 0 (MQq E G (some (.int z.1)) z.2) 11 V1 195 [(0, .ref (AD G 0)), (1, .ref (AD G 118)), (2, .ref (AD G 119)), (3, .ref (AD G 120)), (4, .ref (AD G 121)), (5, .ref (AD G 122)), (6, .int a6), (7, .int a7), (8, .int a8), (9, .int a9)] []) (V : Wd) (x6 : Int32) (x7 : Int32) (x8 : Int32) (x9 : Int32) (x10 : Int32) (s0 : Int32) (s1 : Int32) (h : f_L_mast_282 K171 K195 V x6 x7 x8 x9 x10 s0 s1 = some z) : Go E G (AG G) 0 0 (MQq E G (some (.int z.1)) z.2) 11 V 282 [(0, .ref (AD G 0)), (1, .ref (AD G 118)), (2, .ref (AD G 119)), (3, .ref (AD G 120)), (4, .ref (AD G 121)), (5, .ref (AD G 122)), (6, .int x6), (7, .int x7), (8, .int x8), (9, .int x9), (10, .int x10)] [.int s0, .int s1] := by
  unfold f_L_mast_282 at h
  refine go_icmp_ne (pc := 282) 331 F dL_mast_282 (by decide) h (fun c63 h => ?_) (fun c63 h => ?_)
  · refine go_iconst (pc := 331) 0 F dL_mast_331 (by decide) ?_
    exact go_zretW (pc := 332) F dL_mast_332 rfl h
  · refine go_aloadn (pc := 285) F dL_mast_285 0 rfl ?_
    refine go_iconst (pc := 286) 0 F dL_mast_286 (by decide) ?_
    refine go_iload (pc := 287) F dL_mast_287 7 rfl ?_
    refine go_iload (pc := 289) F dL_mast_289 9 rfl ?_
    refine go_iconst (pc := 291) 1 F dL_mast_291 (by decide) ?_
    refine go_iadd (pc := 292) F dL_mast_292 ?_
    obtain ⟨y57, hy57, h⟩ := ob_ h
    refine cv_L_52 (pc := 293) F dL_mast_293 rfl (ct_X8_seen (enL E) G V 0 x7 (x9 + 1) y57 hy57) (by decide) (by decide) (Nat.le_of_ble_eq_true rfl) ?_
    refine go_aloadn (pc := 296) F dL_mast_296 1 rfl ?_
    refine go_aload (pc := 297) F dL_mast_297 5 rfl ?_
    refine go_iconst (pc := 299) 0 F dL_mast_299 (by decide) ?_
    refine go_iload (pc := 300) F dL_mast_300 10 rfl ?_
    obtain ⟨y58, hy58, h⟩ := ob_ h
    refine cv_L_22 (pc := 302) F dL_mast_302 (ct_L_taken (enL E) G V 0 x10 y58 hy58) (by decide) (by decide) (Nat.le_of_ble_eq_true rfl) ?_
    refine go_icmp_ne (pc := 305) 331 F dL_mast_305 (by decide) h (fun c62 h => ?_) (fun c62 h => ?_)
    · refine go_iconst (pc := 331) 0 F dL_mast_331 (by decide) ?_
      exact go_zretW (pc := 332) F dL_mast_332 rfl h
    · refine go_aloadn (pc := 308) F dL_mast_308 0 rfl ?_
      refine go_iconst (pc := 309) 1 F dL_mast_309 (by decide) ?_
      refine go_iload (pc := 310) F dL_mast_310 7 rfl ?_
      refine go_iload (pc := 312) F dL_mast_312 9 rfl ?_
      refine go_iconst (pc := 314) 1 F dL_mast_314 (by decide) ?_
      refine go_iadd (pc := 315) F dL_mast_315 ?_
      obtain ⟨y59, hy59, h⟩ := ob_ h
      refine cv_L_52 (pc := 316) F dL_mast_316 rfl (ct_X8_seen (enL E) G V 1 x7 (x9 + 1) y59 hy59) (by decide) (by decide) (Nat.le_of_ble_eq_true rfl) ?_
      refine go_aloadn (pc := 319) F dL_mast_319 1 rfl ?_
      refine go_aload (pc := 320) F dL_mast_320 5 rfl ?_
      refine go_iconst (pc := 322) 1 F dL_mast_322 (by decide) ?_
      refine go_iload (pc := 323) F dL_mast_323 10 rfl ?_
      obtain ⟨y60, hy60, h⟩ := ob_ h
      refine cv_L_22 (pc := 325) F dL_mast_325 (ct_L_taken (enL E) G V 1 x10 y60 hy60) (by decide) (by decide) (Nat.le_of_ble_eq_true rfl) ?_
      refine go_icmp_eq (pc := 328) 333 F dL_mast_328 (by decide) h (fun c61 h => ?_) (fun c61 h => ?_)
      · refine go_iinc (pc := 333) (x9 + 1) (lv' := [(9, .int (x9 + 1)), (0, .ref (AD G 0)), (1, .ref (AD G 118)), (2, .ref (AD G 119)), (3, .ref (AD G 120)), (4, .ref (AD G 121)), (5, .ref (AD G 122)), (6, .int x6), (7, .int x7), (8, .int x8), (10, .int x10)]) F dL_mast_333 (k := 9) rfl rfl (by decide) rfl ?_
        refine go_goto (pc := 336) 195 F dL_mast_336 (by decide) ?_
        exact go_sub [1, 2, 3, 4, 5, 6, 7, 8, 9, 0] rfl (hK195 V x6 x7 x8 (x9 + 1) h)
      · refine go_iconst (pc := 331) 0 F dL_mast_331 (by decide) ?_
        exact go_zretW (pc := 332) F dL_mast_332 rfl h
set_option maxRecDepth 100000 in
set_option maxHeartbeats 4000000 in
theorem lb_L_mast_339 {E : En} {G : Gm} (F : Fx E G (AG G) RL cL_mast 11 (some .boolean) 7 165 0 0) {K171 : Wd → Int32 → Int32 → Option (Int32 × Wd)} {z : Int32 × Wd} (hK171 : ∀ (V1 : Wd) (a6 : Int32) (a7 : Int32), K171 V1 a6 a7 = some z → Go E G (AG G) 0 0 (MQq E G (some (.int z.1)) z.2) 11 V1 171 [(0, .ref (AD G 0)), (1, .ref (AD G 118)), (2, .ref (AD G 119)), (3, .ref (AD G 120)), (4, .ref (AD G 121)), (5, .ref (AD G 122)), (6, .int a6), (7, .int a7)] []) (V : Wd) (x6 : Int32) (x7 : Int32) (x8 : Int32) (h : f_L_mast_339 K171 V x6 x7 x8 = some z) : Go E G (AG G) 0 0 (MQq E G (some (.int z.1)) z.2) 11 V 339 [(0, .ref (AD G 0)), (1, .ref (AD G 118)), (2, .ref (AD G 119)), (3, .ref (AD G 120)), (4, .ref (AD G 121)), (5, .ref (AD G 122)), (6, .int x6), (7, .int x7), (8, .int x8)] [] := by
  unfold f_L_mast_339 at h
  refine go_aloadn (pc := 339) F dL_mast_339 0 rfl ?_
  refine go_iload (pc := 340) F dL_mast_340 7 rfl ?_
  refine go_iload (pc := 342) F dL_mast_342 8 rfl ?_
  refine go_iconst (pc := 344) 1 F dL_mast_344 (by decide) ?_
  refine go_iadd (pc := 345) F dL_mast_345 ?_
  refine go_iconst (pc := 346) 0 F dL_mast_346 (by decide) ?_
  obtain ⟨y53, hy53, h⟩ := ob_ h
  refine cv_L_48 (pc := 347) F dL_mast_347 rfl (ct_X8_sign (enL E) G V x7 (x8 + 1) 0 y53 hy53) (by decide) (by decide) (Nat.le_of_ble_eq_true rfl) ?_
  refine go_iconst (pc := 350) (-1) F dL_mast_350 (by decide) ?_
  refine go_icmp_ne (pc := 351) 369 F dL_mast_351 (by decide) h (fun c56 h => ?_) (fun c56 h => ?_)
  · refine go_iconst (pc := 369) 0 F dL_mast_369 (by decide) ?_
    exact go_zretW (pc := 370) F dL_mast_370 rfl h
  · refine go_aloadn (pc := 354) F dL_mast_354 0 rfl ?_
    refine go_iconst (pc := 355) 1 F dL_mast_355 (by decide) ?_
    refine go_iload (pc := 356) F dL_mast_356 7 rfl ?_
    refine go_iload (pc := 358) F dL_mast_358 8 rfl ?_
    refine go_iconst (pc := 360) 1 F dL_mast_360 (by decide) ?_
    refine go_iadd (pc := 361) F dL_mast_361 ?_
    obtain ⟨y54, hy54, h⟩ := ob_ h
    refine cv_L_52 (pc := 362) F dL_mast_362 rfl (ct_X8_seen (enL E) G V 1 x7 (x8 + 1) y54 hy54) (by decide) (by decide) (Nat.le_of_ble_eq_true rfl) ?_
    refine go_iconst (pc := 365) (-1) F dL_mast_365 (by decide) ?_
    refine go_icmp_eq (pc := 366) 371 F dL_mast_366 (by decide) h (fun c55 h => ?_) (fun c55 h => ?_)
    · refine go_iinc (pc := 371) (x7 + 1) (lv' := [(7, .int (x7 + 1)), (0, .ref (AD G 0)), (1, .ref (AD G 118)), (2, .ref (AD G 119)), (3, .ref (AD G 120)), (4, .ref (AD G 121)), (5, .ref (AD G 122)), (6, .int x6), (8, .int x8)]) F dL_mast_371 (k := 7) rfl rfl (by decide) rfl ?_
      refine go_goto (pc := 374) 171 F dL_mast_374 (by decide) ?_
      exact go_sub [1, 2, 3, 4, 5, 6, 7, 0] rfl (hK171 V x6 (x7 + 1) h)
    · refine go_iconst (pc := 369) 0 F dL_mast_369 (by decide) ?_
      exact go_zretW (pc := 370) F dL_mast_370 rfl h
set_option maxRecDepth 100000 in
set_option maxHeartbeats 4000000 in
theorem lb_L_mast_195 {E : En} {G : Gm} (F : Fx E G (AG G) RL cL_mast 11 (some .boolean) 7 165 0 0) {K171 : Wd → Int32 → Int32 → Option (Int32 × Wd)} {z : Int32 × Wd} (hK171 : ∀ (V1 : Wd) (a6 : Int32) (a7 : Int32), K171 V1 a6 a7 = some z → Go E G (AG G) 0 0 (MQq E G (some (.int z.1)) z.2) 11 V1 171 [(0, .ref (AD G 0)), (1, .ref (AD G 118)), (2, .ref (AD G 119)), (3, .ref (AD G 120)), (4, .ref (AD G 121)), (5, .ref (AD G 122)), (6, .int a6), (7, .int a7)] []) : ∀ (n : Nat) (V : Wd) (x6 : Int32) (x7 : Int32) (x8 : Int32) (x9 : Int32), f_L_mast_195 K171 n V x6 x7 x8 x9 = some z → Go E G (AG G) 0 0 (MQq E G (some (.int z.1)) z.2) 11 V 195 [(0, .ref (AD G 0)), (1, .ref (AD G 118)), (2, .ref (AD G 119)), (3, .ref (AD G 120)), (4, .ref (AD G 121)), (5, .ref (AD G 122)), (6, .int x6), (7, .int x7), (8, .int x8), (9, .int x9)] [] := by
  intro n
  induction n with
  | zero => intro V x6 x7 x8 x9 h; cases h
  | succ n ih =>
    intro V x6 x7 x8 x9 h
    rw [f_L_mast_195] at h
    refine go_iload (pc := 195) F dL_mast_195 9 rfl ?_
    refine go_iload (pc := 197) F dL_mast_197 8 rfl ?_
    refine go_icmp_ge (pc := 199) 339 F dL_mast_199 (by decide) h (fun c24 h => ?_) (fun c24 h => ?_)
    · exact go_sub [0, 1, 2, 3, 4, 5, 6, 7, 8] rfl (lb_L_mast_339 F hK171 V x6 x7 x8 h)
    · refine go_aloadn (pc := 202) F dL_mast_202 2 rfl ?_
      refine go_iload (pc := 203) F dL_mast_203 7 rfl ?_
      refine go_iload (pc := 205) F dL_mast_205 9 rfl ?_
      obtain ⟨y14, hy14, h⟩ := ob_ h
      refine cv_L_18 (pc := 207) F dL_mast_207 (ct_L_stands (enL E) G V x7 x9 y14 hy14) (by decide) (by decide) (Nat.le_of_ble_eq_true rfl) ?_
      refine go_istore (pc := 210) (lv' := [(10, .int y14), (0, .ref (AD G 0)), (1, .ref (AD G 118)), (2, .ref (AD G 119)), (3, .ref (AD G 120)), (4, .ref (AD G 121)), (5, .ref (AD G 122)), (6, .int x6), (7, .int x7), (8, .int x8), (9, .int x9)]) F dL_mast_210 (by decide) rfl ?_
      refine go_aloadn (pc := 212) F dL_mast_212 1 rfl ?_
      refine go_iload (pc := 213) F dL_mast_213 8 rfl ?_
      refine go_iload (pc := 215) F dL_mast_215 10 rfl ?_
      refine go_iconst (pc := 217) 1 F dL_mast_217 (by decide) ?_
      refine go_iadd (pc := 218) F dL_mast_218 ?_
      refine go_iconst (pc := 219) 0 F dL_mast_219 (by decide) ?_
      obtain ⟨y15, hy15, h⟩ := ob_ h
      refine cv_L_48 (pc := 220) F dL_mast_220 rfl (ct_X8_sign (enL E) G V x7 (x9 + 1) 0 y15 hy15) (by decide) (by decide) (Nat.le_of_ble_eq_true rfl) ?_
      refine go_aloadn (pc := 223) F dL_mast_223 3 rfl ?_
      refine go_iconst (pc := 224) 4 F dL_mast_224 (by decide) ?_
      refine go_iload (pc := 225) F dL_mast_225 8 rfl ?_
      refine go_imul (pc := 227) F dL_mast_227 ?_
      refine go_iload (pc := 228) F dL_mast_228 10 rfl ?_
      refine go_iadd (pc := 230) F dL_mast_230 ?_
      refine go_jald (pc := 231) 119 20 F dL_mast_231 (by decide) (fun _ => rfl) h (fun y16 h => ?_)
      refine go_icmp_ne (pc := 232) 331 F dL_mast_232 (by decide) h (fun c23 h => ?_) (fun c23 h => ?_)
      · refine go_iconst (pc := 331) 0 F dL_mast_331 (by decide) ?_
        exact go_zretW (pc := 332) F dL_mast_332 rfl h
      · refine go_aloadn (pc := 235) F dL_mast_235 1 rfl ?_
        refine go_iload (pc := 236) F dL_mast_236 8 rfl ?_
        refine go_iload (pc := 238) F dL_mast_238 10 rfl ?_
        refine go_iconst (pc := 240) 1 F dL_mast_240 (by decide) ?_
        refine go_iadd (pc := 241) F dL_mast_241 ?_
        refine go_iconst (pc := 242) 1 F dL_mast_242 (by decide) ?_
        obtain ⟨y17, hy17, h⟩ := ob_ h
        refine cv_L_48 (pc := 243) F dL_mast_243 rfl (ct_X8_sign (enL E) G V x7 (x9 + 1) 1 y17 hy17) (by decide) (by decide) (Nat.le_of_ble_eq_true rfl) ?_
        refine go_iload (pc := 246) F dL_mast_246 0 rfl ?_
        refine go_icmp_ne (pc := 248) 331 F dL_mast_248 (by decide) h (fun c22 h => ?_) (fun c22 h => ?_)
        · refine go_iconst (pc := 331) 0 F dL_mast_331 (by decide) ?_
          exact go_zretW (pc := 332) F dL_mast_332 rfl h
        · refine go_aloadn (pc := 251) F dL_mast_251 1 rfl ?_
          refine go_iload (pc := 252) F dL_mast_252 8 rfl ?_
          refine go_iload (pc := 254) F dL_mast_254 10 rfl ?_
          refine go_iconst (pc := 256) 1 F dL_mast_256 (by decide) ?_
          refine go_iadd (pc := 257) F dL_mast_257 ?_
          refine go_iconst (pc := 258) 2 F dL_mast_258 (by decide) ?_
          obtain ⟨y18, hy18, h⟩ := ob_ h
          refine cv_L_48 (pc := 259) F dL_mast_259 rfl (ct_X8_sign (enL E) G V x7 (x9 + 1) 2 y18 hy18) (by decide) (by decide) (Nat.le_of_ble_eq_true rfl) ?_
          refine go_aloadn (pc := 262) F dL_mast_262 2 rfl ?_
          refine go_iconst (pc := 263) 3 F dL_mast_263 (by decide) ?_
          refine go_iload (pc := 264) F dL_mast_264 0 rfl ?_
          refine go_imul (pc := 266) F dL_mast_266 ?_
          refine go_iconst (pc := 267) 2 F dL_mast_267 (by decide) ?_
          refine go_iadd (pc := 268) F dL_mast_268 ?_
          refine go_jald (pc := 269) 118 30 F dL_mast_269 (by decide) (fun _ => rfl) h (fun y19 h => ?_)
          refine go_aload (pc := 270) F dL_mast_270 6 rfl ?_
          refine go_iconst (pc := 272) 1 F dL_mast_272 (by decide) ?_
          refine go_jald (pc := 273) 122 7 F dL_mast_273 (by decide) (fun _ => rfl) h (fun y20 h => ?_)
          refine go_icmp_le (pc := 274) 281 F dL_mast_274 (by decide) h (fun c21 h => ?_) (fun c21 h => ?_)
          · refine go_iconst (pc := 281) 0 F dL_mast_281 (by decide) ?_
            exact go_sub [1, 2, 3, 4, 5, 6, 7, 8, 9, 10, 0] rfl (lb_L_mast_282 F hK171 (fun V1 a6 a7 a8 a9 h => ih V1 a6 a7 a8 a9 h) V x6 x7 x8 x9 y14 0 y18 h)
          · refine go_iconst (pc := 277) 1 F dL_mast_277 (by decide) ?_
            refine go_goto (pc := 278) 282 F dL_mast_278 (by decide) ?_
            exact go_sub [1, 2, 3, 4, 5, 6, 7, 8, 9, 10, 0] rfl (lb_L_mast_282 F hK171 (fun V1 a6 a7 a8 a9 h => ih V1 a6 a7 a8 a9 h) V x6 x7 x8 x9 y14 1 y18 h)
set_option maxRecDepth 100000 in
set_option maxHeartbeats 4000000 in
theorem lb_L_mast_439 {E : En} {G : Gm} (F : Fx E G (AG G) RL cL_mast 11 (some .boolean) 7 165 0 0) {K386 : Wd → Int32 → Int32 → Int32 → Option (Int32 × Wd)} {z : Int32 × Wd} (hK386 : ∀ (V1 : Wd) (a6 : Int32) (a7 : Int32) (a8 : Int32), K386 V1 a6 a7 a8 = some z → Go E G (AG G) 0 0 (MQq E G (some (.int z.1)) z.2) 11 V1 386 [(0, .ref (AD G 0)), (1, .ref (AD G 118)), (2, .ref (AD G 119)), (3, .ref (AD G 120)), (4, .ref (AD G 121)), (5, .ref (AD G 122)), (6, .int a6), (7, .int a7), (8, .int a8)] []) (V : Wd) (x6 : Int32) (x7 : Int32) (x8 : Int32) (h : f_L_mast_439 K386 V x6 x7 x8 = some z) : Go E G (AG G) 0 0 (MQq E G (some (.int z.1)) z.2) 11 V 439 [(0, .ref (AD G 0)), (1, .ref (AD G 118)), (2, .ref (AD G 119)), (3, .ref (AD G 120)), (4, .ref (AD G 121)), (5, .ref (AD G 122)), (6, .int x6), (7, .int x7), (8, .int x8)] [] := by
  unfold f_L_mast_439 at h
  refine go_aloadn (pc := 439) F dL_mast_439 0 rfl ?_
  refine go_iload (pc := 440) F dL_mast_440 8 rfl ?_
  refine go_iload (pc := 442) F dL_mast_442 7 rfl ?_
  obtain ⟨q68, hq68, h⟩ := ob_ h
  refine cv_L_55 (pc := 444) F dL_mast_444 rfl (ct_X8_word (enL E) G V x8 x7 q68 hq68) (by decide) (by decide) (Nat.le_of_ble_eq_true rfl) ?_
  refine go_iconst (pc := 447) (-1) F dL_mast_447 (by decide) ?_
  refine go_icmp_ne (pc := 448) 470 F dL_mast_448 (by decide) h (fun c72 h => ?_) (fun c72 h => ?_)
  · refine go_iconst (pc := 470) 0 F dL_mast_470 (by decide) ?_
    exact go_zretW (pc := 471) F dL_mast_471 rfl h
  · refine go_aloadn (pc := 451) F dL_mast_451 0 rfl ?_
    refine go_iload (pc := 452) F dL_mast_452 8 rfl ?_
    obtain ⟨q69, hq69, h⟩ := ob_ h
    refine cv_L_57 (pc := 454) F dL_mast_454 rfl (ct_X8_known (enL E) G q68.2 x8 q69 hq69) (by decide) (by decide) (Nat.le_of_ble_eq_true rfl) ?_
    refine go_aloadn (pc := 457) F dL_mast_457 1 rfl ?_
    refine go_aloadn (pc := 458) F dL_mast_458 2 rfl ?_
    refine go_aloadn (pc := 459) F dL_mast_459 3 rfl ?_
    refine go_aload (pc := 460) F dL_mast_460 5 rfl ?_
    refine go_iload (pc := 462) F dL_mast_462 8 rfl ?_
    obtain ⟨y70, hy70, h⟩ := ob_ h
    refine cv_L_34 (pc := 464) F dL_mast_464 (ct_L_known (enL E) G q69.2 x8 y70 hy70) (by decide) (by decide) (Nat.le_of_ble_eq_true rfl) ?_
    refine go_icmp_eq (pc := 467) 472 F dL_mast_467 (by decide) h (fun c71 h => ?_) (fun c71 h => ?_)
    · refine go_iinc (pc := 472) (x8 + 1) (lv' := [(8, .int (x8 + 1)), (0, .ref (AD G 0)), (1, .ref (AD G 118)), (2, .ref (AD G 119)), (3, .ref (AD G 120)), (4, .ref (AD G 121)), (5, .ref (AD G 122)), (6, .int x6), (7, .int x7)]) F dL_mast_472 (k := 8) rfl rfl (by decide) rfl ?_
      refine go_goto (pc := 475) 386 F dL_mast_475 (by decide) ?_
      exact go_sub [1, 2, 3, 4, 5, 6, 7, 8, 0] rfl (hK386 q69.2 x6 x7 (x8 + 1) h)
    · refine go_iconst (pc := 470) 0 F dL_mast_470 (by decide) ?_
      exact go_zretW (pc := 471) F dL_mast_471 rfl h
set_option maxRecDepth 100000 in
set_option maxHeartbeats 4000000 in
theorem lb_L_mast_395 {E : En} {G : Gm} (F : Fx E G (AG G) RL cL_mast 11 (some .boolean) 7 165 0 0) {K386 : Wd → Int32 → Int32 → Int32 → Option (Int32 × Wd)} {z : Int32 × Wd} (hK386 : ∀ (V1 : Wd) (a6 : Int32) (a7 : Int32) (a8 : Int32), K386 V1 a6 a7 a8 = some z → Go E G (AG G) 0 0 (MQq E G (some (.int z.1)) z.2) 11 V1 386 [(0, .ref (AD G 0)), (1, .ref (AD G 118)), (2, .ref (AD G 119)), (3, .ref (AD G 120)), (4, .ref (AD G 121)), (5, .ref (AD G 122)), (6, .int a6), (7, .int a7), (8, .int a8)] []) : ∀ (n : Nat) (V : Wd) (x6 : Int32) (x7 : Int32) (x8 : Int32) (x9 : Int32), f_L_mast_395 K386 n V x6 x7 x8 x9 = some z → Go E G (AG G) 0 0 (MQq E G (some (.int z.1)) z.2) 11 V 395 [(0, .ref (AD G 0)), (1, .ref (AD G 118)), (2, .ref (AD G 119)), (3, .ref (AD G 120)), (4, .ref (AD G 121)), (5, .ref (AD G 122)), (6, .int x6), (7, .int x7), (8, .int x8), (9, .int x9)] [] := by
  intro n
  induction n with
  | zero => intro V x6 x7 x8 x9 h; cases h
  | succ n ih =>
    intro V x6 x7 x8 x9 h
    rw [f_L_mast_395] at h
    refine go_iload (pc := 395) F dL_mast_395 9 rfl ?_
    refine go_iload (pc := 397) F dL_mast_397 7 rfl ?_
    refine go_icmp_ge (pc := 399) 439 F dL_mast_399 (by decide) h (fun c52 h => ?_) (fun c52 h => ?_)
    · exact go_sub [0, 1, 2, 3, 4, 5, 6, 7, 8] rfl (lb_L_mast_439 F hK386 V x6 x7 x8 h)
    · refine go_aloadn (pc := 402) F dL_mast_402 0 rfl ?_
      refine go_iload (pc := 403) F dL_mast_403 8 rfl ?_
      refine go_iload (pc := 405) F dL_mast_405 9 rfl ?_
      obtain ⟨q48, hq48, h⟩ := ob_ h
      refine cv_L_55 (pc := 407) F dL_mast_407 rfl (ct_X8_word (enL E) G V x8 x9 q48 hq48) (by decide) (by decide) (Nat.le_of_ble_eq_true rfl) ?_
      refine go_aloadn (pc := 410) F dL_mast_410 1 rfl ?_
      refine go_aloadn (pc := 411) F dL_mast_411 2 rfl ?_
      refine go_aloadn (pc := 412) F dL_mast_412 3 rfl ?_
      refine go_aload (pc := 413) F dL_mast_413 5 rfl ?_
      refine go_iload (pc := 415) F dL_mast_415 8 rfl ?_
      refine go_aloadn (pc := 417) F dL_mast_417 2 rfl ?_
      refine go_iload (pc := 418) F dL_mast_418 8 rfl ?_
      refine go_iload (pc := 420) F dL_mast_420 9 rfl ?_
      obtain ⟨y49, hy49, h⟩ := ob_ h
      refine cv_L_38 (pc := 422) F dL_mast_422 (ct_L_nth (enL E) G q48.2 x8 x9 y49 hy49) (by decide) (by decide) (Nat.le_of_ble_eq_true rfl) ?_
      obtain ⟨y50, hy50, h⟩ := ob_ h
      refine cv_L_26 (pc := 425) F dL_mast_425 (ct_L_word (enL E) G q48.2 x8 y49 y50 hy50) (by decide) (by decide) (Nat.le_of_ble_eq_true rfl) ?_
      refine go_icmp_eq (pc := 428) 433 F dL_mast_428 (by decide) h (fun c51 h => ?_) (fun c51 h => ?_)
      · refine go_iinc (pc := 433) (x9 + 1) (lv' := [(9, .int (x9 + 1)), (0, .ref (AD G 0)), (1, .ref (AD G 118)), (2, .ref (AD G 119)), (3, .ref (AD G 120)), (4, .ref (AD G 121)), (5, .ref (AD G 122)), (6, .int x6), (7, .int x7), (8, .int x8)]) F dL_mast_433 (k := 9) rfl rfl (by decide) rfl ?_
        refine go_goto (pc := 436) 395 F dL_mast_436 (by decide) ?_
        exact go_sub [1, 2, 3, 4, 5, 6, 7, 8, 9, 0] rfl (ih q48.2 x6 x7 x8 (x9 + 1) h)
      · refine go_iconst (pc := 431) 0 F dL_mast_431 (by decide) ?_
        exact go_zretW (pc := 432) F dL_mast_432 rfl h
set_option maxRecDepth 100000 in
set_option maxHeartbeats 4000000 in
theorem lb_L_mast_625 {E : En} {G : Gm} (F : Fx E G (AG G) RL cL_mast 11 (some .boolean) 7 165 0 0) {K560 : Wd → Int32 → Int32 → Int32 → Int32 → Option (Int32 × Wd)} {z : Int32 × Wd} (hK560 : ∀ (V1 : Wd) (a6 : Int32) (a7 : Int32) (a8 : Int32) (a9 : Int32), K560 V1 a6 a7 a8 a9 = some z → Go E G (AG G) 0 0 (MQq E G (some (.int z.1)) z.2) 11 V1 560 [(0, .ref (AD G 0)), (1, .ref (AD G 118)), (2, .ref (AD G 119)), (3, .ref (AD G 120)), (4, .ref (AD G 121)), (5, .ref (AD G 122)), (6, .int a6), (7, .int a7), (8, .int a8), (9, .int a9)] []) (V : Wd) (x6 : Int32) (x7 : Int32) (x8 : Int32) (x9 : Int32) (h : f_L_mast_625 K560 V x6 x7 x8 x9 = some z) : Go E G (AG G) 0 0 (MQq E G (some (.int z.1)) z.2) 11 V 625 [(0, .ref (AD G 0)), (1, .ref (AD G 118)), (2, .ref (AD G 119)), (3, .ref (AD G 120)), (4, .ref (AD G 121)), (5, .ref (AD G 122)), (6, .int x6), (7, .int x7), (8, .int x8), (9, .int x9)] [] := by
  unfold f_L_mast_625 at h
  refine go_aloadn (pc := 625) F dL_mast_625 0 rfl ?_
  refine go_iload (pc := 626) F dL_mast_626 9 rfl ?_
  refine go_iload (pc := 628) F dL_mast_628 8 rfl ?_
  refine go_isub (pc := 630) F dL_mast_630 ?_
  refine go_iconst (pc := 631) 0 F dL_mast_631 (by decide) ?_
  obtain ⟨y118, hy118, h⟩ := ob_ h
  refine cv_L_63 (pc := 632) F dL_mast_632 rfl (ct_X8_logged (enL E) G V (x9 - x8) 0 y118 hy118) (by decide) (by decide) (Nat.le_of_ble_eq_true rfl) ?_
  refine go_aload (pc := 635) F dL_mast_635 4 rfl ?_
  refine go_bipush (pc := 637) 6 F dL_mast_637 (by decide) ?_
  refine go_iload (pc := 639) F dL_mast_639 9 rfl ?_
  refine go_iload (pc := 641) F dL_mast_641 8 rfl ?_
  refine go_isub (pc := 643) F dL_mast_643 ?_
  refine go_imul (pc := 644) F dL_mast_644 ?_
  refine go_jald (pc := 645) 121 48 F dL_mast_645 (by decide) (fun _ => rfl) h (fun y119 h => ?_)
  refine go_icmp_eq (pc := 646) 651 F dL_mast_646 (by decide) h (fun c120 h => ?_) (fun c120 h => ?_)
  · refine go_iinc (pc := 651) (x9 + 1) (lv' := [(9, .int (x9 + 1)), (0, .ref (AD G 0)), (1, .ref (AD G 118)), (2, .ref (AD G 119)), (3, .ref (AD G 120)), (4, .ref (AD G 121)), (5, .ref (AD G 122)), (6, .int x6), (7, .int x7), (8, .int x8)]) F dL_mast_651 (k := 9) rfl rfl (by decide) rfl ?_
    refine go_goto (pc := 654) 560 F dL_mast_654 (by decide) ?_
    exact go_sub [1, 2, 3, 4, 5, 6, 7, 8, 9, 0] rfl (hK560 V x6 x7 x8 (x9 + 1) h)
  · refine go_iconst (pc := 649) 0 F dL_mast_649 (by decide) ?_
    exact go_zretW (pc := 650) F dL_mast_650 rfl h
set_option maxRecDepth 100000 in
set_option maxHeartbeats 4000000 in
theorem lb_L_mast_573 {E : En} {G : Gm} (F : Fx E G (AG G) RL cL_mast 11 (some .boolean) 7 165 0 0) {K560 : Wd → Int32 → Int32 → Int32 → Int32 → Option (Int32 × Wd)} {z : Int32 × Wd} (hK560 : ∀ (V1 : Wd) (a6 : Int32) (a7 : Int32) (a8 : Int32) (a9 : Int32), K560 V1 a6 a7 a8 a9 = some z → Go E G (AG G) 0 0 (MQq E G (some (.int z.1)) z.2) 11 V1 560 [(0, .ref (AD G 0)), (1, .ref (AD G 118)), (2, .ref (AD G 119)), (3, .ref (AD G 120)), (4, .ref (AD G 121)), (5, .ref (AD G 122)), (6, .int a6), (7, .int a7), (8, .int a8), (9, .int a9)] []) : ∀ (n : Nat) (V : Wd) (x6 : Int32) (x7 : Int32) (x8 : Int32) (x9 : Int32) (x10 : Int32), f_L_mast_573 K560 n V x6 x7 x8 x9 x10 = some z → Go E G (AG G) 0 0 (MQq E G (some (.int z.1)) z.2) 11 V 573 [(0, .ref (AD G 0)), (1, .ref (AD G 118)), (2, .ref (AD G 119)), (3, .ref (AD G 120)), (4, .ref (AD G 121)), (5, .ref (AD G 122)), (6, .int x6), (7, .int x7), (8, .int x8), (9, .int x9), (10, .int x10)] [] := by
  intro n
  induction n with
  | zero => intro V x6 x7 x8 x9 x10 h; cases h
  | succ n ih =>
    intro V x6 x7 x8 x9 x10 h
    rw [f_L_mast_573] at h
    refine go_iload (pc := 573) F dL_mast_573 10 rfl ?_
    refine go_aload (pc := 575) F dL_mast_575 4 rfl ?_
    refine go_bipush (pc := 577) 6 F dL_mast_577 (by decide) ?_
    refine go_iload (pc := 579) F dL_mast_579 9 rfl ?_
    refine go_iload (pc := 581) F dL_mast_581 8 rfl ?_
    refine go_isub (pc := 583) F dL_mast_583 ?_
    refine go_imul (pc := 584) F dL_mast_584 ?_
    refine go_jald (pc := 585) 121 48 F dL_mast_585 (by decide) (fun _ => rfl) h (fun y78 h => ?_)
    refine go_icmp_gt (pc := 586) 625 F dL_mast_586 (by decide) h (fun c82 h => ?_) (fun c82 h => ?_)
    · exact go_sub [0, 1, 2, 3, 4, 5, 6, 7, 8, 9] rfl (lb_L_mast_625 F hK560 V x6 x7 x8 x9 h)
    · refine go_aloadn (pc := 589) F dL_mast_589 0 rfl ?_
      refine go_iload (pc := 590) F dL_mast_590 9 rfl ?_
      refine go_iload (pc := 592) F dL_mast_592 8 rfl ?_
      refine go_isub (pc := 594) F dL_mast_594 ?_
      refine go_iload (pc := 595) F dL_mast_595 10 rfl ?_
      obtain ⟨y79, hy79, h⟩ := ob_ h
      refine cv_L_63 (pc := 597) F dL_mast_597 rfl (ct_X8_logged (enL E) G V (x9 - x8) x10 y79 hy79) (by decide) (by decide) (Nat.le_of_ble_eq_true rfl) ?_
      refine go_aload (pc := 600) F dL_mast_600 4 rfl ?_
      refine go_bipush (pc := 602) 6 F dL_mast_602 (by decide) ?_
      refine go_iload (pc := 604) F dL_mast_604 9 rfl ?_
      refine go_iload (pc := 606) F dL_mast_606 8 rfl ?_
      refine go_isub (pc := 608) F dL_mast_608 ?_
      refine go_imul (pc := 609) F dL_mast_609 ?_
      refine go_iload (pc := 610) F dL_mast_610 10 rfl ?_
      refine go_iadd (pc := 612) F dL_mast_612 ?_
      refine go_jald (pc := 613) 121 48 F dL_mast_613 (by decide) (fun _ => rfl) h (fun y80 h => ?_)
      refine go_icmp_eq (pc := 614) 619 F dL_mast_614 (by decide) h (fun c81 h => ?_) (fun c81 h => ?_)
      · refine go_iinc (pc := 619) (x10 + 1) (lv' := [(10, .int (x10 + 1)), (0, .ref (AD G 0)), (1, .ref (AD G 118)), (2, .ref (AD G 119)), (3, .ref (AD G 120)), (4, .ref (AD G 121)), (5, .ref (AD G 122)), (6, .int x6), (7, .int x7), (8, .int x8), (9, .int x9)]) F dL_mast_619 (k := 10) rfl rfl (by decide) rfl ?_
        refine go_goto (pc := 622) 573 F dL_mast_622 (by decide) ?_
        exact go_sub [1, 2, 3, 4, 5, 6, 7, 8, 9, 10, 0] rfl (ih V x6 x7 x8 x9 (x10 + 1) h)
      · refine go_iconst (pc := 617) 0 F dL_mast_617 (by decide) ?_
        exact go_zretW (pc := 618) F dL_mast_618 rfl h
set_option maxRecDepth 100000 in
set_option maxHeartbeats 4000000 in
theorem lb_L_mast_839 {E : En} {G : Gm} (F : Fx E G (AG G) RL cL_mast 11 (some .boolean) 7 165 0 0) {z : Int32 × Wd} (V : Wd) (h : f_L_mast_839 V = some z) : Go E G (AG G) 0 0 (MQq E G (some (.int z.1)) z.2) 11 V 839 [] [] := by
  unfold f_L_mast_839 at h
  refine go_iconst (pc := 839) 0 F dL_mast_839 (by decide) ?_
  exact go_zretW (pc := 840) F dL_mast_840 rfl h
set_option maxRecDepth 100000 in
set_option maxHeartbeats 4000000 in
theorem lb_L_mast_677 {E : En} {G : Gm} (F : Fx E G (AG G) RL cL_mast 11 (some .boolean) 7 165 0 0) {z : Int32 × Wd} (V : Wd) (x6 : Int32) (x7 : Int32) (x8 : Int32) (s0 : Int32) (s1 : Int32) (h : f_L_mast_677 V x6 x7 x8 s0 s1 = some z) : Go E G (AG G) 0 0 (MQq E G (some (.int z.1)) z.2) 11 V 677 [(0, .ref (AD G 0)), (5, .ref (AD G 122)), (6, .int x6), (7, .int x7), (8, .int x8)] [.int s0, .int s1] := by
  unfold f_L_mast_677 at h
  refine go_icmp_ne (pc := 677) 839 F dL_mast_677 (by decide) h (fun c117 h => ?_) (fun c117 h => ?_)
  · exact go_sub [] rfl (lb_L_mast_839 F V h)
  · refine go_aloadn (pc := 680) F dL_mast_680 0 rfl ?_
    refine go_iconst (pc := 681) 0 F dL_mast_681 (by decide) ?_
    obtain ⟨y83, hy83, h⟩ := ob_ h
    refine cv_L_74 (pc := 682) F dL_mast_682 rfl (ct_X8_total (enL E) G V 0 y83 hy83) (by decide) (by decide) (Nat.le_of_ble_eq_true rfl) ?_
    refine go_aload (pc := 685) F dL_mast_685 1 rfl ?_
    refine go_iconst (pc := 687) 1 F dL_mast_687 (by decide) ?_
    refine go_jald (pc := 688) 122 7 F dL_mast_688 (by decide) (fun _ => rfl) h (fun y84 h => ?_)
    refine go_icmp_ne (pc := 689) 839 F dL_mast_689 (by decide) h (fun c116 h => ?_) (fun c116 h => ?_)
    · exact go_sub [] rfl (lb_L_mast_839 F V h)
    · refine go_aloadn (pc := 692) F dL_mast_692 0 rfl ?_
      refine go_iconst (pc := 693) 1 F dL_mast_693 (by decide) ?_
      obtain ⟨y85, hy85, h⟩ := ob_ h
      refine cv_L_74 (pc := 694) F dL_mast_694 rfl (ct_X8_total (enL E) G V 1 y85 hy85) (by decide) (by decide) (Nat.le_of_ble_eq_true rfl) ?_
      refine go_aload (pc := 697) F dL_mast_697 1 rfl ?_
      refine go_iconst (pc := 699) 2 F dL_mast_699 (by decide) ?_
      refine go_jald (pc := 700) 122 7 F dL_mast_700 (by decide) (fun _ => rfl) h (fun y86 h => ?_)
      refine go_icmp_ne (pc := 701) 839 F dL_mast_701 (by decide) h (fun c115 h => ?_) (fun c115 h => ?_)
      · exact go_sub [] rfl (lb_L_mast_839 F V h)
      · refine go_aloadn (pc := 704) F dL_mast_704 0 rfl ?_
        refine go_iconst (pc := 705) 2 F dL_mast_705 (by decide) ?_
        obtain ⟨y87, hy87, h⟩ := ob_ h
        refine cv_L_74 (pc := 706) F dL_mast_706 rfl (ct_X8_total (enL E) G V 2 y87 hy87) (by decide) (by decide) (Nat.le_of_ble_eq_true rfl) ?_
        refine go_aload (pc := 709) F dL_mast_709 1 rfl ?_
        refine go_iconst (pc := 711) 0 F dL_mast_711 (by decide) ?_
        refine go_jald (pc := 712) 122 7 F dL_mast_712 (by decide) (fun _ => rfl) h (fun y88 h => ?_)
        refine go_icmp_ne (pc := 713) 839 F dL_mast_713 (by decide) h (fun c114 h => ?_) (fun c114 h => ?_)
        · exact go_sub [] rfl (lb_L_mast_839 F V h)
        · refine go_aloadn (pc := 716) F dL_mast_716 0 rfl ?_
          refine go_iconst (pc := 717) 3 F dL_mast_717 (by decide) ?_
          obtain ⟨y89, hy89, h⟩ := ob_ h
          refine cv_L_74 (pc := 718) F dL_mast_718 rfl (ct_X8_total (enL E) G V 3 y89 hy89) (by decide) (by decide) (Nat.le_of_ble_eq_true rfl) ?_
          refine go_iload (pc := 721) F dL_mast_721 2 rfl ?_
          refine go_icmp_ne (pc := 723) 839 F dL_mast_723 (by decide) h (fun c113 h => ?_) (fun c113 h => ?_)
          · exact go_sub [] rfl (lb_L_mast_839 F V h)
          · refine go_aloadn (pc := 726) F dL_mast_726 0 rfl ?_
            refine go_iconst (pc := 727) 4 F dL_mast_727 (by decide) ?_
            obtain ⟨y90, hy90, h⟩ := ob_ h
            refine cv_L_74 (pc := 728) F dL_mast_728 rfl (ct_X8_total (enL E) G V 4 y90 hy90) (by decide) (by decide) (Nat.le_of_ble_eq_true rfl) ?_
            refine go_iload (pc := 731) F dL_mast_731 3 rfl ?_
            refine go_icmp_ne (pc := 733) 839 F dL_mast_733 (by decide) h (fun c112 h => ?_) (fun c112 h => ?_)
            · exact go_sub [] rfl (lb_L_mast_839 F V h)
            · refine go_aloadn (pc := 736) F dL_mast_736 0 rfl ?_
              refine go_iconst (pc := 737) 5 F dL_mast_737 (by decide) ?_
              obtain ⟨y91, hy91, h⟩ := ob_ h
              refine cv_L_74 (pc := 738) F dL_mast_738 rfl (ct_X8_total (enL E) G V 5 y91 hy91) (by decide) (by decide) (Nat.le_of_ble_eq_true rfl) ?_
              refine go_aload (pc := 741) F dL_mast_741 1 rfl ?_
              refine go_iconst (pc := 743) 5 F dL_mast_743 (by decide) ?_
              refine go_jald (pc := 744) 122 7 F dL_mast_744 (by decide) (fun _ => rfl) h (fun y92 h => ?_)
              refine go_icmp_ne (pc := 745) 839 F dL_mast_745 (by decide) h (fun c111 h => ?_) (fun c111 h => ?_)
              · exact go_sub [] rfl (lb_L_mast_839 F V h)
              · refine go_aloadn (pc := 748) F dL_mast_748 0 rfl ?_
                refine go_bipush (pc := 749) 6 F dL_mast_749 (by decide) ?_
                obtain ⟨y93, hy93, h⟩ := ob_ h
                refine cv_L_74 (pc := 751) F dL_mast_751 rfl (ct_X8_total (enL E) G V 6 y93 hy93) (by decide) (by decide) (Nat.le_of_ble_eq_true rfl) ?_
                refine go_aload (pc := 754) F dL_mast_754 1 rfl ?_
                refine go_iconst (pc := 756) 3 F dL_mast_756 (by decide) ?_
                refine go_jald (pc := 757) 122 7 F dL_mast_757 (by decide) (fun _ => rfl) h (fun y94 h => ?_)
                refine go_icmp_ne (pc := 758) 839 F dL_mast_758 (by decide) h (fun c110 h => ?_) (fun c110 h => ?_)
                · exact go_sub [] rfl (lb_L_mast_839 F V h)
                · refine go_aloadn (pc := 761) F dL_mast_761 0 rfl ?_
                  refine go_bipush (pc := 762) 7 F dL_mast_762 (by decide) ?_
                  obtain ⟨y95, hy95, h⟩ := ob_ h
                  refine cv_L_74 (pc := 764) F dL_mast_764 rfl (ct_X8_total (enL E) G V 7 y95 hy95) (by decide) (by decide) (Nat.le_of_ble_eq_true rfl) ?_
                  refine go_aload (pc := 767) F dL_mast_767 1 rfl ?_
                  refine go_iconst (pc := 769) 4 F dL_mast_769 (by decide) ?_
                  refine go_jald (pc := 770) 122 7 F dL_mast_770 (by decide) (fun _ => rfl) h (fun y96 h => ?_)
                  refine go_icmp_ne (pc := 771) 839 F dL_mast_771 (by decide) h (fun c109 h => ?_) (fun c109 h => ?_)
                  · exact go_sub [] rfl (lb_L_mast_839 F V h)
                  · refine go_aloadn (pc := 774) F dL_mast_774 0 rfl ?_
                    refine go_bipush (pc := 775) 8 F dL_mast_775 (by decide) ?_
                    obtain ⟨y97, hy97, h⟩ := ob_ h
                    refine cv_L_74 (pc := 777) F dL_mast_777 rfl (ct_X8_total (enL E) G V 8 y97 hy97) (by decide) (by decide) (Nat.le_of_ble_eq_true rfl) ?_
                    refine go_aload (pc := 780) F dL_mast_780 1 rfl ?_
                    refine go_bipush (pc := 782) 6 F dL_mast_782 (by decide) ?_
                    refine go_jald (pc := 784) 122 7 F dL_mast_784 (by decide) (fun _ => rfl) h (fun y98 h => ?_)
                    refine go_iload (pc := 785) F dL_mast_785 4 rfl ?_
                    refine go_isub (pc := 787) F dL_mast_787 ?_
                    refine go_icmp_ne (pc := 788) 839 F dL_mast_788 (by decide) h (fun c108 h => ?_) (fun c108 h => ?_)
                    · exact go_sub [] rfl (lb_L_mast_839 F V h)
                    · refine go_aloadn (pc := 791) F dL_mast_791 0 rfl ?_
                      refine go_bipush (pc := 792) 9 F dL_mast_792 (by decide) ?_
                      obtain ⟨y99, hy99, h⟩ := ob_ h
                      refine cv_L_74 (pc := 794) F dL_mast_794 rfl (ct_X8_total (enL E) G V 9 y99 hy99) (by decide) (by decide) (Nat.le_of_ble_eq_true rfl) ?_
                      refine go_aload (pc := 797) F dL_mast_797 1 rfl ?_
                      refine go_bipush (pc := 799) 6 F dL_mast_799 (by decide) ?_
                      refine go_jald (pc := 801) 122 7 F dL_mast_801 (by decide) (fun _ => rfl) h (fun y100 h => ?_)
                      refine go_icmp_ne (pc := 802) 839 F dL_mast_802 (by decide) h (fun c107 h => ?_) (fun c107 h => ?_)
                      · exact go_sub [] rfl (lb_L_mast_839 F V h)
                      · refine go_aloadn (pc := 805) F dL_mast_805 0 rfl ?_
                        refine go_aload (pc := 806) F dL_mast_806 1 rfl ?_
                        refine go_bipush (pc := 808) 6 F dL_mast_808 (by decide) ?_
                        refine go_jald (pc := 810) 122 7 F dL_mast_810 (by decide) (fun _ => rfl) h (fun y101 h => ?_)
                        refine go_iload (pc := 811) F dL_mast_811 4 rfl ?_
                        refine go_isub (pc := 813) F dL_mast_813 ?_
                        refine go_iconst (pc := 814) 0 F dL_mast_814 (by decide) ?_
                        obtain ⟨y102, hy102, h⟩ := ob_ h
                        refine cv_L_63 (pc := 815) F dL_mast_815 rfl (ct_X8_logged (enL E) G V (y101 - x8) 0 y102 hy102) (by decide) (by decide) (Nat.le_of_ble_eq_true rfl) ?_
                        refine go_iconst (pc := 818) (-1) F dL_mast_818 (by decide) ?_
                        refine go_icmp_ne (pc := 819) 839 F dL_mast_819 (by decide) h (fun c106 h => ?_) (fun c106 h => ?_)
                        · exact go_sub [] rfl (lb_L_mast_839 F V h)
                        · refine go_aloadn (pc := 822) F dL_mast_822 0 rfl ?_
                          refine go_aload (pc := 823) F dL_mast_823 1 rfl ?_
                          refine go_iconst (pc := 825) 5 F dL_mast_825 (by decide) ?_
                          refine go_jald (pc := 826) 122 7 F dL_mast_826 (by decide) (fun _ => rfl) h (fun y103 h => ?_)
                          refine go_iconst (pc := 827) 0 F dL_mast_827 (by decide) ?_
                          obtain ⟨y104, hy104, h⟩ := ob_ h
                          refine cv_L_60 (pc := 828) F dL_mast_828 rfl (ct_X8_entry (enL E) G V y103 0 y104 hy104) (by decide) (by decide) (Nat.le_of_ble_eq_true rfl) ?_
                          refine go_iconst (pc := 831) (-1) F dL_mast_831 (by decide) ?_
                          refine go_icmp_ne (pc := 832) 839 F dL_mast_832 (by decide) h (fun c105 h => ?_) (fun c105 h => ?_)
                          · exact go_sub [] rfl (lb_L_mast_839 F V h)
                          · refine go_iconst (pc := 835) 1 F dL_mast_835 (by decide) ?_
                            refine go_goto (pc := 836) 840 F dL_mast_836 (by decide) ?_
                            exact go_zretW (pc := 840) F dL_mast_840 rfl h
set_option maxRecDepth 100000 in
set_option maxHeartbeats 4000000 in
theorem lb_L_mast_657 {E : En} {G : Gm} (F : Fx E G (AG G) RL cL_mast 11 (some .boolean) 7 165 0 0) {z : Int32 × Wd} (V : Wd) (x6 : Int32) (x7 : Int32) (x8 : Int32) (h : f_L_mast_657 V x6 x7 x8 = some z) : Go E G (AG G) 0 0 (MQq E G (some (.int z.1)) z.2) 11 V 657 [(0, .ref (AD G 0)), (1, .ref (AD G 118)), (2, .ref (AD G 119)), (3, .ref (AD G 120)), (5, .ref (AD G 122)), (6, .int x6), (7, .int x7), (8, .int x8)] [] := by
  unfold f_L_mast_657 at h
  refine go_aloadn (pc := 657) F dL_mast_657 0 rfl ?_
  obtain ⟨q75, hq75, h⟩ := ob_ h
  refine cv_L_66 (pc := 658) F dL_mast_658 rfl (ct_X8_isSame (enL E) G V q75 hq75) (by decide) (by decide) (Nat.le_of_ble_eq_true rfl) ?_
  refine go_aloadn (pc := 661) F dL_mast_661 1 rfl ?_
  refine go_aloadn (pc := 662) F dL_mast_662 2 rfl ?_
  refine go_aloadn (pc := 663) F dL_mast_663 3 rfl ?_
  refine go_aload (pc := 664) F dL_mast_664 4 rfl ?_
  obtain ⟨y76, hy76, h⟩ := ob_ h
  refine cv_L_70 (pc := 666) F dL_mast_666 (ct_L_same (enL E) G q75.2 y76 hy76) (by decide) (by decide) (Nat.le_of_ble_eq_true rfl) ?_
  refine go_if_eq (pc := 669) 676 F dL_mast_669 (by decide) h (fun c77 h => ?_) (fun c77 h => ?_)
  · refine go_iconst (pc := 676) 0 F dL_mast_676 (by decide) ?_
    exact go_sub [0, 4, 5, 6, 7] rfl (lb_L_mast_677 F q75.2 x6 x7 x8 0 q75.1 h)
  · refine go_iconst (pc := 672) 1 F dL_mast_672 (by decide) ?_
    refine go_goto (pc := 673) 677 F dL_mast_673 (by decide) ?_
    exact go_sub [0, 4, 5, 6, 7] rfl (lb_L_mast_677 F q75.2 x6 x7 x8 1 q75.1 h)
set_option maxRecDepth 100000 in
set_option maxHeartbeats 4000000 in
theorem lb_L_mast_560 {E : En} {G : Gm} (F : Fx E G (AG G) RL cL_mast 11 (some .boolean) 7 165 0 0) {z : Int32 × Wd} : ∀ (n : Nat) (V : Wd) (x6 : Int32) (x7 : Int32) (x8 : Int32) (x9 : Int32), f_L_mast_560 n V x6 x7 x8 x9 = some z → Go E G (AG G) 0 0 (MQq E G (some (.int z.1)) z.2) 11 V 560 [(0, .ref (AD G 0)), (1, .ref (AD G 118)), (2, .ref (AD G 119)), (3, .ref (AD G 120)), (4, .ref (AD G 121)), (5, .ref (AD G 122)), (6, .int x6), (7, .int x7), (8, .int x8), (9, .int x9)] [] := by
  intro n
  induction n with
  | zero => intro V x6 x7 x8 x9 h; cases h
  | succ n ih =>
    intro V x6 x7 x8 x9 h
    rw [f_L_mast_560] at h
    refine go_iload (pc := 560) F dL_mast_560 9 rfl ?_
    refine go_aload (pc := 562) F dL_mast_562 5 rfl ?_
    refine go_bipush (pc := 564) 6 F dL_mast_564 (by decide) ?_
    refine go_jald (pc := 566) 122 7 F dL_mast_566 (by decide) (fun _ => rfl) h (fun y73 h => ?_)
    refine go_icmp_ge (pc := 567) 657 F dL_mast_567 (by decide) h (fun c74 h => ?_) (fun c74 h => ?_)
    · exact go_sub [0, 1, 2, 3, 5, 6, 7, 8] rfl (lb_L_mast_657 F V x6 x7 x8 h)
    · refine go_iconst (pc := 570) 1 F dL_mast_570 (by decide) ?_
      refine go_istore (pc := 571) (lv' := [(10, .int 1), (0, .ref (AD G 0)), (1, .ref (AD G 118)), (2, .ref (AD G 119)), (3, .ref (AD G 120)), (4, .ref (AD G 121)), (5, .ref (AD G 122)), (6, .int x6), (7, .int x7), (8, .int x8), (9, .int x9)]) F dL_mast_571 (by decide) rfl ?_
      exact go_sub [1, 2, 3, 4, 5, 6, 7, 8, 9, 10, 0] rfl (lb_L_mast_573 F (fun V1 a6 a7 a8 a9 h => ih V1 a6 a7 a8 a9 h) FU_ V x6 x7 x8 x9 1 h)
set_option maxRecDepth 100000 in
set_option maxHeartbeats 4000000 in
theorem lb_L_mast_532 {E : En} {G : Gm} (F : Fx E G (AG G) RL cL_mast 11 (some .boolean) 7 165 0 0) {z : Int32 × Wd} (V : Wd) (x6 : Int32) (x7 : Int32) (h : f_L_mast_532 V x6 x7 = some z) : Go E G (AG G) 0 0 (MQq E G (some (.int z.1)) z.2) 11 V 532 [(0, .ref (AD G 0)), (1, .ref (AD G 118)), (2, .ref (AD G 119)), (3, .ref (AD G 120)), (4, .ref (AD G 121)), (5, .ref (AD G 122)), (6, .int x6), (7, .int x7)] [] := by
  unfold f_L_mast_532 at h
  refine go_aload (pc := 532) F dL_mast_532 5 rfl ?_
  refine go_bipush (pc := 534) 6 F dL_mast_534 (by decide) ?_
  refine go_jald (pc := 536) 122 7 F dL_mast_536 (by decide) (fun _ => rfl) h (fun y64 h => ?_)
  refine go_bipush (pc := 537) 8 F dL_mast_537 (by decide) ?_
  refine go_icmp_le (pc := 539) 553 F dL_mast_539 (by decide) h (fun c67 h => ?_) (fun c67 h => ?_)
  · refine go_iconst (pc := 553) 0 F dL_mast_553 (by decide) ?_
    refine go_istore (pc := 554) (lv' := [(8, .int 0), (0, .ref (AD G 0)), (1, .ref (AD G 118)), (2, .ref (AD G 119)), (3, .ref (AD G 120)), (4, .ref (AD G 121)), (5, .ref (AD G 122)), (6, .int x6), (7, .int x7)]) F dL_mast_554 (by decide) rfl ?_
    refine go_iload (pc := 556) F dL_mast_556 0 rfl ?_
    refine go_istore (pc := 558) (lv' := [(9, .int 0), (8, .int 0), (0, .ref (AD G 0)), (1, .ref (AD G 118)), (2, .ref (AD G 119)), (3, .ref (AD G 120)), (4, .ref (AD G 121)), (5, .ref (AD G 122)), (6, .int x6), (7, .int x7)]) F dL_mast_558 (by decide) rfl ?_
    exact go_sub [2, 3, 4, 5, 6, 7, 8, 9, 1, 0] rfl (lb_L_mast_560 F FU_ V x6 x7 0 0 h)
  · refine go_aload (pc := 542) F dL_mast_542 5 rfl ?_
    refine go_bipush (pc := 544) 6 F dL_mast_544 (by decide) ?_
    refine go_jald (pc := 546) 122 7 F dL_mast_546 (by decide) (fun _ => rfl) h (fun y65 h => ?_)
    refine go_bipush (pc := 547) 8 F dL_mast_547 (by decide) ?_
    refine go_isub (pc := 549) F dL_mast_549 ?_
    refine go_goto (pc := 550) 554 F dL_mast_550 (by decide) ?_
    refine go_topi h (fun y66 h => ?_)
    refine go_istore (pc := 554) (lv' := [(8, .int y66), (0, .ref (AD G 0)), (1, .ref (AD G 118)), (2, .ref (AD G 119)), (3, .ref (AD G 120)), (4, .ref (AD G 121)), (5, .ref (AD G 122)), (6, .int x6), (7, .int x7)]) F dL_mast_554 (by decide) rfl ?_
    refine go_iload (pc := 556) F dL_mast_556 0 rfl ?_
    refine go_istore (pc := 558) (lv' := [(9, .int y66), (8, .int y66), (0, .ref (AD G 0)), (1, .ref (AD G 118)), (2, .ref (AD G 119)), (3, .ref (AD G 120)), (4, .ref (AD G 121)), (5, .ref (AD G 122)), (6, .int x6), (7, .int x7)]) F dL_mast_558 (by decide) rfl ?_
    exact go_sub [2, 3, 4, 5, 6, 7, 8, 9, 1, 0] rfl (lb_L_mast_560 F FU_ V x6 x7 y66 y66 h)
set_option maxRecDepth 100000 in
set_option maxHeartbeats 4000000 in
theorem lb_L_mast_481 {E : En} {G : Gm} (F : Fx E G (AG G) RL cL_mast 11 (some .boolean) 7 165 0 0) {z : Int32 × Wd} : ∀ (n : Nat) (V : Wd) (x6 : Int32) (x7 : Int32) (x8 : Int32), f_L_mast_481 n V x6 x7 x8 = some z → Go E G (AG G) 0 0 (MQq E G (some (.int z.1)) z.2) 11 V 481 [(0, .ref (AD G 0)), (1, .ref (AD G 118)), (2, .ref (AD G 119)), (3, .ref (AD G 120)), (4, .ref (AD G 121)), (5, .ref (AD G 122)), (6, .int x6), (7, .int x7), (8, .int x8)] [] := by
  intro n
  induction n with
  | zero => intro V x6 x7 x8 h; cases h
  | succ n ih =>
    intro V x6 x7 x8 h
    rw [f_L_mast_481] at h
    refine go_iload (pc := 481) F dL_mast_481 8 rfl ?_
    refine go_aload (pc := 483) F dL_mast_483 5 rfl ?_
    refine go_iconst (pc := 485) 5 F dL_mast_485 (by decide) ?_
    refine go_jald (pc := 486) 122 7 F dL_mast_486 (by decide) (fun _ => rfl) h (fun y40 h => ?_)
    refine go_icmp_ge (pc := 487) 532 F dL_mast_487 (by decide) h (fun c47 h => ?_) (fun c47 h => ?_)
    · exact go_sub [0, 1, 2, 3, 4, 5, 6, 7] rfl (lb_L_mast_532 F V x6 x7 h)
    · refine go_aloadn (pc := 490) F dL_mast_490 0 rfl ?_
      refine go_iload (pc := 491) F dL_mast_491 8 rfl ?_
      refine go_iconst (pc := 493) 0 F dL_mast_493 (by decide) ?_
      obtain ⟨y41, hy41, h⟩ := ob_ h
      refine cv_L_60 (pc := 494) F dL_mast_494 rfl (ct_X8_entry (enL E) G V x8 0 y41 hy41) (by decide) (by decide) (Nat.le_of_ble_eq_true rfl) ?_
      refine go_aloadn (pc := 497) F dL_mast_497 3 rfl ?_
      refine go_iconst (pc := 498) 2 F dL_mast_498 (by decide) ?_
      refine go_iload (pc := 499) F dL_mast_499 8 rfl ?_
      refine go_imul (pc := 501) F dL_mast_501 ?_
      refine go_jald (pc := 502) 120 24 F dL_mast_502 (by decide) (fun _ => rfl) h (fun y42 h => ?_)
      refine go_icmp_ne (pc := 503) 524 F dL_mast_503 (by decide) h (fun c46 h => ?_) (fun c46 h => ?_)
      · refine go_iconst (pc := 524) 0 F dL_mast_524 (by decide) ?_
        exact go_zretW (pc := 525) F dL_mast_525 rfl h
      · refine go_aloadn (pc := 506) F dL_mast_506 0 rfl ?_
        refine go_iload (pc := 507) F dL_mast_507 8 rfl ?_
        refine go_iconst (pc := 509) 1 F dL_mast_509 (by decide) ?_
        obtain ⟨y43, hy43, h⟩ := ob_ h
        refine cv_L_60 (pc := 510) F dL_mast_510 rfl (ct_X8_entry (enL E) G V x8 1 y43 hy43) (by decide) (by decide) (Nat.le_of_ble_eq_true rfl) ?_
        refine go_aloadn (pc := 513) F dL_mast_513 3 rfl ?_
        refine go_iconst (pc := 514) 2 F dL_mast_514 (by decide) ?_
        refine go_iload (pc := 515) F dL_mast_515 8 rfl ?_
        refine go_imul (pc := 517) F dL_mast_517 ?_
        refine go_iconst (pc := 518) 1 F dL_mast_518 (by decide) ?_
        refine go_iadd (pc := 519) F dL_mast_519 ?_
        refine go_jald (pc := 520) 120 24 F dL_mast_520 (by decide) (fun _ => rfl) h (fun y44 h => ?_)
        refine go_icmp_eq (pc := 521) 526 F dL_mast_521 (by decide) h (fun c45 h => ?_) (fun c45 h => ?_)
        · refine go_iinc (pc := 526) (x8 + 1) (lv' := [(8, .int (x8 + 1)), (0, .ref (AD G 0)), (1, .ref (AD G 118)), (2, .ref (AD G 119)), (3, .ref (AD G 120)), (4, .ref (AD G 121)), (5, .ref (AD G 122)), (6, .int x6), (7, .int x7)]) F dL_mast_526 (k := 8) rfl rfl (by decide) rfl ?_
          refine go_goto (pc := 529) 481 F dL_mast_529 (by decide) ?_
          exact go_sub [1, 2, 3, 4, 5, 6, 7, 8, 0] rfl (ih V x6 x7 (x8 + 1) h)
        · refine go_iconst (pc := 524) 0 F dL_mast_524 (by decide) ?_
          exact go_zretW (pc := 525) F dL_mast_525 rfl h
set_option maxRecDepth 100000 in
set_option maxHeartbeats 4000000 in
theorem lb_L_mast_386 {E : En} {G : Gm} (F : Fx E G (AG G) RL cL_mast 11 (some .boolean) 7 165 0 0) {z : Int32 × Wd} : ∀ (n : Nat) (V : Wd) (x6 : Int32) (x7 : Int32) (x8 : Int32), f_L_mast_386 n V x6 x7 x8 = some z → Go E G (AG G) 0 0 (MQq E G (some (.int z.1)) z.2) 11 V 386 [(0, .ref (AD G 0)), (1, .ref (AD G 118)), (2, .ref (AD G 119)), (3, .ref (AD G 120)), (4, .ref (AD G 121)), (5, .ref (AD G 122)), (6, .int x6), (7, .int x7), (8, .int x8)] [] := by
  intro n
  induction n with
  | zero => intro V x6 x7 x8 h; cases h
  | succ n ih =>
    intro V x6 x7 x8 h
    rw [f_L_mast_386] at h
    refine go_iload (pc := 386) F dL_mast_386 8 rfl ?_
    refine go_iconst (pc := 388) 2 F dL_mast_388 (by decide) ?_
    refine go_icmp_ge (pc := 389) 478 F dL_mast_389 (by decide) h (fun c13 h => ?_) (fun c13 h => ?_)
    · refine go_iconst (pc := 478) 0 F dL_mast_478 (by decide) ?_
      refine go_istore (pc := 479) (lv' := [(8, .int 0), (0, .ref (AD G 0)), (1, .ref (AD G 118)), (2, .ref (AD G 119)), (3, .ref (AD G 120)), (4, .ref (AD G 121)), (5, .ref (AD G 122)), (6, .int x6), (7, .int x7)]) F dL_mast_479 (by decide) rfl ?_
      exact go_sub [1, 2, 3, 4, 5, 6, 7, 8, 0] rfl (lb_L_mast_481 F FU_ V x6 x7 0 h)
    · refine go_iconst (pc := 392) 0 F dL_mast_392 (by decide) ?_
      refine go_istore (pc := 393) (lv' := [(9, .int 0), (0, .ref (AD G 0)), (1, .ref (AD G 118)), (2, .ref (AD G 119)), (3, .ref (AD G 120)), (4, .ref (AD G 121)), (5, .ref (AD G 122)), (6, .int x6), (7, .int x7), (8, .int x8)]) F dL_mast_393 (by decide) rfl ?_
      exact go_sub [1, 2, 3, 4, 5, 6, 7, 8, 9, 0] rfl (lb_L_mast_395 F (fun V1 a6 a7 a8 h => ih V1 a6 a7 a8 h) FU_ V x6 x7 x8 0 h)
set_option maxRecDepth 100000 in
set_option maxHeartbeats 4000000 in
theorem lb_L_mast_171 {E : En} {G : Gm} (F : Fx E G (AG G) RL cL_mast 11 (some .boolean) 7 165 0 0) {z : Int32 × Wd} : ∀ (n : Nat) (V : Wd) (x6 : Int32) (x7 : Int32), f_L_mast_171 n V x6 x7 = some z → Go E G (AG G) 0 0 (MQq E G (some (.int z.1)) z.2) 11 V 171 [(0, .ref (AD G 0)), (1, .ref (AD G 118)), (2, .ref (AD G 119)), (3, .ref (AD G 120)), (4, .ref (AD G 121)), (5, .ref (AD G 122)), (6, .int x6), (7, .int x7)] [] := by
  intro n
  induction n with
  | zero => intro V x6 x7 h; cases h
  | succ n ih =>
    intro V x6 x7 h
    rw [f_L_mast_171] at h
    refine go_iload (pc := 171) F dL_mast_171 7 rfl ?_
    refine go_iconst (pc := 173) 5 F dL_mast_173 (by decide) ?_
    refine go_icmp_ge (pc := 174) 377 F dL_mast_174 (by decide) h (fun c5 h => ?_) (fun c5 h => ?_)
    · refine go_aloadn (pc := 377) F dL_mast_377 2 rfl ?_
      obtain ⟨y2, hy2, h⟩ := ob_ h
      refine cv_L_30 (pc := 378) F dL_mast_378 (ct_L_hoists (enL E) G V y2 hy2) (by decide) (by decide) (Nat.le_of_ble_eq_true rfl) ?_
      refine go_istore (pc := 381) (lv' := [(7, .int y2), (0, .ref (AD G 0)), (1, .ref (AD G 118)), (2, .ref (AD G 119)), (3, .ref (AD G 120)), (4, .ref (AD G 121)), (5, .ref (AD G 122)), (6, .int x6)]) F dL_mast_381 (by decide) rfl ?_
      refine go_iconst (pc := 383) 0 F dL_mast_383 (by decide) ?_
      refine go_istore (pc := 384) (lv' := [(8, .int 0), (7, .int y2), (0, .ref (AD G 0)), (1, .ref (AD G 118)), (2, .ref (AD G 119)), (3, .ref (AD G 120)), (4, .ref (AD G 121)), (5, .ref (AD G 122)), (6, .int x6)]) F dL_mast_384 (by decide) rfl ?_
      exact go_sub [2, 3, 4, 5, 6, 7, 8, 1, 0] rfl (lb_L_mast_386 F FU_ V x6 y2 0 h)
    · refine go_aloadn (pc := 177) F dL_mast_177 2 rfl ?_
      refine go_iload (pc := 178) F dL_mast_178 7 rfl ?_
      obtain ⟨y3, hy3, h⟩ := ob_ h
      refine cv_L_12 (pc := 180) F dL_mast_180 (ct_L_many (enL E) G V x7 y3 hy3) (by decide) (by decide) (Nat.le_of_ble_eq_true rfl) ?_
      refine go_istore (pc := 183) (lv' := [(8, .int y3), (0, .ref (AD G 0)), (1, .ref (AD G 118)), (2, .ref (AD G 119)), (3, .ref (AD G 120)), (4, .ref (AD G 121)), (5, .ref (AD G 122)), (6, .int x6), (7, .int x7)]) F dL_mast_183 (by decide) rfl ?_
      refine go_iload (pc := 185) F dL_mast_185 7 rfl ?_
      refine go_iload (pc := 187) F dL_mast_187 0 rfl ?_
      refine go_iadd (pc := 189) F dL_mast_189 ?_
      refine go_topi h (fun y4 h => ?_)
      refine go_istore (pc := 190) (lv' := [(6, .int y4), (8, .int y3), (0, .ref (AD G 0)), (1, .ref (AD G 118)), (2, .ref (AD G 119)), (3, .ref (AD G 120)), (4, .ref (AD G 121)), (5, .ref (AD G 122)), (7, .int x7)]) F dL_mast_190 (by decide) rfl ?_
      refine go_iconst (pc := 192) 0 F dL_mast_192 (by decide) ?_
      refine go_istore (pc := 193) (lv' := [(9, .int 0), (6, .int y4), (8, .int y3), (0, .ref (AD G 0)), (1, .ref (AD G 118)), (2, .ref (AD G 119)), (3, .ref (AD G 120)), (4, .ref (AD G 121)), (5, .ref (AD G 122)), (7, .int x7)]) F dL_mast_193 (by decide) rfl ?_
      exact go_sub [3, 4, 5, 6, 7, 8, 1, 9, 2, 0] rfl (lb_L_mast_195 F (fun V1 a6 a7 h => ih V1 a6 a7 h) FU_ V y4 x7 y3 0 h)
set_option maxRecDepth 100000 in
set_option maxHeartbeats 4000000 in
theorem lb_L_mast_6 {E : En} {G : Gm} (F : Fx E G (AG G) RL cL_mast 11 (some .boolean) 7 165 0 0) {z : Int32 × Wd} : ∀ (n : Nat) (V : Wd) (x6 : Int32) (x7 : Int32), f_L_mast_6 n V x6 x7 = some z → Go E G (AG G) 0 0 (MQq E G (some (.int z.1)) z.2) 11 V 6 [(0, .ref (AD G 0)), (1, .ref (AD G 118)), (2, .ref (AD G 119)), (3, .ref (AD G 120)), (4, .ref (AD G 121)), (5, .ref (AD G 122)), (6, .int x6), (7, .int x7)] [] := by
  intro n
  induction n with
  | zero => intro V x6 x7 h; cases h
  | succ n ih =>
    intro V x6 x7 h
    rw [f_L_mast_6] at h
    refine go_iload (pc := 6) F dL_mast_6 7 rfl ?_
    refine go_bipush (pc := 8) 10 F dL_mast_8 (by decide) ?_
    refine go_icmp_ge (pc := 10) 168 F dL_mast_10 (by decide) h (fun c1 h => ?_) (fun c1 h => ?_)
    · refine go_iconst (pc := 168) 0 F dL_mast_168 (by decide) ?_
      refine go_istore (pc := 169) (lv' := [(7, .int 0), (0, .ref (AD G 0)), (1, .ref (AD G 118)), (2, .ref (AD G 119)), (3, .ref (AD G 120)), (4, .ref (AD G 121)), (5, .ref (AD G 122)), (6, .int x6)]) F dL_mast_169 (by decide) rfl ?_
      exact go_sub [1, 2, 3, 4, 5, 6, 7, 0] rfl (lb_L_mast_171 F FU_ V x6 0 h)
    · refine go_bipush (pc := 13) (-6) F dL_mast_13 (by decide) ?_
      refine go_istore (pc := 15) (lv' := [(8, .int (-6)), (0, .ref (AD G 0)), (1, .ref (AD G 118)), (2, .ref (AD G 119)), (3, .ref (AD G 120)), (4, .ref (AD G 121)), (5, .ref (AD G 122)), (6, .int x6), (7, .int x7)]) F dL_mast_15 (by decide) rfl ?_
      refine go_bipush (pc := 17) 9 F dL_mast_17 (by decide) ?_
      refine go_istore (pc := 19) (lv' := [(9, .int 9), (8, .int (-6)), (0, .ref (AD G 0)), (1, .ref (AD G 118)), (2, .ref (AD G 119)), (3, .ref (AD G 120)), (4, .ref (AD G 121)), (5, .ref (AD G 122)), (6, .int x6), (7, .int x7)]) F dL_mast_19 (by decide) rfl ?_
      exact go_sub [2, 3, 4, 5, 6, 7, 8, 9, 1, 0] rfl (lb_L_mast_21 F (fun V1 a6 a7 h => ih V1 a6 a7 h) FU_ V x6 x7 (-6) 9 h)
set_option maxRecDepth 100000 in
set_option maxHeartbeats 4000000 in
theorem ct_L_mast (l : Launch) (G : Gm) (V : Wd) (z : Int32 × Wd) (h : f_L_mast V = some z) : Ct l G yL_mast cL_mast 11 (some .boolean) 7 165 [.ref (AD G 0), .ref (AD G 118), .ref (AD G 119), .ref (AD G 120), .ref (AD G 121), .ref (AD G 122)] V (some (.int z.1)) z.2 := by
  refine Ct.of (own := RL) (by decide +kernel) rfl (Nat.le_of_ble_eq_true rfl) (fun E F he => ?_)
  clear he
  refine go_sub (lv' := [(0, .ref (AD G 0)), (1, .ref (AD G 118)), (2, .ref (AD G 119)), (3, .ref (AD G 120)), (4, .ref (AD G 121)), (5, .ref (AD G 122))]) [0, 1, 2, 3, 4, 5] rfl ?_
  unfold f_L_mast at h
  refine go_iconst (pc := 0) 0 F dL_mast_0 (by decide) ?_
  refine go_istore (pc := 1) (lv' := [(6, .int 0), (0, .ref (AD G 0)), (1, .ref (AD G 118)), (2, .ref (AD G 119)), (3, .ref (AD G 120)), (4, .ref (AD G 121)), (5, .ref (AD G 122))]) F dL_mast_1 (by decide) rfl ?_
  refine go_iconst (pc := 3) 0 F dL_mast_3 (by decide) ?_
  refine go_istore (pc := 4) (lv' := [(7, .int 0), (6, .int 0), (0, .ref (AD G 0)), (1, .ref (AD G 118)), (2, .ref (AD G 119)), (3, .ref (AD G 120)), (4, .ref (AD G 121)), (5, .ref (AD G 122))]) F dL_mast_4 (by decide) rfl ?_
  exact go_sub [2, 3, 4, 5, 6, 7, 1, 0] rfl (lb_L_mast_6 F FU_ V 0 0 h)

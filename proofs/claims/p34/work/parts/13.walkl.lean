set_option maxRecDepth 100000 in
set_option maxHeartbeats 4000000 in
theorem ct_L_low (l : Launch) (G : Gm) (V : Wd) (x0 : Int32) (x1 : Int32) (z : Int32) (h : f_L_low x0 x1 = some z) : Ct l G yL_low cL_low 2 (some .int) 0 0 [.int x0, .int x1] V (some (.int z)) V := by
  refine Ct.of (own := RL) (by decide +kernel) rfl (Nat.le_of_ble_eq_true rfl) (fun E F he => ?_)
  clear he
  refine go_sub (lv' := [(0, .int x0), (1, .int x1)]) [0, 1] rfl ?_
  unfold f_L_low at h
  refine go_iloadn (pc := 0) F dL_low_0 0 rfl ?_
  refine go_ldc (pc := 1) F dL_low_1 kc_L_9 ?_
  refine go_iand (pc := 3) F dL_low_3 ?_
  refine go_iloadn (pc := 4) F dL_low_4 1 rfl ?_
  refine go_gn h (fun hy h => ?_)
  refine go_irem (pc := 5) F dL_low_5 hy ?_
  exact go_iretR (pc := 6) F dL_low_6 h
set_option maxRecDepth 100000 in
set_option maxHeartbeats 4000000 in
theorem lb_L_many_2 {E : En} {G : Gm} (F : Fx E G (AG G) RL cL_many 3 (some .int) 0 0 0 0) {V : Wd} {x1 : Int32} {z : Int32} : ∀ (n : Nat) (x2 : Int32), f_L_many_2 V x1 n x2 = some z → Go E G (AG G) 0 0 (MQq E G (some (.int z)) V) 3 V 2 [(0, .ref (AD G 119)), (1, .int x1), (2, .int x2)] [] := by
  intro n
  induction n with
  | zero => intro x2 h; cases h
  | succ n ih =>
    intro x2 h
    rw [f_L_many_2] at h
    refine go_iloadn (pc := 2) F dL_many_2 2 rfl ?_
    refine go_iconst (pc := 3) 4 F dL_many_3 (by decide) ?_
    refine go_icmp_ge (pc := 4) 23 F dL_many_4 (by decide) h (fun c3 h => ?_) (fun c3 h => ?_)
    · refine go_iloadn (pc := 23) F dL_many_23 2 rfl ?_
      exact go_iretR (pc := 24) F dL_many_24 h
    · refine go_aloadn (pc := 7) F dL_many_7 0 rfl ?_
      refine go_iconst (pc := 8) 4 F dL_many_8 (by decide) ?_
      refine go_iloadn (pc := 9) F dL_many_9 1 rfl ?_
      refine go_imul (pc := 10) F dL_many_10 ?_
      refine go_iloadn (pc := 11) F dL_many_11 2 rfl ?_
      refine go_iadd (pc := 12) F dL_many_12 ?_
      refine go_jald (pc := 13) 119 20 F dL_many_13 (by decide) (fun _ => rfl) h (fun y1 h => ?_)
      refine go_if_lt (pc := 14) 23 F dL_many_14 (by decide) h (fun c2 h => ?_) (fun c2 h => ?_)
      · refine go_iloadn (pc := 23) F dL_many_23 2 rfl ?_
        exact go_iretR (pc := 24) F dL_many_24 h
      · refine go_iinc (pc := 17) (x2 + 1) (lv' := [(2, .int (x2 + 1)), (0, .ref (AD G 119)), (1, .int x1)]) F dL_many_17 (k := 2) rfl rfl (by decide) rfl ?_
        refine go_goto (pc := 20) 2 F dL_many_20 (by decide) ?_
        exact go_sub [1, 2, 0] rfl (ih (x2 + 1) h)
set_option maxRecDepth 100000 in
set_option maxHeartbeats 4000000 in
theorem ct_L_many (l : Launch) (G : Gm) (V : Wd) (x1 : Int32) (z : Int32) (h : f_L_many V x1 = some z) : Ct l G yL_many cL_many 3 (some .int) 0 0 [.ref (AD G 119), .int x1] V (some (.int z)) V := by
  refine Ct.of (own := RL) (by decide +kernel) rfl (Nat.le_of_ble_eq_true rfl) (fun E F he => ?_)
  clear he
  refine go_sub (lv' := [(0, .ref (AD G 119)), (1, .int x1)]) [0, 1] rfl ?_
  unfold f_L_many at h
  refine go_iconst (pc := 0) 0 F dL_many_0 (by decide) ?_
  refine go_istoren (pc := 1) (lv' := [(2, .int 0), (0, .ref (AD G 119)), (1, .int x1)]) F dL_many_1 (by decide) rfl ?_
  exact go_sub [1, 2, 0] rfl (lb_L_many_2 F FU_ 0 h)
set_option maxRecDepth 100000 in
set_option maxHeartbeats 4000000 in
theorem lb_L_stands_11 {E : En} {G : Gm} (F : Fx E G (AG G) RL cL_stands 5 (some .int) 0 0 0 0) {V : Wd} {x1 : Int32} {x2 : Int32} {z : Int32} : ∀ (n : Nat) (x3 : Int32) (x4 : Int32), f_L_stands_11 V x1 x2 n x3 x4 = some z → Go E G (AG G) 0 0 (MQq E G (some (.int z)) V) 5 V 11 [(0, .ref (AD G 119)), (1, .int x1), (3, .int x3), (4, .int x4)] [] := by
  intro n
  induction n with
  | zero => intro x3 x4 h; cases h
  | succ n ih =>
    intro x3 x4 h
    rw [f_L_stands_11] at h
    refine go_iload (pc := 11) F dL_stands_11 3 rfl ?_
    refine go_iconst (pc := 13) 4 F dL_stands_13 (by decide) ?_
    refine go_icmp_ge (pc := 14) 40 F dL_stands_14 (by decide) h (fun c4 h => ?_) (fun c4 h => ?_)
    · refine go_iloadn (pc := 40) F dL_stands_40 2 rfl ?_
      exact go_iretR (pc := 41) F dL_stands_41 h
    · refine go_iloadn (pc := 17) F dL_stands_17 2 rfl ?_
      refine go_bipush (pc := 18) 9 F dL_stands_18 (by decide) ?_
      refine go_icmp_le (pc := 20) 40 F dL_stands_20 (by decide) h (fun c3 h => ?_) (fun c3 h => ?_)
      · refine go_iloadn (pc := 40) F dL_stands_40 2 rfl ?_
        exact go_iretR (pc := 41) F dL_stands_41 h
      · refine go_aloadn (pc := 23) F dL_stands_23 0 rfl ?_
        refine go_iconst (pc := 24) 4 F dL_stands_24 (by decide) ?_
        refine go_iloadn (pc := 25) F dL_stands_25 1 rfl ?_
        refine go_imul (pc := 26) F dL_stands_26 ?_
        refine go_iloadn (pc := 27) F dL_stands_27 2 rfl ?_
        refine go_iadd (pc := 28) F dL_stands_28 ?_
        refine go_bipush (pc := 29) 11 F dL_stands_29 (by decide) ?_
        refine go_isub (pc := 31) F dL_stands_31 ?_
        refine go_jald (pc := 32) 119 20 F dL_stands_32 (by decide) (fun _ => rfl) h (fun y2 h => ?_)
        refine go_istoren (pc := 33) (lv' := [(3, .int y2), (0, .ref (AD G 119)), (1, .int x1), (4, .int x4)]) F dL_stands_33 (by decide) rfl ?_
        refine go_iinc (pc := 34) (x4 + 1) (lv' := [(4, .int (x4 + 1)), (3, .int y2), (0, .ref (AD G 119)), (1, .int x1)]) F dL_stands_34 (k := 3) rfl rfl (by decide) rfl ?_
        refine go_goto (pc := 37) 11 F dL_stands_37 (by decide) ?_
        exact go_sub [2, 3, 1, 0] rfl (ih y2 (x4 + 1) h)
set_option maxRecDepth 100000 in
set_option maxHeartbeats 4000000 in
theorem ct_L_stands (l : Launch) (G : Gm) (V : Wd) (x1 : Int32) (x2 : Int32) (z : Int32) (h : f_L_stands V x1 x2 = some z) : Ct l G yL_stands cL_stands 5 (some .int) 0 0 [.ref (AD G 119), .int x1, .int x2] V (some (.int z)) V := by
  refine Ct.of (own := RL) (by decide +kernel) rfl (Nat.le_of_ble_eq_true rfl) (fun E F he => ?_)
  clear he
  refine go_sub (lv' := [(0, .ref (AD G 119)), (1, .int x1), (2, .int x2)]) [0, 1, 2] rfl ?_
  unfold f_L_stands at h
  refine go_aloadn (pc := 0) F dL_stands_0 0 rfl ?_
  refine go_iconst (pc := 1) 4 F dL_stands_1 (by decide) ?_
  refine go_iloadn (pc := 2) F dL_stands_2 1 rfl ?_
  refine go_imul (pc := 3) F dL_stands_3 ?_
  refine go_iloadn (pc := 4) F dL_stands_4 2 rfl ?_
  refine go_iadd (pc := 5) F dL_stands_5 ?_
  refine go_jald (pc := 6) 119 20 F dL_stands_6 (by decide) (fun _ => rfl) h (fun y1 h => ?_)
  refine go_istoren (pc := 7) (lv' := [(3, .int y1), (0, .ref (AD G 119)), (1, .int x1), (2, .int x2)]) F dL_stands_7 (by decide) rfl ?_
  refine go_iconst (pc := 8) 0 F dL_stands_8 (by decide) ?_
  refine go_istore (pc := 9) (lv' := [(4, .int 0), (3, .int y1), (0, .ref (AD G 119)), (1, .int x1), (2, .int x2)]) F dL_stands_9 (by decide) rfl ?_
  exact go_sub [2, 3, 1, 0] rfl (lb_L_stands_11 F FU_ y1 0 h)
set_option maxRecDepth 100000 in
set_option maxHeartbeats 4000000 in
theorem lb_L_taken_49 {E : En} {G : Gm} (F : Fx E G (AG G) RL cL_taken 6 (some .int) 0 0 0 0) {V : Wd} {x2 : Int32} {x3 : Int32} {z : Int32} : ∀ (n : Nat) (x4 : Int32) (x5 : Int32), f_L_taken_49 V x2 x3 n x4 x5 = some z → Go E G (AG G) 0 0 (MQq E G (some (.int z)) V) 6 V 49 [(0, .ref (AD G 118)), (1, .ref (AD G 122)), (3, .int x3), (4, .int x4), (5, .int x5)] [] := by
  intro n
  induction n with
  | zero => intro x4 x5 h; cases h
  | succ n ih =>
    intro x4 x5 h
    rw [f_L_taken_49] at h
    refine go_iload (pc := 49) F dL_taken_49 4 rfl ?_
    refine go_bipush (pc := 51) 10 F dL_taken_51 (by decide) ?_
    refine go_icmp_ge (pc := 53) 101 F dL_taken_53 (by decide) h (fun c15 h => ?_) (fun c15 h => ?_)
    · refine go_bipush (pc := 101) (-6) F dL_taken_101 (by decide) ?_
      exact go_iretR (pc := 103) F dL_taken_103 h
    · refine go_aloadn (pc := 56) F dL_taken_56 0 rfl ?_
      refine go_iconst (pc := 57) 3 F dL_taken_57 (by decide) ?_
      refine go_iloadn (pc := 58) F dL_taken_58 2 rfl ?_
      refine go_imul (pc := 59) F dL_taken_59 ?_
      refine go_iconst (pc := 60) 2 F dL_taken_60 (by decide) ?_
      refine go_iadd (pc := 61) F dL_taken_61 ?_
      refine go_jald (pc := 62) 118 30 F dL_taken_62 (by decide) (fun _ => rfl) h (fun y9 h => ?_)
      refine go_aloadn (pc := 63) F dL_taken_63 1 rfl ?_
      refine go_iconst (pc := 64) 1 F dL_taken_64 (by decide) ?_
      refine go_jald (pc := 65) 122 7 F dL_taken_65 (by decide) (fun _ => rfl) h (fun y10 h => ?_)
      refine go_icmp_gt (pc := 66) 101 F dL_taken_66 (by decide) h (fun c14 h => ?_) (fun c14 h => ?_)
      · refine go_bipush (pc := 101) (-6) F dL_taken_101 (by decide) ?_
        exact go_iretR (pc := 103) F dL_taken_103 h
      · refine go_bipush (pc := 69) 10 F dL_taken_69 (by decide) ?_
        refine go_aloadn (pc := 71) F dL_taken_71 0 rfl ?_
        refine go_iconst (pc := 72) 3 F dL_taken_72 (by decide) ?_
        refine go_iload (pc := 73) F dL_taken_73 4 rfl ?_
        refine go_imul (pc := 75) F dL_taken_75 ?_
        refine go_jald (pc := 76) 118 30 F dL_taken_76 (by decide) (fun _ => rfl) h (fun y11 h => ?_)
        refine go_imul (pc := 77) F dL_taken_77 ?_
        refine go_aloadn (pc := 78) F dL_taken_78 0 rfl ?_
        refine go_iconst (pc := 79) 3 F dL_taken_79 (by decide) ?_
        refine go_iload (pc := 80) F dL_taken_80 4 rfl ?_
        refine go_imul (pc := 82) F dL_taken_82 ?_
        refine go_iconst (pc := 83) 1 F dL_taken_83 (by decide) ?_
        refine go_iadd (pc := 84) F dL_taken_84 ?_
        refine go_jald (pc := 85) 118 30 F dL_taken_85 (by decide) (fun _ => rfl) h (fun y12 h => ?_)
        refine go_iadd (pc := 86) F dL_taken_86 ?_
        refine go_iload (pc := 87) F dL_taken_87 3 rfl ?_
        refine go_icmp_ne (pc := 89) 95 F dL_taken_89 (by decide) h (fun c13 h => ?_) (fun c13 h => ?_)
        · refine go_iinc (pc := 95) (x5 + 1) (lv' := [(5, .int (x5 + 1)), (0, .ref (AD G 118)), (1, .ref (AD G 122)), (3, .int x3), (4, .int x4)]) F dL_taken_95 (k := 4) rfl rfl (by decide) rfl ?_
          refine go_goto (pc := 98) 49 F dL_taken_98 (by decide) ?_
          exact go_sub [1, 2, 3, 4, 0] rfl (ih x4 (x5 + 1) h)
        · refine go_iload (pc := 92) F dL_taken_92 4 rfl ?_
          exact go_iretR (pc := 94) F dL_taken_94 h
set_option maxRecDepth 100000 in
set_option maxHeartbeats 4000000 in
theorem ct_L_taken (l : Launch) (G : Gm) (V : Wd) (x2 : Int32) (x3 : Int32) (z : Int32) (h : f_L_taken V x2 x3 = some z) : Ct l G yL_taken cL_taken 6 (some .int) 0 0 [.ref (AD G 118), .ref (AD G 122), .int x2, .int x3] V (some (.int z)) V := by
  refine Ct.of (own := RL) (by decide +kernel) rfl (Nat.le_of_ble_eq_true rfl) (fun E F he => ?_)
  clear he
  refine go_sub (lv' := [(0, .ref (AD G 118)), (1, .ref (AD G 122)), (2, .int x2), (3, .int x3)]) [0, 1, 2, 3] rfl ?_
  unfold f_L_taken at h
  refine go_iloadn (pc := 0) F dL_taken_0 2 rfl ?_
  refine go_aloadn (pc := 1) F dL_taken_1 1 rfl ?_
  refine go_iconst (pc := 2) 2 F dL_taken_2 (by decide) ?_
  refine go_jald (pc := 3) 122 7 F dL_taken_3 (by decide) (fun _ => rfl) h (fun y1 h => ?_)
  refine go_iadd (pc := 4) F dL_taken_4 ?_
  refine go_iconst (pc := 5) 1 F dL_taken_5 (by decide) ?_
  refine go_icmp_ne (pc := 6) 28 F dL_taken_6 (by decide) h (fun c8 h => ?_) (fun c8 h => ?_)
  · refine go_bipush (pc := 28) 10 F dL_taken_28 (by decide) ?_
    refine go_aloadn (pc := 30) F dL_taken_30 0 rfl ?_
    refine go_iconst (pc := 31) 3 F dL_taken_31 (by decide) ?_
    refine go_iloadn (pc := 32) F dL_taken_32 3 rfl ?_
    refine go_imul (pc := 33) F dL_taken_33 ?_
    refine go_jald (pc := 34) 118 30 F dL_taken_34 (by decide) (fun _ => rfl) h (fun y2 h => ?_)
    refine go_imul (pc := 35) F dL_taken_35 ?_
    refine go_aloadn (pc := 36) F dL_taken_36 0 rfl ?_
    refine go_iconst (pc := 37) 3 F dL_taken_37 (by decide) ?_
    refine go_iloadn (pc := 38) F dL_taken_38 3 rfl ?_
    refine go_imul (pc := 39) F dL_taken_39 ?_
    refine go_iconst (pc := 40) 1 F dL_taken_40 (by decide) ?_
    refine go_iadd (pc := 41) F dL_taken_41 ?_
    refine go_jald (pc := 42) 118 30 F dL_taken_42 (by decide) (fun _ => rfl) h (fun y3 h => ?_)
    refine go_iadd (pc := 43) F dL_taken_43 ?_
    refine go_topi h (fun y4 h => ?_)
    refine go_istore (pc := 44) (lv' := [(4, .int y4), (0, .ref (AD G 118)), (1, .ref (AD G 122)), (2, .int x2), (3, .int x3)]) F dL_taken_44 (by decide) rfl ?_
    refine go_iconst (pc := 46) 0 F dL_taken_46 (by decide) ?_
    refine go_istore (pc := 47) (lv' := [(5, .int 0), (4, .int y4), (0, .ref (AD G 118)), (1, .ref (AD G 122)), (2, .int x2), (3, .int x3)]) F dL_taken_47 (by decide) rfl ?_
    exact go_sub [2, 3, 5, 1, 0] rfl (lb_L_taken_49 F FU_ y4 0 h)
  · refine go_bipush (pc := 9) 10 F dL_taken_9 (by decide) ?_
    refine go_aloadn (pc := 11) F dL_taken_11 0 rfl ?_
    refine go_iconst (pc := 12) 3 F dL_taken_12 (by decide) ?_
    refine go_iloadn (pc := 13) F dL_taken_13 3 rfl ?_
    refine go_imul (pc := 14) F dL_taken_14 ?_
    refine go_iconst (pc := 15) 1 F dL_taken_15 (by decide) ?_
    refine go_iadd (pc := 16) F dL_taken_16 ?_
    refine go_jald (pc := 17) 118 30 F dL_taken_17 (by decide) (fun _ => rfl) h (fun y5 h => ?_)
    refine go_imul (pc := 18) F dL_taken_18 ?_
    refine go_aloadn (pc := 19) F dL_taken_19 0 rfl ?_
    refine go_iconst (pc := 20) 3 F dL_taken_20 (by decide) ?_
    refine go_iloadn (pc := 21) F dL_taken_21 3 rfl ?_
    refine go_imul (pc := 22) F dL_taken_22 ?_
    refine go_jald (pc := 23) 118 30 F dL_taken_23 (by decide) (fun _ => rfl) h (fun y6 h => ?_)
    refine go_iadd (pc := 24) F dL_taken_24 ?_
    refine go_goto (pc := 25) 44 F dL_taken_25 (by decide) ?_
    refine go_topi h (fun y7 h => ?_)
    refine go_istore (pc := 44) (lv' := [(4, .int y7), (0, .ref (AD G 118)), (1, .ref (AD G 122)), (2, .int x2), (3, .int x3)]) F dL_taken_44 (by decide) rfl ?_
    refine go_iconst (pc := 46) 0 F dL_taken_46 (by decide) ?_
    refine go_istore (pc := 47) (lv' := [(5, .int 0), (4, .int y7), (0, .ref (AD G 118)), (1, .ref (AD G 122)), (2, .int x2), (3, .int x3)]) F dL_taken_47 (by decide) rfl ?_
    exact go_sub [2, 3, 5, 1, 0] rfl (lb_L_taken_49 F FU_ y7 0 h)
set_option maxRecDepth 100000 in
set_option maxHeartbeats 4000000 in
theorem lb_L_word_76 {E : En} {G : Gm} (F : Fx E G (AG G) RL cL_word 10 (some .int) 1 25 0 0) {V : Wd} {x4 : Int32} {x5 : Int32} {K3 : Int32 → Option (Int32)} {K32 : Int32 → Int32 → Int32 → Int32 → Option (Int32)} {z : Int32} (hK3 : ∀ (a6 : Int32), K3 a6 = some z → Go E G (AG G) 0 0 (MQq E G (some (.int z)) V) 10 V 3 [(0, .ref (AD G 118)), (1, .ref (AD G 119)), (2, .ref (AD G 120)), (3, .ref (AD G 122)), (4, .int x4), (5, .int x5), (6, .int a6)] []) (hK32 : ∀ (a6 : Int32) (a7 : Int32) (a8 : Int32) (a9 : Int32), K32 a6 a7 a8 a9 = some z → Go E G (AG G) 0 0 (MQq E G (some (.int z)) V) 10 V 32 [(0, .ref (AD G 118)), (1, .ref (AD G 119)), (2, .ref (AD G 120)), (3, .ref (AD G 122)), (4, .int x4), (5, .int x5), (6, .int a6), (7, .int a7), (8, .int a8), (9, .int a9)] []) (x6 : Int32) (x7 : Int32) (x9 : Int32) (h : f_L_word_76 V x4 x5 K3 K32 x6 x7 x9 = some z) : Go E G (AG G) 0 0 (MQq E G (some (.int z)) V) 10 V 76 [(0, .ref (AD G 118)), (1, .ref (AD G 119)), (2, .ref (AD G 120)), (3, .ref (AD G 122)), (4, .int x4), (5, .int x5), (6, .int x6), (7, .int x7), (9, .int x9)] [] := by
  unfold f_L_word_76 at h
  refine go_iconst (pc := 76) 0 F dL_word_76 (by decide) ?_
  refine go_istore (pc := 77) (lv' := [(8, .int 0), (0, .ref (AD G 118)), (1, .ref (AD G 119)), (2, .ref (AD G 120)), (3, .ref (AD G 122)), (4, .int x4), (5, .int x5), (6, .int x6), (7, .int x7), (9, .int x9)]) F dL_word_77 (by decide) rfl ?_
  refine go_iload (pc := 79) F dL_word_79 8 rfl ?_
  refine go_bipush (pc := 81) 10 F dL_word_81 (by decide) ?_
  refine go_idiv (pc := 83) F dL_word_83 (by decide) ?_
  refine go_topi h (fun y15 h => ?_)
  refine go_istore (pc := 84) (lv' := [(7, .int y15), (8, .int 0), (0, .ref (AD G 118)), (1, .ref (AD G 119)), (2, .ref (AD G 120)), (3, .ref (AD G 122)), (4, .int x4), (5, .int x5), (6, .int x6), (9, .int x9)]) F dL_word_84 (by decide) rfl ?_
  refine go_iinc (pc := 86) (x9 + (-1)) (lv' := [(9, .int (x9 + (-1))), (7, .int y15), (8, .int 0), (0, .ref (AD G 118)), (1, .ref (AD G 119)), (2, .ref (AD G 120)), (3, .ref (AD G 122)), (4, .int x4), (5, .int x5), (6, .int x6)]) F dL_word_86 (k := 9) rfl rfl (by decide) rfl ?_
  refine go_goto (pc := 89) 32 F dL_word_89 (by decide) ?_
  exact go_sub [3, 4, 5, 6, 7, 8, 9, 1, 2, 0] rfl (hK32 x6 y15 0 (x9 + (-1)) h)
set_option maxRecDepth 100000 in
set_option maxHeartbeats 4000000 in
theorem lb_L_word_103 {E : En} {G : Gm} (F : Fx E G (AG G) RL cL_word 10 (some .int) 1 25 0 0) {V : Wd} {x4 : Int32} {x5 : Int32} {z : Int32} (x6 : Int32) (h : f_L_word_103 V x4 x5 x6 = some z) : Go E G (AG G) 0 0 (MQq E G (some (.int z)) V) 10 V 103 [(2, .ref (AD G 120)), (6, .int x6)] [] := by
  unfold f_L_word_103 at h
  refine go_aloadn (pc := 103) F dL_word_103 0 rfl ?_
  refine go_iconst (pc := 104) 2 F dL_word_104 (by decide) ?_
  refine go_iload (pc := 105) F dL_word_105 1 rfl ?_
  refine go_imul (pc := 107) F dL_word_107 ?_
  refine go_iconst (pc := 108) 1 F dL_word_108 (by decide) ?_
  refine go_iadd (pc := 109) F dL_word_109 ?_
  refine go_jald (pc := 110) 120 24 F dL_word_110 (by decide) (fun _ => rfl) h (fun y16 h => ?_)
  exact go_iretR (pc := 111) F dL_word_111 h
set_option maxRecDepth 100000 in
set_option maxHeartbeats 4000000 in
theorem lb_L_word_92 {E : En} {G : Gm} (F : Fx E G (AG G) RL cL_word 10 (some .int) 1 25 0 0) {V : Wd} {x4 : Int32} {x5 : Int32} {K3 : Int32 → Option (Int32)} {z : Int32} (hK3 : ∀ (a6 : Int32), K3 a6 = some z → Go E G (AG G) 0 0 (MQq E G (some (.int z)) V) 10 V 3 [(0, .ref (AD G 118)), (1, .ref (AD G 119)), (2, .ref (AD G 120)), (3, .ref (AD G 122)), (4, .int x4), (5, .int x5), (6, .int a6)] []) (x6 : Int32) (x7 : Int32) (x8 : Int32) (h : f_L_word_92 V x4 x5 K3 x6 x7 x8 = some z) : Go E G (AG G) 0 0 (MQq E G (some (.int z)) V) 10 V 92 [(0, .ref (AD G 118)), (1, .ref (AD G 119)), (2, .ref (AD G 120)), (3, .ref (AD G 122)), (4, .int x4), (5, .int x5), (6, .int x6), (7, .int x7), (8, .int x8)] [] := by
  unfold f_L_word_92 at h
  refine go_iload (pc := 92) F dL_word_92 8 rfl ?_
  refine go_if_eq (pc := 94) 112 F dL_word_94 (by decide) h (fun c14 h => ?_) (fun c14 h => ?_)
  · refine go_iinc (pc := 112) (x6 + 1) (lv' := [(6, .int (x6 + 1)), (0, .ref (AD G 118)), (1, .ref (AD G 119)), (2, .ref (AD G 120)), (3, .ref (AD G 122)), (4, .int x4), (5, .int x5), (7, .int x7), (8, .int x8)]) F dL_word_112 (k := 6) rfl rfl (by decide) rfl ?_
    refine go_goto (pc := 115) 3 F dL_word_115 (by decide) ?_
    exact go_sub [1, 2, 3, 4, 5, 6, 0] rfl (hK3 (x6 + 1) h)
  · refine go_iload (pc := 97) F dL_word_97 7 rfl ?_
    refine go_iconst (pc := 99) 1 F dL_word_99 (by decide) ?_
    refine go_icmp_ne (pc := 100) 112 F dL_word_100 (by decide) h (fun c13 h => ?_) (fun c13 h => ?_)
    · refine go_iinc (pc := 112) (x6 + 1) (lv' := [(6, .int (x6 + 1)), (0, .ref (AD G 118)), (1, .ref (AD G 119)), (2, .ref (AD G 120)), (3, .ref (AD G 122)), (4, .int x4), (5, .int x5), (7, .int x7), (8, .int x8)]) F dL_word_112 (k := 6) rfl rfl (by decide) rfl ?_
      refine go_goto (pc := 115) 3 F dL_word_115 (by decide) ?_
      exact go_sub [1, 2, 3, 4, 5, 6, 0] rfl (hK3 (x6 + 1) h)
    · exact go_sub [2, 6] rfl (lb_L_word_103 F x6 h)
set_option maxRecDepth 100000 in
set_option maxHeartbeats 4000000 in
theorem lb_L_word_32 {E : En} {G : Gm} (F : Fx E G (AG G) RL cL_word 10 (some .int) 1 25 0 0) {V : Wd} {x4 : Int32} {x5 : Int32} {K3 : Int32 → Option (Int32)} {z : Int32} (hK3 : ∀ (a6 : Int32), K3 a6 = some z → Go E G (AG G) 0 0 (MQq E G (some (.int z)) V) 10 V 3 [(0, .ref (AD G 118)), (1, .ref (AD G 119)), (2, .ref (AD G 120)), (3, .ref (AD G 122)), (4, .int x4), (5, .int x5), (6, .int a6)] []) : ∀ (n : Nat) (x6 : Int32) (x7 : Int32) (x8 : Int32) (x9 : Int32), f_L_word_32 V x4 x5 K3 n x6 x7 x8 x9 = some z → Go E G (AG G) 0 0 (MQq E G (some (.int z)) V) 10 V 32 [(0, .ref (AD G 118)), (1, .ref (AD G 119)), (2, .ref (AD G 120)), (3, .ref (AD G 122)), (4, .int x4), (5, .int x5), (6, .int x6), (7, .int x7), (8, .int x8), (9, .int x9)] [] := by
  intro n
  induction n with
  | zero => intro x6 x7 x8 x9 h; cases h
  | succ n ih =>
    intro x6 x7 x8 x9 h
    rw [f_L_word_32] at h
    refine go_iload (pc := 32) F dL_word_32 9 rfl ?_
    refine go_if_lt (pc := 34) 92 F dL_word_34 (by decide) h (fun c12 h => ?_) (fun c12 h => ?_)
    · exact go_sub [0, 1, 2, 3, 4, 5, 6, 7, 8] rfl (lb_L_word_92 F hK3 x6 x7 x8 h)
    · refine go_iload (pc := 37) F dL_word_37 8 rfl ?_
      refine go_if_eq (pc := 39) 76 F dL_word_39 (by decide) h (fun c11 h => ?_) (fun c11 h => ?_)
      · exact go_sub [0, 1, 2, 3, 4, 5, 6, 7, 9] rfl (lb_L_word_76 F hK3 (fun a6 a7 a8 a9 h => ih a6 a7 a8 a9 h) x6 x7 x9 h)
      · refine go_iload (pc := 42) F dL_word_42 7 rfl ?_
        refine go_bipush (pc := 44) 10 F dL_word_44 (by decide) ?_
        refine go_irem (pc := 46) F dL_word_46 (by decide) ?_
        refine go_aloadn (pc := 47) F dL_word_47 0 rfl ?_
        refine go_aloadn (pc := 48) F dL_word_48 3 rfl ?_
        refine go_iload (pc := 49) F dL_word_49 4 rfl ?_
        refine go_aloadn (pc := 51) F dL_word_51 1 rfl ?_
        refine go_iload (pc := 52) F dL_word_52 5 rfl ?_
        refine go_iload (pc := 54) F dL_word_54 9 rfl ?_
        obtain ⟨y6, hy6, h⟩ := ob_ h
        refine cv_L_18 (pc := 56) F dL_word_56 (ct_L_stands (enL E) G V x5 x9 y6 hy6) (by decide) (by decide) (Nat.le_of_ble_eq_true rfl) ?_
        obtain ⟨y7, hy7, h⟩ := ob_ h
        refine cv_L_22 (pc := 59) F dL_word_59 (ct_L_taken (enL E) G V x4 y6 y7 hy7) (by decide) (by decide) (Nat.le_of_ble_eq_true rfl) ?_
        refine go_icmp_ne (pc := 62) 76 F dL_word_62 (by decide) h (fun c10 h => ?_) (fun c10 h => ?_)
        · exact go_sub [0, 1, 2, 3, 4, 5, 6, 7, 9] rfl (lb_L_word_76 F hK3 (fun a6 a7 a8 a9 h => ih a6 a7 a8 a9 h) x6 x7 x9 h)
        · refine go_iload (pc := 65) F dL_word_65 7 rfl ?_
          refine go_bipush (pc := 67) 9 F dL_word_67 (by decide) ?_
          refine go_icmp_le (pc := 69) 76 F dL_word_69 (by decide) h (fun c9 h => ?_) (fun c9 h => ?_)
          · exact go_sub [0, 1, 2, 3, 4, 5, 6, 7, 9] rfl (lb_L_word_76 F hK3 (fun a6 a7 a8 a9 h => ih a6 a7 a8 a9 h) x6 x7 x9 h)
          · refine go_iconst (pc := 72) 1 F dL_word_72 (by decide) ?_
            refine go_goto (pc := 73) 77 F dL_word_73 (by decide) ?_
            refine go_istore (pc := 77) (lv' := [(8, .int 1), (0, .ref (AD G 118)), (1, .ref (AD G 119)), (2, .ref (AD G 120)), (3, .ref (AD G 122)), (4, .int x4), (5, .int x5), (6, .int x6), (7, .int x7), (9, .int x9)]) F dL_word_77 (by decide) rfl ?_
            refine go_iload (pc := 79) F dL_word_79 8 rfl ?_
            refine go_bipush (pc := 81) 10 F dL_word_81 (by decide) ?_
            refine go_idiv (pc := 83) F dL_word_83 (by decide) ?_
            refine go_topi h (fun y8 h => ?_)
            refine go_istore (pc := 84) (lv' := [(7, .int y8), (8, .int 1), (0, .ref (AD G 118)), (1, .ref (AD G 119)), (2, .ref (AD G 120)), (3, .ref (AD G 122)), (4, .int x4), (5, .int x5), (6, .int x6), (9, .int x9)]) F dL_word_84 (by decide) rfl ?_
            refine go_iinc (pc := 86) (x9 + (-1)) (lv' := [(9, .int (x9 + (-1))), (7, .int y8), (8, .int 1), (0, .ref (AD G 118)), (1, .ref (AD G 119)), (2, .ref (AD G 120)), (3, .ref (AD G 122)), (4, .int x4), (5, .int x5), (6, .int x6)]) F dL_word_86 (k := 9) rfl rfl (by decide) rfl ?_
            refine go_goto (pc := 89) 32 F dL_word_89 (by decide) ?_
            exact go_sub [3, 4, 5, 6, 7, 8, 9, 1, 2, 0] rfl (ih x6 y8 1 (x9 + (-1)) h)
set_option maxRecDepth 100000 in
set_option maxHeartbeats 4000000 in
theorem lb_L_word_3 {E : En} {G : Gm} (F : Fx E G (AG G) RL cL_word 10 (some .int) 1 25 0 0) {V : Wd} {x4 : Int32} {x5 : Int32} {z : Int32} : ∀ (n : Nat) (x6 : Int32), f_L_word_3 V x4 x5 n x6 = some z → Go E G (AG G) 0 0 (MQq E G (some (.int z)) V) 10 V 3 [(0, .ref (AD G 118)), (1, .ref (AD G 119)), (2, .ref (AD G 120)), (3, .ref (AD G 122)), (4, .int x4), (5, .int x5), (6, .int x6)] [] := by
  intro n
  induction n with
  | zero => intro x6 h; cases h
  | succ n ih =>
    intro x6 h
    rw [f_L_word_3] at h
    refine go_iload (pc := 3) F dL_word_3 6 rfl ?_
    refine go_aloadn (pc := 5) F dL_word_5 3 rfl ?_
    refine go_iconst (pc := 6) 5 F dL_word_6 (by decide) ?_
    refine go_jald (pc := 7) 122 7 F dL_word_7 (by decide) (fun _ => rfl) h (fun y1 h => ?_)
    refine go_icmp_ge (pc := 8) 118 F dL_word_8 (by decide) h (fun c5 h => ?_) (fun c5 h => ?_)
    · refine go_bipush (pc := 118) (-6) F dL_word_118 (by decide) ?_
      exact go_iretR (pc := 120) F dL_word_120 h
    · refine go_aloadn (pc := 11) F dL_word_11 2 rfl ?_
      refine go_iconst (pc := 12) 2 F dL_word_12 (by decide) ?_
      refine go_iload (pc := 13) F dL_word_13 6 rfl ?_
      refine go_imul (pc := 15) F dL_word_15 ?_
      refine go_jald (pc := 16) 120 24 F dL_word_16 (by decide) (fun _ => rfl) h (fun y2 h => ?_)
      refine go_istore (pc := 17) (lv' := [(7, .int y2), (0, .ref (AD G 118)), (1, .ref (AD G 119)), (2, .ref (AD G 120)), (3, .ref (AD G 122)), (4, .int x4), (5, .int x5), (6, .int x6)]) F dL_word_17 (by decide) rfl ?_
      refine go_iconst (pc := 19) 1 F dL_word_19 (by decide) ?_
      refine go_istore (pc := 20) (lv' := [(8, .int 1), (7, .int y2), (0, .ref (AD G 118)), (1, .ref (AD G 119)), (2, .ref (AD G 120)), (3, .ref (AD G 122)), (4, .int x4), (5, .int x5), (6, .int x6)]) F dL_word_20 (by decide) rfl ?_
      refine go_aloadn (pc := 22) F dL_word_22 3 rfl ?_
      refine go_iload (pc := 23) F dL_word_23 7 rfl ?_
      obtain ⟨y3, hy3, h⟩ := ob_ h
      refine cv_L_12 (pc := 25) F dL_word_25 (ct_L_many (enL E) G V x5 y3 hy3) (by decide) (by decide) (Nat.le_of_ble_eq_true rfl) ?_
      refine go_iconst (pc := 28) 1 F dL_word_28 (by decide) ?_
      refine go_isub (pc := 29) F dL_word_29 ?_
      refine go_topi h (fun y4 h => ?_)
      refine go_istore (pc := 30) (lv' := [(9, .int y4), (8, .int 1), (7, .int y2), (0, .ref (AD G 118)), (1, .ref (AD G 119)), (2, .ref (AD G 120)), (3, .ref (AD G 122)), (4, .int x4), (5, .int x5), (6, .int x6)]) F dL_word_30 (by decide) rfl ?_
      exact go_sub [3, 4, 5, 6, 7, 8, 9, 2, 1, 0] rfl (lb_L_word_32 F (fun a6 h => ih a6 h) FU_ x6 y2 1 y4 h)
set_option maxRecDepth 100000 in
set_option maxHeartbeats 4000000 in
theorem ct_L_word (l : Launch) (G : Gm) (V : Wd) (x4 : Int32) (x5 : Int32) (z : Int32) (h : f_L_word V x4 x5 = some z) : Ct l G yL_word cL_word 10 (some .int) 1 25 [.ref (AD G 118), .ref (AD G 119), .ref (AD G 120), .ref (AD G 122), .int x4, .int x5] V (some (.int z)) V := by
  refine Ct.of (own := RL) (by decide +kernel) rfl (Nat.le_of_ble_eq_true rfl) (fun E F he => ?_)
  clear he
  refine go_sub (lv' := [(0, .ref (AD G 118)), (1, .ref (AD G 119)), (2, .ref (AD G 120)), (3, .ref (AD G 122)), (4, .int x4), (5, .int x5)]) [0, 1, 2, 3, 4, 5] rfl ?_
  unfold f_L_word at h
  refine go_iconst (pc := 0) 0 F dL_word_0 (by decide) ?_
  refine go_istore (pc := 1) (lv' := [(6, .int 0), (0, .ref (AD G 118)), (1, .ref (AD G 119)), (2, .ref (AD G 120)), (3, .ref (AD G 122)), (4, .int x4), (5, .int x5)]) F dL_word_1 (by decide) rfl ?_
  exact go_sub [1, 2, 3, 4, 5, 6, 0] rfl (lb_L_word_3 F FU_ 0 h)
set_option maxRecDepth 100000 in
set_option maxHeartbeats 4000000 in
theorem lb_L_hoists_4 {E : En} {G : Gm} (F : Fx E G (AG G) RL cL_hoists 3 (some .int) 0 0 0 0) {V : Wd} {z : Int32} : ∀ (n : Nat) (x1 : Int32) (x2 : Int32), f_L_hoists_4 V n x1 x2 = some z → Go E G (AG G) 0 0 (MQq E G (some (.int z)) V) 3 V 4 [(0, .ref (AD G 119)), (1, .int x1), (2, .int x2)] [] := by
  intro n
  induction n with
  | zero => intro x1 x2 h; cases h
  | succ n ih =>
    intro x1 x2 h
    rw [f_L_hoists_4] at h
    refine go_iloadn (pc := 4) F dL_hoists_4 2 rfl ?_
    refine go_iconst (pc := 5) 5 F dL_hoists_5 (by decide) ?_
    refine go_icmp_ge (pc := 6) 31 F dL_hoists_6 (by decide) h (fun c5 h => ?_) (fun c5 h => ?_)
    · refine go_iloadn (pc := 31) F dL_hoists_31 1 rfl ?_
      exact go_iretR (pc := 32) F dL_hoists_32 h
    · refine go_iloadn (pc := 9) F dL_hoists_9 1 rfl ?_
      refine go_aloadn (pc := 10) F dL_hoists_10 0 rfl ?_
      refine go_iconst (pc := 11) 4 F dL_hoists_11 (by decide) ?_
      refine go_iloadn (pc := 12) F dL_hoists_12 2 rfl ?_
      refine go_imul (pc := 13) F dL_hoists_13 ?_
      refine go_jald (pc := 14) 119 20 F dL_hoists_14 (by decide) (fun _ => rfl) h (fun y1 h => ?_)
      refine go_if_lt (pc := 15) 22 F dL_hoists_15 (by decide) h (fun c4 h => ?_) (fun c4 h => ?_)
      · refine go_iconst (pc := 22) 0 F dL_hoists_22 (by decide) ?_
        refine go_iadd (pc := 23) F dL_hoists_23 ?_
        refine go_topi h (fun y2 h => ?_)
        refine go_istoren (pc := 24) (lv' := [(1, .int y2), (0, .ref (AD G 119)), (2, .int x2)]) F dL_hoists_24 (by decide) rfl ?_
        refine go_iinc (pc := 25) (x2 + 1) (lv' := [(2, .int (x2 + 1)), (1, .int y2), (0, .ref (AD G 119))]) F dL_hoists_25 (k := 2) rfl rfl (by decide) rfl ?_
        refine go_goto (pc := 28) 4 F dL_hoists_28 (by decide) ?_
        exact go_sub [2, 1, 0] rfl (ih y2 (x2 + 1) h)
      · refine go_iconst (pc := 18) 1 F dL_hoists_18 (by decide) ?_
        refine go_goto (pc := 19) 23 F dL_hoists_19 (by decide) ?_
        refine go_iadd (pc := 23) F dL_hoists_23 ?_
        refine go_topi h (fun y3 h => ?_)
        refine go_istoren (pc := 24) (lv' := [(1, .int y3), (0, .ref (AD G 119)), (2, .int x2)]) F dL_hoists_24 (by decide) rfl ?_
        refine go_iinc (pc := 25) (x2 + 1) (lv' := [(2, .int (x2 + 1)), (1, .int y3), (0, .ref (AD G 119))]) F dL_hoists_25 (k := 2) rfl rfl (by decide) rfl ?_
        refine go_goto (pc := 28) 4 F dL_hoists_28 (by decide) ?_
        exact go_sub [2, 1, 0] rfl (ih y3 (x2 + 1) h)
set_option maxRecDepth 100000 in
set_option maxHeartbeats 4000000 in
theorem ct_L_hoists (l : Launch) (G : Gm) (V : Wd) (z : Int32) (h : f_L_hoists V = some z) : Ct l G yL_hoists cL_hoists 3 (some .int) 0 0 [.ref (AD G 119)] V (some (.int z)) V := by
  refine Ct.of (own := RL) (by decide +kernel) rfl (Nat.le_of_ble_eq_true rfl) (fun E F he => ?_)
  clear he
  refine go_sub (lv' := [(0, .ref (AD G 119))]) [0] rfl ?_
  unfold f_L_hoists at h
  refine go_iconst (pc := 0) 0 F dL_hoists_0 (by decide) ?_
  refine go_istoren (pc := 1) (lv' := [(1, .int 0), (0, .ref (AD G 119))]) F dL_hoists_1 (by decide) rfl ?_
  refine go_iconst (pc := 2) 0 F dL_hoists_2 (by decide) ?_
  refine go_istoren (pc := 3) (lv' := [(2, .int 0), (1, .int 0), (0, .ref (AD G 119))]) F dL_hoists_3 (by decide) rfl ?_
  exact go_sub [2, 1, 0] rfl (lb_L_hoists_4 F FU_ 0 0 h)
set_option maxRecDepth 100000 in
set_option maxHeartbeats 4000000 in
theorem lb_L_known_6 {E : En} {G : Gm} (F : Fx E G (AG G) RL cL_known 7 (some .int) 2 54 0 0) {V : Wd} {x4 : Int32} {z : Int32} : ∀ (n : Nat) (x5 : Int32) (x6 : Int32), f_L_known_6 V x4 n x5 x6 = some z → Go E G (AG G) 0 0 (MQq E G (some (.int z)) V) 7 V 6 [(0, .ref (AD G 118)), (1, .ref (AD G 119)), (2, .ref (AD G 120)), (3, .ref (AD G 122)), (4, .int x4), (5, .int x5), (6, .int x6)] [] := by
  intro n
  induction n with
  | zero => intro x5 x6 h; cases h
  | succ n ih =>
    intro x5 x6 h
    rw [f_L_known_6] at h
    refine go_iload (pc := 6) F dL_known_6 6 rfl ?_
    refine go_iconst (pc := 8) 5 F dL_known_8 (by decide) ?_
    refine go_icmp_ge (pc := 9) 51 F dL_known_9 (by decide) h (fun c8 h => ?_) (fun c8 h => ?_)
    · refine go_iload (pc := 51) F dL_known_51 5 rfl ?_
      exact go_iretR (pc := 53) F dL_known_53 h
    · refine go_iload (pc := 12) F dL_known_12 5 rfl ?_
      refine go_aloadn (pc := 14) F dL_known_14 1 rfl ?_
      refine go_iconst (pc := 15) 4 F dL_known_15 (by decide) ?_
      refine go_iload (pc := 16) F dL_known_16 6 rfl ?_
      refine go_imul (pc := 18) F dL_known_18 ?_
      refine go_jald (pc := 19) 119 20 F dL_known_19 (by decide) (fun _ => rfl) h (fun y1 h => ?_)
      refine go_if_lt (pc := 20) 41 F dL_known_20 (by decide) h (fun c7 h => ?_) (fun c7 h => ?_)
      · refine go_iconst (pc := 41) 0 F dL_known_41 (by decide) ?_
        refine go_iadd (pc := 42) F dL_known_42 ?_
        refine go_topi h (fun y2 h => ?_)
        refine go_istore (pc := 43) (lv' := [(5, .int y2), (0, .ref (AD G 118)), (1, .ref (AD G 119)), (2, .ref (AD G 120)), (3, .ref (AD G 122)), (4, .int x4), (6, .int x6)]) F dL_known_43 (by decide) rfl ?_
        refine go_iinc (pc := 45) (x6 + 1) (lv' := [(6, .int (x6 + 1)), (5, .int y2), (0, .ref (AD G 118)), (1, .ref (AD G 119)), (2, .ref (AD G 120)), (3, .ref (AD G 122)), (4, .int x4)]) F dL_known_45 (k := 6) rfl rfl (by decide) rfl ?_
        refine go_goto (pc := 48) 6 F dL_known_48 (by decide) ?_
        exact go_sub [2, 3, 4, 5, 6, 1, 0] rfl (ih y2 (x6 + 1) h)
      · refine go_aloadn (pc := 23) F dL_known_23 0 rfl ?_
        refine go_aloadn (pc := 24) F dL_known_24 1 rfl ?_
        refine go_aloadn (pc := 25) F dL_known_25 2 rfl ?_
        refine go_aloadn (pc := 26) F dL_known_26 3 rfl ?_
        refine go_iload (pc := 27) F dL_known_27 4 rfl ?_
        refine go_iload (pc := 29) F dL_known_29 6 rfl ?_
        obtain ⟨y3, hy3, h⟩ := ob_ h
        refine cv_L_26 (pc := 31) F dL_known_31 (ct_L_word (enL E) G V x4 x6 y3 hy3) (by decide) (by decide) (Nat.le_of_ble_eq_true rfl) ?_
        refine go_if_lt (pc := 34) 41 F dL_known_34 (by decide) h (fun c6 h => ?_) (fun c6 h => ?_)
        · refine go_iconst (pc := 41) 0 F dL_known_41 (by decide) ?_
          refine go_iadd (pc := 42) F dL_known_42 ?_
          refine go_topi h (fun y4 h => ?_)
          refine go_istore (pc := 43) (lv' := [(5, .int y4), (0, .ref (AD G 118)), (1, .ref (AD G 119)), (2, .ref (AD G 120)), (3, .ref (AD G 122)), (4, .int x4), (6, .int x6)]) F dL_known_43 (by decide) rfl ?_
          refine go_iinc (pc := 45) (x6 + 1) (lv' := [(6, .int (x6 + 1)), (5, .int y4), (0, .ref (AD G 118)), (1, .ref (AD G 119)), (2, .ref (AD G 120)), (3, .ref (AD G 122)), (4, .int x4)]) F dL_known_45 (k := 6) rfl rfl (by decide) rfl ?_
          refine go_goto (pc := 48) 6 F dL_known_48 (by decide) ?_
          exact go_sub [2, 3, 4, 5, 6, 1, 0] rfl (ih y4 (x6 + 1) h)
        · refine go_iconst (pc := 37) 1 F dL_known_37 (by decide) ?_
          refine go_goto (pc := 38) 42 F dL_known_38 (by decide) ?_
          refine go_iadd (pc := 42) F dL_known_42 ?_
          refine go_topi h (fun y5 h => ?_)
          refine go_istore (pc := 43) (lv' := [(5, .int y5), (0, .ref (AD G 118)), (1, .ref (AD G 119)), (2, .ref (AD G 120)), (3, .ref (AD G 122)), (4, .int x4), (6, .int x6)]) F dL_known_43 (by decide) rfl ?_
          refine go_iinc (pc := 45) (x6 + 1) (lv' := [(6, .int (x6 + 1)), (5, .int y5), (0, .ref (AD G 118)), (1, .ref (AD G 119)), (2, .ref (AD G 120)), (3, .ref (AD G 122)), (4, .int x4)]) F dL_known_45 (k := 6) rfl rfl (by decide) rfl ?_
          refine go_goto (pc := 48) 6 F dL_known_48 (by decide) ?_
          exact go_sub [2, 3, 4, 5, 6, 1, 0] rfl (ih y5 (x6 + 1) h)
set_option maxRecDepth 100000 in
set_option maxHeartbeats 4000000 in
theorem ct_L_known (l : Launch) (G : Gm) (V : Wd) (x4 : Int32) (z : Int32) (h : f_L_known V x4 = some z) : Ct l G yL_known cL_known 7 (some .int) 2 54 [.ref (AD G 118), .ref (AD G 119), .ref (AD G 120), .ref (AD G 122), .int x4] V (some (.int z)) V := by
  refine Ct.of (own := RL) (by decide +kernel) rfl (Nat.le_of_ble_eq_true rfl) (fun E F he => ?_)
  clear he
  refine go_sub (lv' := [(0, .ref (AD G 118)), (1, .ref (AD G 119)), (2, .ref (AD G 120)), (3, .ref (AD G 122)), (4, .int x4)]) [0, 1, 2, 3, 4] rfl ?_
  unfold f_L_known at h
  refine go_iconst (pc := 0) 0 F dL_known_0 (by decide) ?_
  refine go_istore (pc := 1) (lv' := [(5, .int 0), (0, .ref (AD G 118)), (1, .ref (AD G 119)), (2, .ref (AD G 120)), (3, .ref (AD G 122)), (4, .int x4)]) F dL_known_1 (by decide) rfl ?_
  refine go_iconst (pc := 3) 0 F dL_known_3 (by decide) ?_
  refine go_istore (pc := 4) (lv' := [(6, .int 0), (5, .int 0), (0, .ref (AD G 118)), (1, .ref (AD G 119)), (2, .ref (AD G 120)), (3, .ref (AD G 122)), (4, .int x4)]) F dL_known_4 (by decide) rfl ?_
  exact go_sub [2, 3, 4, 5, 6, 1, 0] rfl (lb_L_known_6 F FU_ 0 0 h)
set_option maxRecDepth 100000 in
set_option maxHeartbeats 4000000 in
theorem lb_L_nth_24 {E : En} {G : Gm} (F : Fx E G (AG G) RL cL_nth 6 (some .int) 0 0 0 0) {V : Wd} {x1 : Int32} {x2 : Int32} {K5 : Int32 → Int32 → Option (Int32)} {z : Int32} (hK5 : ∀ (a3 : Int32) (a4 : Int32), K5 a3 a4 = some z → Go E G (AG G) 0 0 (MQq E G (some (.int z)) V) 6 V 5 [(0, .ref (AD G 119)), (1, .int x1), (3, .int a3), (4, .int a4)] []) (x3 : Int32) (x4 : Int32) (s0 : Int32) (h : f_L_nth_24 V x1 x2 K5 x3 x4 s0 = some z) : Go E G (AG G) 0 0 (MQq E G (some (.int z)) V) 6 V 24 [(0, .ref (AD G 119)), (1, .int x1), (3, .int x3), (4, .int x4)] [.int s0] := by
  unfold f_L_nth_24 at h
  refine go_istore (pc := 24) (lv' := [(5, .int s0), (0, .ref (AD G 119)), (1, .int x1), (3, .int x3), (4, .int x4)]) F dL_nth_24 (by decide) rfl ?_
  refine go_iloadn (pc := 26) F dL_nth_26 3 rfl ?_
  refine go_aloadn (pc := 27) F dL_nth_27 1 rfl ?_
  refine go_iconst (pc := 28) 4 F dL_nth_28 (by decide) ?_
  refine go_iload (pc := 29) F dL_nth_29 0 rfl ?_
  refine go_imul (pc := 31) F dL_nth_31 ?_
  refine go_jald (pc := 32) 119 20 F dL_nth_32 (by decide) (fun _ => rfl) h (fun y3 h => ?_)
  refine go_if_lt (pc := 33) 40 F dL_nth_33 (by decide) h (fun c8 h => ?_) (fun c8 h => ?_)
  · refine go_iconst (pc := 40) 0 F dL_nth_40 (by decide) ?_
    refine go_isub (pc := 41) F dL_nth_41 ?_
    refine go_topi h (fun y4 h => ?_)
    refine go_istoren (pc := 42) (lv' := [(3, .int y4), (5, .int s0), (0, .ref (AD G 119)), (1, .int x1), (4, .int x4)]) F dL_nth_42 (by decide) rfl ?_
    refine go_iloadn (pc := 43) F dL_nth_43 0 rfl ?_
    refine go_if_ge (pc := 44) 50 F dL_nth_44 (by decide) h (fun c5 h => ?_) (fun c5 h => ?_)
    · refine go_iinc (pc := 50) (x4 + 1) (lv' := [(4, .int (x4 + 1)), (3, .int y4), (5, .int s0), (0, .ref (AD G 119)), (1, .int x1)]) F dL_nth_50 (k := 4) rfl rfl (by decide) rfl ?_
      refine go_goto (pc := 53) 5 F dL_nth_53 (by decide) ?_
      exact go_sub [3, 4, 1, 0] rfl (hK5 y4 (x4 + 1) h)
    · refine go_iload (pc := 47) F dL_nth_47 1 rfl ?_
      exact go_iretR (pc := 49) F dL_nth_49 h
  · refine go_iconst (pc := 36) 1 F dL_nth_36 (by decide) ?_
    refine go_goto (pc := 37) 41 F dL_nth_37 (by decide) ?_
    refine go_isub (pc := 41) F dL_nth_41 ?_
    refine go_topi h (fun y6 h => ?_)
    refine go_istoren (pc := 42) (lv' := [(3, .int y6), (5, .int s0), (0, .ref (AD G 119)), (1, .int x1), (4, .int x4)]) F dL_nth_42 (by decide) rfl ?_
    refine go_iloadn (pc := 43) F dL_nth_43 0 rfl ?_
    refine go_if_ge (pc := 44) 50 F dL_nth_44 (by decide) h (fun c7 h => ?_) (fun c7 h => ?_)
    · refine go_iinc (pc := 50) (x4 + 1) (lv' := [(4, .int (x4 + 1)), (3, .int y6), (5, .int s0), (0, .ref (AD G 119)), (1, .int x1)]) F dL_nth_50 (k := 4) rfl rfl (by decide) rfl ?_
      refine go_goto (pc := 53) 5 F dL_nth_53 (by decide) ?_
      exact go_sub [3, 4, 1, 0] rfl (hK5 y6 (x4 + 1) h)
    · refine go_iload (pc := 47) F dL_nth_47 1 rfl ?_
      exact go_iretR (pc := 49) F dL_nth_49 h
set_option maxRecDepth 100000 in
set_option maxHeartbeats 4000000 in
theorem lb_L_nth_5 {E : En} {G : Gm} (F : Fx E G (AG G) RL cL_nth 6 (some .int) 0 0 0 0) {V : Wd} {x1 : Int32} {x2 : Int32} {z : Int32} : ∀ (n : Nat) (x3 : Int32) (x4 : Int32), f_L_nth_5 V x1 x2 n x3 x4 = some z → Go E G (AG G) 0 0 (MQq E G (some (.int z)) V) 6 V 5 [(0, .ref (AD G 119)), (1, .int x1), (3, .int x3), (4, .int x4)] [] := by
  intro n
  induction n with
  | zero => intro x3 x4 h; cases h
  | succ n ih =>
    intro x3 x4 h
    rw [f_L_nth_5] at h
    refine go_iload (pc := 5) F dL_nth_5 3 rfl ?_
    refine go_iconst (pc := 7) 5 F dL_nth_7 (by decide) ?_
    refine go_icmp_ge (pc := 8) 56 F dL_nth_8 (by decide) h (fun c2 h => ?_) (fun c2 h => ?_)
    · refine go_iconst (pc := 56) (-1) F dL_nth_56 (by decide) ?_
      exact go_iretR (pc := 57) F dL_nth_57 h
    · refine go_iloadn (pc := 11) F dL_nth_11 1 rfl ?_
      refine go_if_ne (pc := 12) 20 F dL_nth_12 (by decide) h (fun c1 h => ?_) (fun c1 h => ?_)
      · refine go_iconst (pc := 20) 4 F dL_nth_20 (by decide) ?_
        refine go_iload (pc := 21) F dL_nth_21 3 rfl ?_
        refine go_isub (pc := 23) F dL_nth_23 ?_
        exact go_sub [0, 1, 2, 3] rfl (lb_L_nth_24 F (fun a3 a4 h => ih a3 a4 h) x3 x4 (4 - x4) h)
      · refine go_iload (pc := 15) F dL_nth_15 3 rfl ?_
        refine go_goto (pc := 17) 24 F dL_nth_17 (by decide) ?_
        exact go_sub [0, 1, 2, 3] rfl (lb_L_nth_24 F (fun a3 a4 h => ih a3 a4 h) x3 x4 x4 h)
set_option maxRecDepth 100000 in
set_option maxHeartbeats 4000000 in
theorem ct_L_nth (l : Launch) (G : Gm) (V : Wd) (x1 : Int32) (x2 : Int32) (z : Int32) (h : f_L_nth V x1 x2 = some z) : Ct l G yL_nth cL_nth 6 (some .int) 0 0 [.ref (AD G 119), .int x1, .int x2] V (some (.int z)) V := by
  refine Ct.of (own := RL) (by decide +kernel) rfl (Nat.le_of_ble_eq_true rfl) (fun E F he => ?_)
  clear he
  refine go_sub (lv' := [(0, .ref (AD G 119)), (1, .int x1), (2, .int x2)]) [0, 1, 2] rfl ?_
  unfold f_L_nth at h
  refine go_iloadn (pc := 0) F dL_nth_0 2 rfl ?_
  refine go_istoren (pc := 1) (lv' := [(3, .int x2), (0, .ref (AD G 119)), (1, .int x1), (2, .int x2)]) F dL_nth_1 (by decide) rfl ?_
  refine go_iconst (pc := 2) 0 F dL_nth_2 (by decide) ?_
  refine go_istore (pc := 3) (lv' := [(4, .int 0), (3, .int x2), (0, .ref (AD G 119)), (1, .int x1), (2, .int x2)]) F dL_nth_3 (by decide) rfl ?_
  exact go_sub [2, 3, 1, 0] rfl (lb_L_nth_5 F FU_ x2 0 h)
set_option maxRecDepth 100000 in
set_option maxHeartbeats 4000000 in
theorem lb_L_same_47 {E : En} {G : Gm} (F : Fx E G (AG G) RL cL_same 7 (some .boolean) 3 80 0 0) {V : Wd} {z : Int32} : ∀ (n : Nat) (x4 : Int32) (x5 : Int32) (x6 : Int32), f_L_same_47 V n x4 x5 x6 = some z → Go E G (AG G) 0 0 (MQq E G (some (.int z)) V) 7 V 47 [(0, .ref (AD G 118)), (1, .ref (AD G 119)), (2, .ref (AD G 120)), (3, .ref (AD G 122)), (4, .int x4), (5, .int x5), (6, .int x6)] [] := by
  intro n
  induction n with
  | zero => intro x4 x5 x6 h; cases h
  | succ n ih =>
    intro x4 x5 x6 h
    rw [f_L_same_47] at h
    refine go_iload (pc := 47) F dL_same_47 6 rfl ?_
    refine go_iload (pc := 49) F dL_same_49 4 rfl ?_
    refine go_icmp_ge (pc := 51) 105 F dL_same_51 (by decide) h (fun c15 h => ?_) (fun c15 h => ?_)
    · refine go_iload (pc := 105) F dL_same_105 5 rfl ?_
      refine go_gd h (fun b7 h => ?_)
      exact go_zretR (pc := 107) F dL_same_107 (isB_n b7) h
    · refine go_iload (pc := 54) F dL_same_54 5 rfl ?_
      refine go_if_eq (pc := 56) 105 F dL_same_56 (by decide) h (fun c14 h => ?_) (fun c14 h => ?_)
      · refine go_iload (pc := 105) F dL_same_105 5 rfl ?_
        refine go_gd h (fun b8 h => ?_)
        exact go_zretR (pc := 107) F dL_same_107 (isB_n b8) h
      · refine go_aloadn (pc := 59) F dL_same_59 0 rfl ?_
        refine go_aloadn (pc := 60) F dL_same_60 1 rfl ?_
        refine go_aloadn (pc := 61) F dL_same_61 2 rfl ?_
        refine go_aloadn (pc := 62) F dL_same_62 3 rfl ?_
        refine go_iconst (pc := 63) 0 F dL_same_63 (by decide) ?_
        refine go_aloadn (pc := 64) F dL_same_64 1 rfl ?_
        refine go_iconst (pc := 65) 0 F dL_same_65 (by decide) ?_
        refine go_iload (pc := 66) F dL_same_66 6 rfl ?_
        obtain ⟨y9, hy9, h⟩ := ob_ h
        refine cv_L_38 (pc := 68) F dL_same_68 (ct_L_nth (enL E) G V 0 x6 y9 hy9) (by decide) (by decide) (Nat.le_of_ble_eq_true rfl) ?_
        obtain ⟨y10, hy10, h⟩ := ob_ h
        refine cv_L_26 (pc := 71) F dL_same_71 (ct_L_word (enL E) G V 0 y9 y10 hy10) (by decide) (by decide) (Nat.le_of_ble_eq_true rfl) ?_
        refine go_aloadn (pc := 74) F dL_same_74 0 rfl ?_
        refine go_aloadn (pc := 75) F dL_same_75 1 rfl ?_
        refine go_aloadn (pc := 76) F dL_same_76 2 rfl ?_
        refine go_aloadn (pc := 77) F dL_same_77 3 rfl ?_
        refine go_iconst (pc := 78) 1 F dL_same_78 (by decide) ?_
        refine go_aloadn (pc := 79) F dL_same_79 1 rfl ?_
        refine go_iconst (pc := 80) 1 F dL_same_80 (by decide) ?_
        refine go_iload (pc := 81) F dL_same_81 6 rfl ?_
        obtain ⟨y11, hy11, h⟩ := ob_ h
        refine cv_L_38 (pc := 83) F dL_same_83 (ct_L_nth (enL E) G V 1 x6 y11 hy11) (by decide) (by decide) (Nat.le_of_ble_eq_true rfl) ?_
        obtain ⟨y12, hy12, h⟩ := ob_ h
        refine cv_L_26 (pc := 86) F dL_same_86 (ct_L_word (enL E) G V 1 y11 y12 hy12) (by decide) (by decide) (Nat.le_of_ble_eq_true rfl) ?_
        refine go_icmp_ne (pc := 89) 96 F dL_same_89 (by decide) h (fun c13 h => ?_) (fun c13 h => ?_)
        · refine go_iconst (pc := 96) 0 F dL_same_96 (by decide) ?_
          refine go_istore (pc := 97) (lv' := [(5, .int 0), (0, .ref (AD G 118)), (1, .ref (AD G 119)), (2, .ref (AD G 120)), (3, .ref (AD G 122)), (4, .int x4), (6, .int x6)]) F dL_same_97 (by decide) rfl ?_
          refine go_iinc (pc := 99) (x6 + 1) (lv' := [(6, .int (x6 + 1)), (5, .int 0), (0, .ref (AD G 118)), (1, .ref (AD G 119)), (2, .ref (AD G 120)), (3, .ref (AD G 122)), (4, .int x4)]) F dL_same_99 (k := 6) rfl rfl (by decide) rfl ?_
          refine go_goto (pc := 102) 47 F dL_same_102 (by decide) ?_
          exact go_sub [2, 3, 4, 5, 6, 1, 0] rfl (ih x4 0 (x6 + 1) h)
        · refine go_iconst (pc := 92) 1 F dL_same_92 (by decide) ?_
          refine go_goto (pc := 93) 97 F dL_same_93 (by decide) ?_
          refine go_istore (pc := 97) (lv' := [(5, .int 1), (0, .ref (AD G 118)), (1, .ref (AD G 119)), (2, .ref (AD G 120)), (3, .ref (AD G 122)), (4, .int x4), (6, .int x6)]) F dL_same_97 (by decide) rfl ?_
          refine go_iinc (pc := 99) (x6 + 1) (lv' := [(6, .int (x6 + 1)), (5, .int 1), (0, .ref (AD G 118)), (1, .ref (AD G 119)), (2, .ref (AD G 120)), (3, .ref (AD G 122)), (4, .int x4)]) F dL_same_99 (k := 6) rfl rfl (by decide) rfl ?_
          refine go_goto (pc := 102) 47 F dL_same_102 (by decide) ?_
          exact go_sub [2, 3, 4, 5, 6, 1, 0] rfl (ih x4 1 (x6 + 1) h)
set_option maxRecDepth 100000 in
set_option maxHeartbeats 4000000 in
theorem ct_L_same (l : Launch) (G : Gm) (V : Wd) (z : Int32) (h : f_L_same V = some z) : Ct l G yL_same cL_same 7 (some .boolean) 3 80 [.ref (AD G 118), .ref (AD G 119), .ref (AD G 120), .ref (AD G 122)] V (some (.int z)) V := by
  refine Ct.of (own := RL) (by decide +kernel) rfl (Nat.le_of_ble_eq_true rfl) (fun E F he => ?_)
  clear he
  refine go_sub (lv' := [(0, .ref (AD G 118)), (1, .ref (AD G 119)), (2, .ref (AD G 120)), (3, .ref (AD G 122))]) [0, 1, 2, 3] rfl ?_
  unfold f_L_same at h
  refine go_aloadn (pc := 0) F dL_same_0 1 rfl ?_
  obtain ⟨y1, hy1, h⟩ := ob_ h
  refine cv_L_30 (pc := 1) F dL_same_1 (ct_L_hoists (enL E) G V y1 hy1) (by decide) (by decide) (Nat.le_of_ble_eq_true rfl) ?_
  refine go_istore (pc := 4) (lv' := [(4, .int y1), (0, .ref (AD G 118)), (1, .ref (AD G 119)), (2, .ref (AD G 120)), (3, .ref (AD G 122))]) F dL_same_4 (by decide) rfl ?_
  refine go_iload (pc := 6) F dL_same_6 0 rfl ?_
  refine go_if_le (pc := 8) 41 F dL_same_8 (by decide) h (fun c6 h => ?_) (fun c6 h => ?_)
  · refine go_iconst (pc := 41) 0 F dL_same_41 (by decide) ?_
    refine go_istore (pc := 42) (lv' := [(5, .int 0), (4, .int y1), (0, .ref (AD G 118)), (1, .ref (AD G 119)), (2, .ref (AD G 120)), (3, .ref (AD G 122))]) F dL_same_42 (by decide) rfl ?_
    refine go_iconst (pc := 44) 0 F dL_same_44 (by decide) ?_
    refine go_istore (pc := 45) (lv' := [(6, .int 0), (5, .int 0), (4, .int y1), (0, .ref (AD G 118)), (1, .ref (AD G 119)), (2, .ref (AD G 120)), (3, .ref (AD G 122))]) F dL_same_45 (by decide) rfl ?_
    exact go_sub [3, 4, 5, 6, 2, 1, 0] rfl (lb_L_same_47 F FU_ y1 0 0 h)
  · refine go_aloadn (pc := 11) F dL_same_11 1 rfl ?_
    refine go_aloadn (pc := 12) F dL_same_12 2 rfl ?_
    refine go_aloadn (pc := 13) F dL_same_13 3 rfl ?_
    refine go_aloadn (pc := 14) F dL_same_14 4 rfl ?_
    refine go_iconst (pc := 15) 0 F dL_same_15 (by decide) ?_
    obtain ⟨y2, hy2, h⟩ := ob_ h
    refine cv_L_34 (pc := 16) F dL_same_16 (ct_L_known (enL E) G V 0 y2 hy2) (by decide) (by decide) (Nat.le_of_ble_eq_true rfl) ?_
    refine go_iload (pc := 19) F dL_same_19 0 rfl ?_
    refine go_icmp_ne (pc := 21) 41 F dL_same_21 (by decide) h (fun c5 h => ?_) (fun c5 h => ?_)
    · refine go_iconst (pc := 41) 0 F dL_same_41 (by decide) ?_
      refine go_istore (pc := 42) (lv' := [(5, .int 0), (4, .int y1), (0, .ref (AD G 118)), (1, .ref (AD G 119)), (2, .ref (AD G 120)), (3, .ref (AD G 122))]) F dL_same_42 (by decide) rfl ?_
      refine go_iconst (pc := 44) 0 F dL_same_44 (by decide) ?_
      refine go_istore (pc := 45) (lv' := [(6, .int 0), (5, .int 0), (4, .int y1), (0, .ref (AD G 118)), (1, .ref (AD G 119)), (2, .ref (AD G 120)), (3, .ref (AD G 122))]) F dL_same_45 (by decide) rfl ?_
      exact go_sub [3, 4, 5, 6, 2, 1, 0] rfl (lb_L_same_47 F FU_ y1 0 0 h)
    · refine go_aloadn (pc := 24) F dL_same_24 1 rfl ?_
      refine go_aloadn (pc := 25) F dL_same_25 2 rfl ?_
      refine go_aloadn (pc := 26) F dL_same_26 3 rfl ?_
      refine go_aloadn (pc := 27) F dL_same_27 4 rfl ?_
      refine go_iconst (pc := 28) 1 F dL_same_28 (by decide) ?_
      obtain ⟨y3, hy3, h⟩ := ob_ h
      refine cv_L_34 (pc := 29) F dL_same_29 (ct_L_known (enL E) G V 1 y3 hy3) (by decide) (by decide) (Nat.le_of_ble_eq_true rfl) ?_
      refine go_iload (pc := 32) F dL_same_32 0 rfl ?_
      refine go_icmp_ne (pc := 34) 41 F dL_same_34 (by decide) h (fun c4 h => ?_) (fun c4 h => ?_)
      · refine go_iconst (pc := 41) 0 F dL_same_41 (by decide) ?_
        refine go_istore (pc := 42) (lv' := [(5, .int 0), (4, .int y1), (0, .ref (AD G 118)), (1, .ref (AD G 119)), (2, .ref (AD G 120)), (3, .ref (AD G 122))]) F dL_same_42 (by decide) rfl ?_
        refine go_iconst (pc := 44) 0 F dL_same_44 (by decide) ?_
        refine go_istore (pc := 45) (lv' := [(6, .int 0), (5, .int 0), (4, .int y1), (0, .ref (AD G 118)), (1, .ref (AD G 119)), (2, .ref (AD G 120)), (3, .ref (AD G 122))]) F dL_same_45 (by decide) rfl ?_
        exact go_sub [3, 4, 5, 6, 2, 1, 0] rfl (lb_L_same_47 F FU_ y1 0 0 h)
      · refine go_iconst (pc := 37) 1 F dL_same_37 (by decide) ?_
        refine go_goto (pc := 38) 42 F dL_same_38 (by decide) ?_
        refine go_istore (pc := 42) (lv' := [(5, .int 1), (4, .int y1), (0, .ref (AD G 118)), (1, .ref (AD G 119)), (2, .ref (AD G 120)), (3, .ref (AD G 122))]) F dL_same_42 (by decide) rfl ?_
        refine go_iconst (pc := 44) 0 F dL_same_44 (by decide) ?_
        refine go_istore (pc := 45) (lv' := [(6, .int 0), (5, .int 1), (4, .int y1), (0, .ref (AD G 118)), (1, .ref (AD G 119)), (2, .ref (AD G 120)), (3, .ref (AD G 122))]) F dL_same_45 (by decide) rfl ?_
        exact go_sub [3, 4, 5, 6, 2, 1, 0] rfl (lb_L_same_47 F FU_ y1 1 0 h)
set_option maxRecDepth 100000 in
set_option maxHeartbeats 4000000 in
theorem lb_L_swap_2 {E : En} {G : Gm} (F : Fx E G (AG G) RL cL_swap 5 none 0 0 0 0) {x1 : Int32} {x2 : Int32} {z : Wd} : ∀ (n : Nat) (V : Wd) (x3 : Int32), f_L_swap_2 x1 x2 n V x3 = some z → Go E G (AG G) 0 0 (MQq E G none z) 5 V 2 [(0, .ref (AD G 119)), (1, .int x1), (2, .int x2), (3, .int x3)] [] := by
  intro n
  induction n with
  | zero => intro V x3 h; cases h
  | succ n ih =>
    intro V x3 h
    rw [f_L_swap_2] at h
    refine go_iloadn (pc := 2) F dL_swap_2 3 rfl ?_
    refine go_iconst (pc := 3) 4 F dL_swap_3 (by decide) ?_
    refine go_icmp_ge (pc := 4) 45 F dL_swap_4 (by decide) h (fun c5 h => ?_) (fun c5 h => ?_)
    · exact go_vretW (pc := 45) F dL_swap_45 h
    · refine go_aloadn (pc := 7) F dL_swap_7 0 rfl ?_
      refine go_iconst (pc := 8) 4 F dL_swap_8 (by decide) ?_
      refine go_iloadn (pc := 9) F dL_swap_9 1 rfl ?_
      refine go_imul (pc := 10) F dL_swap_10 ?_
      refine go_iloadn (pc := 11) F dL_swap_11 3 rfl ?_
      refine go_iadd (pc := 12) F dL_swap_12 ?_
      refine go_jald (pc := 13) 119 20 F dL_swap_13 (by decide) (fun _ => rfl) h (fun y1 h => ?_)
      refine go_istore (pc := 14) (lv' := [(4, .int y1), (0, .ref (AD G 119)), (1, .int x1), (2, .int x2), (3, .int x3)]) F dL_swap_14 (by decide) rfl ?_
      refine go_aloadn (pc := 16) F dL_swap_16 1 rfl ?_
      refine go_iconst (pc := 17) 4 F dL_swap_17 (by decide) ?_
      refine go_iloadn (pc := 18) F dL_swap_18 2 rfl ?_
      refine go_imul (pc := 19) F dL_swap_19 ?_
      refine go_iloadn (pc := 20) F dL_swap_20 4 rfl ?_
      refine go_iadd (pc := 21) F dL_swap_21 ?_
      refine go_aloadn (pc := 22) F dL_swap_22 1 rfl ?_
      refine go_iconst (pc := 23) 4 F dL_swap_23 (by decide) ?_
      refine go_iloadn (pc := 24) F dL_swap_24 3 rfl ?_
      refine go_imul (pc := 25) F dL_swap_25 ?_
      refine go_iloadn (pc := 26) F dL_swap_26 4 rfl ?_
      refine go_iadd (pc := 27) F dL_swap_27 ?_
      refine go_jald (pc := 28) 119 20 F dL_swap_28 (by decide) (fun _ => rfl) h (fun y2 h => ?_)
      refine go_jast (pc := 29) 119 20 F dL_swap_29 (by decide) (fun _ => rfl) h (fun V3 h => ?_)
      refine go_aloadn (pc := 30) F dL_swap_30 1 rfl ?_
      refine go_iconst (pc := 31) 4 F dL_swap_31 (by decide) ?_
      refine go_iloadn (pc := 32) F dL_swap_32 3 rfl ?_
      refine go_imul (pc := 33) F dL_swap_33 ?_
      refine go_iloadn (pc := 34) F dL_swap_34 4 rfl ?_
      refine go_iadd (pc := 35) F dL_swap_35 ?_
      refine go_iload (pc := 36) F dL_swap_36 0 rfl ?_
      refine go_jast (pc := 38) 119 20 F dL_swap_38 (by decide) (fun _ => rfl) h (fun V4 h => ?_)
      refine go_iinc (pc := 39) (x3 + 1) (lv' := [(3, .int (x3 + 1)), (4, .int y1), (0, .ref (AD G 119)), (1, .int x1), (2, .int x2)]) F dL_swap_39 (k := 4) rfl rfl (by decide) rfl ?_
      refine go_goto (pc := 42) 2 F dL_swap_42 (by decide) ?_
      exact go_sub [2, 3, 4, 0] rfl (ih V4 (x3 + 1) h)
set_option maxRecDepth 100000 in
set_option maxHeartbeats 4000000 in
theorem ct_L_swap (l : Launch) (G : Gm) (V : Wd) (x1 : Int32) (x2 : Int32) (z : Wd) (h : f_L_swap V x1 x2 = some z) : Ct l G yL_swap cL_swap 5 none 0 0 [.ref (AD G 119), .int x1, .int x2] V none z := by
  refine Ct.of (own := RL) (by decide +kernel) rfl (Nat.le_of_ble_eq_true rfl) (fun E F he => ?_)
  clear he
  refine go_sub (lv' := [(0, .ref (AD G 119)), (1, .int x1), (2, .int x2)]) [0, 1, 2] rfl ?_
  unfold f_L_swap at h
  refine go_iconst (pc := 0) 0 F dL_swap_0 (by decide) ?_
  refine go_istoren (pc := 1) (lv' := [(3, .int 0), (0, .ref (AD G 119)), (1, .int x1), (2, .int x2)]) F dL_swap_1 (by decide) rfl ?_
  exact go_sub [1, 2, 3, 0] rfl (lb_L_swap_2 F FU_ V 0 h)
set_option maxRecDepth 100000 in
set_option maxHeartbeats 4000000 in
theorem lb_L_used_4 {E : En} {G : Gm} (F : Fx E G (AG G) RL cL_used 4 (some .int) 0 0 0 0) {V : Wd} {x1 : Int32} {z : Int32} : ∀ (n : Nat) (x2 : Int32) (x3 : Int32), f_L_used_4 V x1 n x2 x3 = some z → Go E G (AG G) 0 0 (MQq E G (some (.int z)) V) 4 V 4 [(0, .ref (AD G 119)), (1, .int x1), (2, .int x2), (3, .int x3)] [] := by
  intro n
  induction n with
  | zero => intro x2 x3 h; cases h
  | succ n ih =>
    intro x2 x3 h
    rw [f_L_used_4] at h
    refine go_iloadn (pc := 4) F dL_used_4 3 rfl ?_
    refine go_bipush (pc := 5) 20 F dL_used_5 (by decide) ?_
    refine go_icmp_ge (pc := 7) 31 F dL_used_7 (by decide) h (fun c5 h => ?_) (fun c5 h => ?_)
    · refine go_iloadn (pc := 31) F dL_used_31 2 rfl ?_
      exact go_iretR (pc := 32) F dL_used_32 h
    · refine go_iloadn (pc := 10) F dL_used_10 2 rfl ?_
      refine go_aloadn (pc := 11) F dL_used_11 0 rfl ?_
      refine go_iloadn (pc := 12) F dL_used_12 3 rfl ?_
      refine go_jald (pc := 13) 119 20 F dL_used_13 (by decide) (fun _ => rfl) h (fun y1 h => ?_)
      refine go_iloadn (pc := 14) F dL_used_14 1 rfl ?_
      refine go_icmp_ne (pc := 15) 22 F dL_used_15 (by decide) h (fun c4 h => ?_) (fun c4 h => ?_)
      · refine go_iconst (pc := 22) 0 F dL_used_22 (by decide) ?_
        refine go_iadd (pc := 23) F dL_used_23 ?_
        refine go_topi h (fun y2 h => ?_)
        refine go_istoren (pc := 24) (lv' := [(2, .int y2), (0, .ref (AD G 119)), (1, .int x1), (3, .int x3)]) F dL_used_24 (by decide) rfl ?_
        refine go_iinc (pc := 25) (x3 + 1) (lv' := [(3, .int (x3 + 1)), (2, .int y2), (0, .ref (AD G 119)), (1, .int x1)]) F dL_used_25 (k := 3) rfl rfl (by decide) rfl ?_
        refine go_goto (pc := 28) 4 F dL_used_28 (by decide) ?_
        exact go_sub [2, 3, 1, 0] rfl (ih y2 (x3 + 1) h)
      · refine go_iconst (pc := 18) 1 F dL_used_18 (by decide) ?_
        refine go_goto (pc := 19) 23 F dL_used_19 (by decide) ?_
        refine go_iadd (pc := 23) F dL_used_23 ?_
        refine go_topi h (fun y3 h => ?_)
        refine go_istoren (pc := 24) (lv' := [(2, .int y3), (0, .ref (AD G 119)), (1, .int x1), (3, .int x3)]) F dL_used_24 (by decide) rfl ?_
        refine go_iinc (pc := 25) (x3 + 1) (lv' := [(3, .int (x3 + 1)), (2, .int y3), (0, .ref (AD G 119)), (1, .int x1)]) F dL_used_25 (k := 3) rfl rfl (by decide) rfl ?_
        refine go_goto (pc := 28) 4 F dL_used_28 (by decide) ?_
        exact go_sub [2, 3, 1, 0] rfl (ih y3 (x3 + 1) h)
set_option maxRecDepth 100000 in
set_option maxHeartbeats 4000000 in
theorem ct_L_used (l : Launch) (G : Gm) (V : Wd) (x1 : Int32) (z : Int32) (h : f_L_used V x1 = some z) : Ct l G yL_used cL_used 4 (some .int) 0 0 [.ref (AD G 119), .int x1] V (some (.int z)) V := by
  refine Ct.of (own := RL) (by decide +kernel) rfl (Nat.le_of_ble_eq_true rfl) (fun E F he => ?_)
  clear he
  refine go_sub (lv' := [(0, .ref (AD G 119)), (1, .int x1)]) [0, 1] rfl ?_
  unfold f_L_used at h
  refine go_iconst (pc := 0) 0 F dL_used_0 (by decide) ?_
  refine go_istoren (pc := 1) (lv' := [(2, .int 0), (0, .ref (AD G 119)), (1, .int x1)]) F dL_used_1 (by decide) rfl ?_
  refine go_iconst (pc := 2) 0 F dL_used_2 (by decide) ?_
  refine go_istoren (pc := 3) (lv' := [(3, .int 0), (2, .int 0), (0, .ref (AD G 119)), (1, .int x1)]) F dL_used_3 (by decide) rfl ?_
  exact go_sub [2, 3, 1, 0] rfl (lb_L_used_4 F FU_ 0 0 h)

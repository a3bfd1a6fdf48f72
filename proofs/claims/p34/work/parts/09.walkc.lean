set_option maxRecDepth 100000 in
set_option maxHeartbeats 4000000 in
theorem ct_X3_add (l : Launch) (G : Gm) (k : Nat) (hk : kd k = 3) (V : Wd) (x1 : Int32) (x2 : Int32) (z : Wd) (h : f_X3_add k V x1 x2 = some z) : Ct l G yX3_add cX3_add 3 none 1 21 [.ref (AD G k), .int x1, .int x2] V none z := by
  refine Ct.of (own := RX3) (by decide +kernel) rfl (Nat.le_of_ble_eq_true rfl) (fun E F he => ?_)
  clear he
  refine go_sub (lv' := [(0, .ref (AD G k)), (1, .int x1), (2, .int x2)]) [0, 1, 2] rfl ?_
  unfold f_X3_add at h
  refine go_iloadn (pc := 0) F dX3_add_0 1 rfl ?_
  refine go_iconst (pc := 1) 5 F dX3_add_1 (by decide) ?_
  refine cv_X3_24 (pc := 2) F dX3_add_2 (ct_X8_isBelow (enL E) G V x1 5) (by decide) (by decide) (Nat.le_of_ble_eq_true rfl) ?_
  refine go_if_eq (pc := 5) 47 F dX3_add_5 (by decide) h (fun c7 h => ?_) (fun c7 h => ?_)
  · exact go_vretW (pc := 47) F dX3_add_47 h
  · refine go_aloadn (pc := 8) F dX3_add_8 0 rfl ?_
    refine gf_X3_15 (pc := 9) F dX3_add_9 hk ?_
    refine go_iloadn (pc := 12) F dX3_add_12 1 rfl ?_
    refine go_iald (pc := 13) 5 F dX3_add_13 (kf_3_2 hk) (by decide) h (fun y1 h => ?_)
    refine go_iconst (pc := 14) 4 F dX3_add_14 (by decide) ?_
    refine cv_X3_24 (pc := 15) F dX3_add_15 (ct_X8_isBelow (enL E) G V y1 4) (by decide) (by decide) (Nat.le_of_ble_eq_true rfl) ?_
    refine go_if_eq (pc := 18) 47 F dX3_add_18 (by decide) h (fun c6 h => ?_) (fun c6 h => ?_)
    · exact go_vretW (pc := 47) F dX3_add_47 h
    · refine go_aloadn (pc := 21) F dX3_add_21 0 rfl ?_
      refine gf_X3_9 (pc := 22) F dX3_add_22 hk ?_
      refine go_iloadn (pc := 25) F dX3_add_25 1 rfl ?_
      refine go_iconst (pc := 26) 4 F dX3_add_26 (by decide) ?_
      refine go_imul (pc := 27) F dX3_add_27 ?_
      refine go_aloadn (pc := 28) F dX3_add_28 0 rfl ?_
      refine gf_X3_15 (pc := 29) F dX3_add_29 hk ?_
      refine go_iloadn (pc := 32) F dX3_add_32 1 rfl ?_
      refine go_iald (pc := 33) 5 F dX3_add_33 (kf_3_2 hk) (by decide) h (fun y2 h => ?_)
      refine go_iadd (pc := 34) F dX3_add_34 ?_
      refine go_iloadn (pc := 35) F dX3_add_35 2 rfl ?_
      refine go_iast (pc := 36) 20 F dX3_add_36 (kf_3_1 hk) (by decide) h (fun V3 h => ?_)
      refine go_aloadn (pc := 37) F dX3_add_37 0 rfl ?_
      refine gf_X3_15 (pc := 38) F dX3_add_38 hk ?_
      refine go_iloadn (pc := 41) F dX3_add_41 1 rfl ?_
      refine go_dup2 (pc := 42) F dX3_add_42 rfl rfl ?_
      refine go_iald (pc := 43) 5 F dX3_add_43 (kf_3_2 hk) (by decide) h (fun y4 h => ?_)
      refine go_iconst (pc := 44) 1 F dX3_add_44 (by decide) ?_
      refine go_iadd (pc := 45) F dX3_add_45 ?_
      refine go_iast (pc := 46) 5 F dX3_add_46 (kf_3_2 hk) (by decide) h (fun V5 h => ?_)
      exact go_vretW (pc := 47) F dX3_add_47 h
set_option maxRecDepth 100000 in
set_option maxHeartbeats 4000000 in
theorem ct_X3_removeLowest (l : Launch) (G : Gm) (k : Nat) (hk : kd k = 3) (V : Wd) (x1 : Int32) (z : Int32 × Wd) (h : f_X3_removeLowest k V x1 = some z) : Ct l G yX3_removeLowest cX3_removeLowest 3 (some .int) 2 42 [.ref (AD G k), .int x1] V (some (.int z.1)) z.2 := by
  refine Ct.of (own := RX3) (by decide +kernel) rfl (Nat.le_of_ble_eq_true rfl) (fun E F he => ?_)
  clear he
  refine go_sub (lv' := [(0, .ref (AD G k)), (1, .int x1)]) [0, 1] rfl ?_
  unfold f_X3_removeLowest at h
  refine go_aloadn (pc := 0) F dX3_removeLowest_0 0 rfl ?_
  refine go_iloadn (pc := 1) F dX3_removeLowest_1 1 rfl ?_
  obtain ⟨y1, hy1, h⟩ := ob_ h
  refine cv_X3_35 (pc := 2) F dX3_removeLowest_2 hk (ct_X3_sizeOf (enL E) G k hk V x1 y1 hy1) (by decide) (by decide) (Nat.le_of_ble_eq_true rfl) ?_
  refine go_istoren (pc := 5) (lv' := [(2, .int y1), (0, .ref (AD G k)), (1, .int x1)]) F dX3_removeLowest_5 (by decide) rfl ?_
  refine go_aloadn (pc := 6) F dX3_removeLowest_6 1 rfl ?_
  refine go_iloadn (pc := 7) F dX3_removeLowest_7 2 rfl ?_
  refine go_iloadn (pc := 8) F dX3_removeLowest_8 0 rfl ?_
  obtain ⟨y2, hy2, h⟩ := ob_ h
  refine cv_X3_28 (pc := 9) F dX3_removeLowest_9 hk (ct_X3_has (enL E) G k hk V x1 y1 y2 hy2) (by decide) (by decide) (Nat.le_of_ble_eq_true rfl) ?_
  refine go_if_ne (pc := 12) 17 F dX3_removeLowest_12 (by decide) h (fun c6 h => ?_) (fun c6 h => ?_)
  · refine go_aloadn (pc := 17) F dX3_removeLowest_17 1 rfl ?_
    refine gf_X3_15 (pc := 18) F dX3_removeLowest_18 hk ?_
    refine go_iloadn (pc := 21) F dX3_removeLowest_21 2 rfl ?_
    refine go_dup2 (pc := 22) F dX3_removeLowest_22 rfl rfl ?_
    refine go_iald (pc := 23) 5 F dX3_removeLowest_23 (kf_3_2 hk) (by decide) h (fun y3 h => ?_)
    refine go_iconst (pc := 24) 1 F dX3_removeLowest_24 (by decide) ?_
    refine go_isub (pc := 25) F dX3_removeLowest_25 ?_
    refine go_iast (pc := 26) 5 F dX3_removeLowest_26 (kf_3_2 hk) (by decide) h (fun V4 h => ?_)
    refine go_aloadn (pc := 27) F dX3_removeLowest_27 1 rfl ?_
    refine gf_X3_9 (pc := 28) F dX3_removeLowest_28 hk ?_
    refine go_iloadn (pc := 31) F dX3_removeLowest_31 2 rfl ?_
    refine go_iconst (pc := 32) 4 F dX3_removeLowest_32 (by decide) ?_
    refine go_imul (pc := 33) F dX3_removeLowest_33 ?_
    refine go_iloadn (pc := 34) F dX3_removeLowest_34 0 rfl ?_
    refine go_iadd (pc := 35) F dX3_removeLowest_35 ?_
    refine go_iconst (pc := 36) 1 F dX3_removeLowest_36 (by decide) ?_
    refine go_isub (pc := 37) F dX3_removeLowest_37 ?_
    refine go_iald (pc := 38) 20 F dX3_removeLowest_38 (kf_3_1 hk) (by decide) h (fun y5 h => ?_)
    exact go_iretW (pc := 39) F dX3_removeLowest_39 h
  · refine go_iconst (pc := 15) (-1) F dX3_removeLowest_15 (by decide) ?_
    exact go_iretW (pc := 16) F dX3_removeLowest_16 h
set_option maxRecDepth 100000 in
set_option maxHeartbeats 4000000 in
theorem lb_X3_swap_74 {E : En} {G : Gm} (F : Fx E G (AG G) RX3 cX3_swap 5 none 1 21 0 0) {k : Nat} (hk : kd k = 3) {x1 : Int32} {x2 : Int32} {z : Wd} (V : Wd) (h : f_X3_swap_74 k x1 x2 V = some z) : Go E G (AG G) 0 0 (MQq E G none z) 5 V 74 [(0, .ref (AD G k)), (1, .int x1), (2, .int x2)] [] := by
  unfold f_X3_swap_74 at h
  refine go_aloadn (pc := 74) F dX3_swap_74 0 rfl ?_
  refine gf_X3_15 (pc := 75) F dX3_swap_75 hk ?_
  refine go_iloadn (pc := 78) F dX3_swap_78 1 rfl ?_
  refine go_iald (pc := 79) 5 F dX3_swap_79 (kf_3_2 hk) (by decide) h (fun y8 h => ?_)
  refine go_istoren (pc := 80) (lv' := [(3, .int y8), (0, .ref (AD G k)), (1, .int x1), (2, .int x2)]) F dX3_swap_80 (by decide) rfl ?_
  refine go_aloadn (pc := 81) F dX3_swap_81 1 rfl ?_
  refine gf_X3_15 (pc := 82) F dX3_swap_82 hk ?_
  refine go_iloadn (pc := 85) F dX3_swap_85 2 rfl ?_
  refine go_aloadn (pc := 86) F dX3_swap_86 1 rfl ?_
  refine gf_X3_15 (pc := 87) F dX3_swap_87 hk ?_
  refine go_iloadn (pc := 90) F dX3_swap_90 3 rfl ?_
  refine go_iald (pc := 91) 5 F dX3_swap_91 (kf_3_2 hk) (by decide) h (fun y9 h => ?_)
  refine go_iast (pc := 92) 5 F dX3_swap_92 (kf_3_2 hk) (by decide) h (fun V10 h => ?_)
  refine go_aloadn (pc := 93) F dX3_swap_93 1 rfl ?_
  refine gf_X3_15 (pc := 94) F dX3_swap_94 hk ?_
  refine go_iloadn (pc := 97) F dX3_swap_97 3 rfl ?_
  refine go_iloadn (pc := 98) F dX3_swap_98 0 rfl ?_
  refine go_iast (pc := 99) 5 F dX3_swap_99 (kf_3_2 hk) (by decide) h (fun V11 h => ?_)
  exact go_vretW (pc := 100) F dX3_swap_100 h
set_option maxRecDepth 100000 in
set_option maxHeartbeats 4000000 in
theorem lb_X3_swap_19 {E : En} {G : Gm} (F : Fx E G (AG G) RX3 cX3_swap 5 none 1 21 0 0) {k : Nat} (hk : kd k = 3) {x1 : Int32} {x2 : Int32} {z : Wd} : ∀ (n : Nat) (V : Wd) (x3 : Int32), f_X3_swap_19 k x1 x2 n V x3 = some z → Go E G (AG G) 0 0 (MQq E G none z) 5 V 19 [(0, .ref (AD G k)), (1, .int x1), (2, .int x2), (3, .int x3)] [] := by
  intro n
  induction n with
  | zero => intro V x3 h; cases h
  | succ n ih =>
    intro V x3 h
    rw [f_X3_swap_19] at h
    refine go_iloadn (pc := 19) F dX3_swap_19 3 rfl ?_
    refine go_iconst (pc := 20) 4 F dX3_swap_20 (by decide) ?_
    refine go_icmp_ge (pc := 21) 74 F dX3_swap_21 (by decide) h (fun c7 h => ?_) (fun c7 h => ?_)
    · exact go_sub [0, 1, 2] rfl (lb_X3_swap_74 F hk V h)
    · refine go_aloadn (pc := 24) F dX3_swap_24 0 rfl ?_
      refine gf_X3_9 (pc := 25) F dX3_swap_25 hk ?_
      refine go_iloadn (pc := 28) F dX3_swap_28 1 rfl ?_
      refine go_iconst (pc := 29) 4 F dX3_swap_29 (by decide) ?_
      refine go_imul (pc := 30) F dX3_swap_30 ?_
      refine go_iloadn (pc := 31) F dX3_swap_31 3 rfl ?_
      refine go_iadd (pc := 32) F dX3_swap_32 ?_
      refine go_iald (pc := 33) 20 F dX3_swap_33 (kf_3_1 hk) (by decide) h (fun y3 h => ?_)
      refine go_istore (pc := 34) (lv' := [(4, .int y3), (0, .ref (AD G k)), (1, .int x1), (2, .int x2), (3, .int x3)]) F dX3_swap_34 (by decide) rfl ?_
      refine go_aloadn (pc := 36) F dX3_swap_36 1 rfl ?_
      refine gf_X3_9 (pc := 37) F dX3_swap_37 hk ?_
      refine go_iloadn (pc := 40) F dX3_swap_40 2 rfl ?_
      refine go_iconst (pc := 41) 4 F dX3_swap_41 (by decide) ?_
      refine go_imul (pc := 42) F dX3_swap_42 ?_
      refine go_iloadn (pc := 43) F dX3_swap_43 4 rfl ?_
      refine go_iadd (pc := 44) F dX3_swap_44 ?_
      refine go_aloadn (pc := 45) F dX3_swap_45 1 rfl ?_
      refine gf_X3_9 (pc := 46) F dX3_swap_46 hk ?_
      refine go_iloadn (pc := 49) F dX3_swap_49 3 rfl ?_
      refine go_iconst (pc := 50) 4 F dX3_swap_50 (by decide) ?_
      refine go_imul (pc := 51) F dX3_swap_51 ?_
      refine go_iloadn (pc := 52) F dX3_swap_52 4 rfl ?_
      refine go_iadd (pc := 53) F dX3_swap_53 ?_
      refine go_iald (pc := 54) 20 F dX3_swap_54 (kf_3_1 hk) (by decide) h (fun y4 h => ?_)
      refine go_iast (pc := 55) 20 F dX3_swap_55 (kf_3_1 hk) (by decide) h (fun V5 h => ?_)
      refine go_aloadn (pc := 56) F dX3_swap_56 1 rfl ?_
      refine gf_X3_9 (pc := 57) F dX3_swap_57 hk ?_
      refine go_iloadn (pc := 60) F dX3_swap_60 3 rfl ?_
      refine go_iconst (pc := 61) 4 F dX3_swap_61 (by decide) ?_
      refine go_imul (pc := 62) F dX3_swap_62 ?_
      refine go_iloadn (pc := 63) F dX3_swap_63 4 rfl ?_
      refine go_iadd (pc := 64) F dX3_swap_64 ?_
      refine go_iload (pc := 65) F dX3_swap_65 0 rfl ?_
      refine go_iast (pc := 67) 20 F dX3_swap_67 (kf_3_1 hk) (by decide) h (fun V6 h => ?_)
      refine go_iinc (pc := 68) (x3 + 1) (lv' := [(3, .int (x3 + 1)), (4, .int y3), (0, .ref (AD G k)), (1, .int x1), (2, .int x2)]) F dX3_swap_68 (k := 4) rfl rfl (by decide) rfl ?_
      refine go_goto (pc := 71) 19 F dX3_swap_71 (by decide) ?_
      exact go_sub [2, 3, 4, 0] rfl (ih V6 (x3 + 1) h)
set_option maxRecDepth 100000 in
set_option maxHeartbeats 4000000 in
theorem ct_X3_swap (l : Launch) (G : Gm) (k : Nat) (hk : kd k = 3) (V : Wd) (x1 : Int32) (x2 : Int32) (z : Wd) (h : f_X3_swap k V x1 x2 = some z) : Ct l G yX3_swap cX3_swap 5 none 1 21 [.ref (AD G k), .int x1, .int x2] V none z := by
  refine Ct.of (own := RX3) (by decide +kernel) rfl (Nat.le_of_ble_eq_true rfl) (fun E F he => ?_)
  clear he
  refine go_sub (lv' := [(0, .ref (AD G k)), (1, .int x1), (2, .int x2)]) [0, 1, 2] rfl ?_
  unfold f_X3_swap at h
  refine go_iloadn (pc := 0) F dX3_swap_0 1 rfl ?_
  refine go_iconst (pc := 1) 5 F dX3_swap_1 (by decide) ?_
  refine cv_X3_24 (pc := 2) F dX3_swap_2 (ct_X8_isBelow (enL E) G V x1 5) (by decide) (by decide) (Nat.le_of_ble_eq_true rfl) ?_
  refine go_if_eq (pc := 5) 16 F dX3_swap_5 (by decide) h (fun c2 h => ?_) (fun c2 h => ?_)
  · exact go_vretW (pc := 16) F dX3_swap_16 h
  · refine go_iloadn (pc := 8) F dX3_swap_8 2 rfl ?_
    refine go_iconst (pc := 9) 5 F dX3_swap_9 (by decide) ?_
    refine cv_X3_24 (pc := 10) F dX3_swap_10 (ct_X8_isBelow (enL E) G V x2 5) (by decide) (by decide) (Nat.le_of_ble_eq_true rfl) ?_
    refine go_if_ne (pc := 13) 17 F dX3_swap_13 (by decide) h (fun c1 h => ?_) (fun c1 h => ?_)
    · refine go_iconst (pc := 17) 0 F dX3_swap_17 (by decide) ?_
      refine go_istoren (pc := 18) (lv' := [(3, .int 0), (0, .ref (AD G k)), (1, .int x1), (2, .int x2)]) F dX3_swap_18 (by decide) rfl ?_
      exact go_sub [1, 2, 3, 0] rfl (lb_X3_swap_19 F hk FU_ V 0 h)
    · exact go_vretW (pc := 16) F dX3_swap_16 h
set_option maxRecDepth 100000 in
set_option maxHeartbeats 4000000 in
theorem lb_X3_countAll_4 {E : En} {G : Gm} (F : Fx E G (AG G) RX3 cX3_countAll 3 (some .int) 0 0 0 0) {k : Nat} (hk : kd k = 3) {V : Wd} {z : Int32} : ∀ (n : Nat) (x1 : Int32) (x2 : Int32), f_X3_countAll_4 k V n x1 x2 = some z → Go E G (AG G) 0 0 (MQq E G (some (.int z)) V) 3 V 4 [(0, .ref (AD G k)), (1, .int x1), (2, .int x2)] [] := by
  intro n
  induction n with
  | zero => intro x1 x2 h; cases h
  | succ n ih =>
    intro x1 x2 h
    rw [f_X3_countAll_4] at h
    refine go_iloadn (pc := 4) F dX3_countAll_4 2 rfl ?_
    refine go_iconst (pc := 5) 5 F dX3_countAll_5 (by decide) ?_
    refine go_icmp_ge (pc := 6) 24 F dX3_countAll_6 (by decide) h (fun c3 h => ?_) (fun c3 h => ?_)
    · refine go_iloadn (pc := 24) F dX3_countAll_24 1 rfl ?_
      exact go_iretR (pc := 25) F dX3_countAll_25 h
    · refine go_iloadn (pc := 9) F dX3_countAll_9 1 rfl ?_
      refine go_aloadn (pc := 10) F dX3_countAll_10 0 rfl ?_
      refine gf_X3_15 (pc := 11) F dX3_countAll_11 hk ?_
      refine go_iloadn (pc := 14) F dX3_countAll_14 2 rfl ?_
      refine go_iald (pc := 15) 5 F dX3_countAll_15 (kf_3_2 hk) (by decide) h (fun y1 h => ?_)
      refine go_iadd (pc := 16) F dX3_countAll_16 ?_
      refine go_topi h (fun y2 h => ?_)
      refine go_istoren (pc := 17) (lv' := [(1, .int y2), (0, .ref (AD G k)), (2, .int x2)]) F dX3_countAll_17 (by decide) rfl ?_
      refine go_iinc (pc := 18) (x2 + 1) (lv' := [(2, .int (x2 + 1)), (1, .int y2), (0, .ref (AD G k))]) F dX3_countAll_18 (k := 2) rfl rfl (by decide) rfl ?_
      refine go_goto (pc := 21) 4 F dX3_countAll_21 (by decide) ?_
      exact go_sub [2, 1, 0] rfl (ih y2 (x2 + 1) h)
set_option maxRecDepth 100000 in
set_option maxHeartbeats 4000000 in
theorem ct_X3_countAll (l : Launch) (G : Gm) (k : Nat) (hk : kd k = 3) (V : Wd) (z : Int32) (h : f_X3_countAll k V = some z) : Ct l G yX3_countAll cX3_countAll 3 (some .int) 0 0 [.ref (AD G k)] V (some (.int z)) V := by
  refine Ct.of (own := RX3) (by decide +kernel) rfl (Nat.le_of_ble_eq_true rfl) (fun E F he => ?_)
  clear he
  refine go_sub (lv' := [(0, .ref (AD G k))]) [0] rfl ?_
  unfold f_X3_countAll at h
  refine go_iconst (pc := 0) 0 F dX3_countAll_0 (by decide) ?_
  refine go_istoren (pc := 1) (lv' := [(1, .int 0), (0, .ref (AD G k))]) F dX3_countAll_1 (by decide) rfl ?_
  refine go_iconst (pc := 2) 0 F dX3_countAll_2 (by decide) ?_
  refine go_istoren (pc := 3) (lv' := [(2, .int 0), (1, .int 0), (0, .ref (AD G k))]) F dX3_countAll_3 (by decide) rfl ?_
  exact go_sub [2, 1, 0] rfl (lb_X3_countAll_4 F hk FU_ 0 0 h)
set_option maxRecDepth 100000 in
set_option maxHeartbeats 4000000 in
theorem lb_X3_countNotEmpty_4 {E : En} {G : Gm} (F : Fx E G (AG G) RX3 cX3_countNotEmpty 3 (some .int) 0 0 0 0) {k : Nat} (hk : kd k = 3) {V : Wd} {z : Int32} : ∀ (n : Nat) (x1 : Int32) (x2 : Int32), f_X3_countNotEmpty_4 k V n x1 x2 = some z → Go E G (AG G) 0 0 (MQq E G (some (.int z)) V) 3 V 4 [(0, .ref (AD G k)), (1, .int x1), (2, .int x2)] [] := by
  intro n
  induction n with
  | zero => intro x1 x2 h; cases h
  | succ n ih =>
    intro x1 x2 h
    rw [f_X3_countNotEmpty_4] at h
    refine go_iloadn (pc := 4) F dX3_countNotEmpty_4 2 rfl ?_
    refine go_iconst (pc := 5) 5 F dX3_countNotEmpty_5 (by decide) ?_
    refine go_icmp_ge (pc := 6) 27 F dX3_countNotEmpty_6 (by decide) h (fun c3 h => ?_) (fun c3 h => ?_)
    · refine go_iloadn (pc := 27) F dX3_countNotEmpty_27 1 rfl ?_
      exact go_iretR (pc := 28) F dX3_countNotEmpty_28 h
    · refine go_aloadn (pc := 9) F dX3_countNotEmpty_9 0 rfl ?_
      refine gf_X3_15 (pc := 10) F dX3_countNotEmpty_10 hk ?_
      refine go_iloadn (pc := 13) F dX3_countNotEmpty_13 2 rfl ?_
      refine go_iald (pc := 14) 5 F dX3_countNotEmpty_14 (kf_3_2 hk) (by decide) h (fun y1 h => ?_)
      refine go_if_le (pc := 15) 21 F dX3_countNotEmpty_15 (by decide) h (fun c2 h => ?_) (fun c2 h => ?_)
      · refine go_iinc (pc := 21) (x2 + 1) (lv' := [(2, .int (x2 + 1)), (0, .ref (AD G k)), (1, .int x1)]) F dX3_countNotEmpty_21 (k := 2) rfl rfl (by decide) rfl ?_
        refine go_goto (pc := 24) 4 F dX3_countNotEmpty_24 (by decide) ?_
        exact go_sub [1, 2, 0] rfl (ih x1 (x2 + 1) h)
      · refine go_iinc (pc := 18) (x1 + 1) (lv' := [(1, .int (x1 + 1)), (0, .ref (AD G k)), (2, .int x2)]) F dX3_countNotEmpty_18 (k := 1) rfl rfl (by decide) rfl ?_
        refine go_iinc (pc := 21) (x2 + 1) (lv' := [(2, .int (x2 + 1)), (1, .int (x1 + 1)), (0, .ref (AD G k))]) F dX3_countNotEmpty_21 (k := 2) rfl rfl (by decide) rfl ?_
        refine go_goto (pc := 24) 4 F dX3_countNotEmpty_24 (by decide) ?_
        exact go_sub [2, 1, 0] rfl (ih (x1 + 1) (x2 + 1) h)
set_option maxRecDepth 100000 in
set_option maxHeartbeats 4000000 in
theorem ct_X3_countNotEmpty (l : Launch) (G : Gm) (k : Nat) (hk : kd k = 3) (V : Wd) (z : Int32) (h : f_X3_countNotEmpty k V = some z) : Ct l G yX3_countNotEmpty cX3_countNotEmpty 3 (some .int) 0 0 [.ref (AD G k)] V (some (.int z)) V := by
  refine Ct.of (own := RX3) (by decide +kernel) rfl (Nat.le_of_ble_eq_true rfl) (fun E F he => ?_)
  clear he
  refine go_sub (lv' := [(0, .ref (AD G k))]) [0] rfl ?_
  unfold f_X3_countNotEmpty at h
  refine go_iconst (pc := 0) 0 F dX3_countNotEmpty_0 (by decide) ?_
  refine go_istoren (pc := 1) (lv' := [(1, .int 0), (0, .ref (AD G k))]) F dX3_countNotEmpty_1 (by decide) rfl ?_
  refine go_iconst (pc := 2) 0 F dX3_countNotEmpty_2 (by decide) ?_
  refine go_istoren (pc := 3) (lv' := [(2, .int 0), (1, .int 0), (0, .ref (AD G k))]) F dX3_countNotEmpty_3 (by decide) rfl ?_
  exact go_sub [2, 1, 0] rfl (lb_X3_countNotEmpty_4 F hk FU_ 0 0 h)
set_option maxRecDepth 100000 in
set_option maxHeartbeats 4000000 in
theorem lb_X3_countOf_12 {E : En} {G : Gm} (F : Fx E G (AG G) RX3 cX3_countOf 5 (some .int) 2 44 0 0) {k : Nat} (hk : kd k = 3) {V : Wd} {x1 : Int32} {K4 : Int32 → Int32 → Option (Int32)} {z : Int32} (hK4 : ∀ (a2 : Int32) (a3 : Int32), K4 a2 a3 = some z → Go E G (AG G) 0 0 (MQq E G (some (.int z)) V) 5 V 4 [(0, .ref (AD G k)), (1, .int x1), (2, .int a2), (3, .int a3)] []) : ∀ (n : Nat) (x2 : Int32) (x3 : Int32) (x4 : Int32), f_X3_countOf_12 k V x1 K4 n x2 x3 x4 = some z → Go E G (AG G) 0 0 (MQq E G (some (.int z)) V) 5 V 12 [(0, .ref (AD G k)), (1, .int x1), (2, .int x2), (3, .int x3), (4, .int x4)] [] := by
  intro n
  induction n with
  | zero => intro x2 x3 x4 h; cases h
  | succ n ih =>
    intro x2 x3 x4 h
    rw [f_X3_countOf_12] at h
    refine go_iload (pc := 12) F dX3_countOf_12 4 rfl ?_
    refine go_aloadn (pc := 14) F dX3_countOf_14 0 rfl ?_
    refine gf_X3_15 (pc := 15) F dX3_countOf_15 hk ?_
    refine go_iloadn (pc := 18) F dX3_countOf_18 3 rfl ?_
    refine go_iald (pc := 19) 5 F dX3_countOf_19 (kf_3_2 hk) (by decide) h (fun y2 h => ?_)
    refine go_icmp_gt (pc := 20) 43 F dX3_countOf_20 (by decide) h (fun c5 h => ?_) (fun c5 h => ?_)
    · refine go_iinc (pc := 43) (x3 + 1) (lv' := [(3, .int (x3 + 1)), (0, .ref (AD G k)), (1, .int x1), (2, .int x2), (4, .int x4)]) F dX3_countOf_43 (k := 3) rfl rfl (by decide) rfl ?_
      refine go_goto (pc := 46) 4 F dX3_countOf_46 (by decide) ?_
      exact go_sub [1, 2, 3, 0] rfl (hK4 x2 (x3 + 1) h)
    · refine go_aloadn (pc := 23) F dX3_countOf_23 0 rfl ?_
      refine go_iloadn (pc := 24) F dX3_countOf_24 3 rfl ?_
      refine go_iload (pc := 25) F dX3_countOf_25 4 rfl ?_
      obtain ⟨y3, hy3, h⟩ := ob_ h
      refine cv_X3_31 (pc := 27) F dX3_countOf_27 hk (ct_X3_signAt (enL E) G k hk V x3 x4 y3 hy3) (by decide) (by decide) (Nat.le_of_ble_eq_true rfl) ?_
      refine go_iloadn (pc := 30) F dX3_countOf_30 1 rfl ?_
      refine go_icmp_ne (pc := 31) 37 F dX3_countOf_31 (by decide) h (fun c4 h => ?_) (fun c4 h => ?_)
      · refine go_iinc (pc := 37) (x4 + 1) (lv' := [(4, .int (x4 + 1)), (0, .ref (AD G k)), (1, .int x1), (2, .int x2), (3, .int x3)]) F dX3_countOf_37 (k := 4) rfl rfl (by decide) rfl ?_
        refine go_goto (pc := 40) 12 F dX3_countOf_40 (by decide) ?_
        exact go_sub [1, 2, 3, 4, 0] rfl (ih x2 x3 (x4 + 1) h)
      · refine go_iinc (pc := 34) (x2 + 1) (lv' := [(2, .int (x2 + 1)), (0, .ref (AD G k)), (1, .int x1), (3, .int x3), (4, .int x4)]) F dX3_countOf_34 (k := 2) rfl rfl (by decide) rfl ?_
        refine go_iinc (pc := 37) (x4 + 1) (lv' := [(4, .int (x4 + 1)), (2, .int (x2 + 1)), (0, .ref (AD G k)), (1, .int x1), (3, .int x3)]) F dX3_countOf_37 (k := 4) rfl rfl (by decide) rfl ?_
        refine go_goto (pc := 40) 12 F dX3_countOf_40 (by decide) ?_
        exact go_sub [2, 3, 1, 4, 0] rfl (ih (x2 + 1) x3 (x4 + 1) h)
set_option maxRecDepth 100000 in
set_option maxHeartbeats 4000000 in
theorem lb_X3_countOf_4 {E : En} {G : Gm} (F : Fx E G (AG G) RX3 cX3_countOf 5 (some .int) 2 44 0 0) {k : Nat} (hk : kd k = 3) {V : Wd} {x1 : Int32} {z : Int32} : ∀ (n : Nat) (x2 : Int32) (x3 : Int32), f_X3_countOf_4 k V x1 n x2 x3 = some z → Go E G (AG G) 0 0 (MQq E G (some (.int z)) V) 5 V 4 [(0, .ref (AD G k)), (1, .int x1), (2, .int x2), (3, .int x3)] [] := by
  intro n
  induction n with
  | zero => intro x2 x3 h; cases h
  | succ n ih =>
    intro x2 x3 h
    rw [f_X3_countOf_4] at h
    refine go_iloadn (pc := 4) F dX3_countOf_4 3 rfl ?_
    refine go_iconst (pc := 5) 5 F dX3_countOf_5 (by decide) ?_
    refine go_icmp_ge (pc := 6) 49 F dX3_countOf_6 (by decide) h (fun c1 h => ?_) (fun c1 h => ?_)
    · refine go_iloadn (pc := 49) F dX3_countOf_49 2 rfl ?_
      exact go_iretR (pc := 50) F dX3_countOf_50 h
    · refine go_iconst (pc := 9) 1 F dX3_countOf_9 (by decide) ?_
      refine go_istore (pc := 10) (lv' := [(4, .int 1), (0, .ref (AD G k)), (1, .int x1), (2, .int x2), (3, .int x3)]) F dX3_countOf_10 (by decide) rfl ?_
      exact go_sub [1, 2, 3, 4, 0] rfl (lb_X3_countOf_12 F hk (fun a2 a3 h => ih a2 a3 h) FU_ x2 x3 1 h)
set_option maxRecDepth 100000 in
set_option maxHeartbeats 4000000 in
theorem ct_X3_countOf (l : Launch) (G : Gm) (k : Nat) (hk : kd k = 3) (V : Wd) (x1 : Int32) (z : Int32) (h : f_X3_countOf k V x1 = some z) : Ct l G yX3_countOf cX3_countOf 5 (some .int) 2 44 [.ref (AD G k), .int x1] V (some (.int z)) V := by
  refine Ct.of (own := RX3) (by decide +kernel) rfl (Nat.le_of_ble_eq_true rfl) (fun E F he => ?_)
  clear he
  refine go_sub (lv' := [(0, .ref (AD G k)), (1, .int x1)]) [0, 1] rfl ?_
  unfold f_X3_countOf at h
  refine go_iconst (pc := 0) 0 F dX3_countOf_0 (by decide) ?_
  refine go_istoren (pc := 1) (lv' := [(2, .int 0), (0, .ref (AD G k)), (1, .int x1)]) F dX3_countOf_1 (by decide) rfl ?_
  refine go_iconst (pc := 2) 0 F dX3_countOf_2 (by decide) ?_
  refine go_istoren (pc := 3) (lv' := [(3, .int 0), (2, .int 0), (0, .ref (AD G k)), (1, .int x1)]) F dX3_countOf_3 (by decide) rfl ?_
  exact go_sub [2, 3, 1, 0] rfl (lb_X3_countOf_4 F hk FU_ 0 0 h)
set_option maxRecDepth 100000 in
set_option maxHeartbeats 4000000 in
theorem lb_X3_mostOfAKind_4 {E : En} {G : Gm} (F : Fx E G (AG G) RX3 cX3_mostOfAKind 3 (some .int) 3 68 0 0) {k : Nat} (hk : kd k = 3) {V : Wd} {z : Int32} : ∀ (n : Nat) (x1 : Int32) (x2 : Int32), f_X3_mostOfAKind_4 k V n x1 x2 = some z → Go E G (AG G) 0 0 (MQq E G (some (.int z)) V) 3 V 4 [(0, .ref (AD G k)), (1, .int x1), (2, .int x2)] [] := by
  intro n
  induction n with
  | zero => intro x1 x2 h; cases h
  | succ n ih =>
    intro x1 x2 h
    rw [f_X3_mostOfAKind_4] at h
    refine go_iloadn (pc := 4) F dX3_mostOfAKind_4 2 rfl ?_
    refine go_bipush (pc := 5) 13 F dX3_mostOfAKind_5 (by decide) ?_
    refine go_icmp_gt (pc := 7) 26 F dX3_mostOfAKind_7 (by decide) h (fun c3 h => ?_) (fun c3 h => ?_)
    · refine go_iloadn (pc := 26) F dX3_mostOfAKind_26 1 rfl ?_
      exact go_iretR (pc := 27) F dX3_mostOfAKind_27 h
    · refine go_iloadn (pc := 10) F dX3_mostOfAKind_10 1 rfl ?_
      refine go_aloadn (pc := 11) F dX3_mostOfAKind_11 0 rfl ?_
      refine go_iloadn (pc := 12) F dX3_mostOfAKind_12 2 rfl ?_
      obtain ⟨y1, hy1, h⟩ := ob_ h
      refine cv_X3_39 (pc := 13) F dX3_mostOfAKind_13 hk (ct_X3_countOf (enL E) G k hk V x2 y1 hy1) (by decide) (by decide) (Nat.le_of_ble_eq_true rfl) ?_
      refine go_max (pc := 16) F dX3_mostOfAKind_16 ml_X3_42 (by decide) (Nat.le_of_ble_eq_true rfl) ?_
      refine go_topi h (fun y2 h => ?_)
      refine go_istoren (pc := 19) (lv' := [(1, .int y2), (0, .ref (AD G k)), (2, .int x2)]) F dX3_mostOfAKind_19 (by decide) rfl ?_
      refine go_iinc (pc := 20) (x2 + 1) (lv' := [(2, .int (x2 + 1)), (1, .int y2), (0, .ref (AD G k))]) F dX3_mostOfAKind_20 (k := 2) rfl rfl (by decide) rfl ?_
      refine go_goto (pc := 23) 4 F dX3_mostOfAKind_23 (by decide) ?_
      exact go_sub [2, 1, 0] rfl (ih y2 (x2 + 1) h)
set_option maxRecDepth 100000 in
set_option maxHeartbeats 4000000 in
theorem ct_X3_mostOfAKind (l : Launch) (G : Gm) (k : Nat) (hk : kd k = 3) (V : Wd) (z : Int32) (h : f_X3_mostOfAKind k V = some z) : Ct l G yX3_mostOfAKind cX3_mostOfAKind 3 (some .int) 3 68 [.ref (AD G k)] V (some (.int z)) V := by
  refine Ct.of (own := RX3) (by decide +kernel) rfl (Nat.le_of_ble_eq_true rfl) (fun E F he => ?_)
  clear he
  refine go_sub (lv' := [(0, .ref (AD G k))]) [0] rfl ?_
  unfold f_X3_mostOfAKind at h
  refine go_iconst (pc := 0) 0 F dX3_mostOfAKind_0 (by decide) ?_
  refine go_istoren (pc := 1) (lv' := [(1, .int 0), (0, .ref (AD G k))]) F dX3_mostOfAKind_1 (by decide) rfl ?_
  refine go_iconst (pc := 2) 0 F dX3_mostOfAKind_2 (by decide) ?_
  refine go_istoren (pc := 3) (lv' := [(2, .int 0), (1, .int 0), (0, .ref (AD G k))]) F dX3_mostOfAKind_3 (by decide) rfl ?_
  exact go_sub [2, 1, 0] rfl (lb_X3_mostOfAKind_4 F hk FU_ 0 0 h)
set_option maxRecDepth 100000 in
set_option maxHeartbeats 4000000 in
theorem ct_X4_size (l : Launch) (G : Gm) (k : Nat) (hk : kd k = 5) (V : Wd) : Ct l G yX4_size cX4_size 1 (some .int) 0 0 [.ref (AD G k)] V (some (.int (f_X4_size k V))) V := by
  generalize h : f_X4_size k V = z
  refine Ct.of (own := RX4) (by decide +kernel) rfl (Nat.le_of_ble_eq_true rfl) (fun E F he => ?_)
  clear he
  refine go_sub (lv' := [(0, .ref (AD G k))]) [0] rfl ?_
  unfold f_X4_size at h
  refine go_aloadn (pc := 0) F dX4_size_0 0 rfl ?_
  refine gf_X4_18 (pc := 1) F dX4_size_1 hk ?_
  exact go_iretT (pc := 4) F dX4_size_4 h
set_option maxRecDepth 100000 in
set_option maxHeartbeats 4000000 in
theorem ct_X4_countAll (l : Launch) (G : Gm) (k : Nat) (hk : kd k = 5) (V : Wd) : Ct l G yX4_countAll cX4_countAll 1 (some .int) 0 0 [.ref (AD G k)] V (some (.int (f_X4_countAll k V))) V := by
  generalize h : f_X4_countAll k V = z
  refine Ct.of (own := RX4) (by decide +kernel) rfl (Nat.le_of_ble_eq_true rfl) (fun E F he => ?_)
  clear he
  refine go_sub (lv' := [(0, .ref (AD G k))]) [0] rfl ?_
  unfold f_X4_countAll at h
  refine go_aloadn (pc := 0) F dX4_countAll_0 0 rfl ?_
  refine gf_X4_22 (pc := 1) F dX4_countAll_1 hk ?_
  exact go_iretT (pc := 4) F dX4_countAll_4 h
set_option maxRecDepth 100000 in
set_option maxHeartbeats 4000000 in
theorem ct_X4_wordsOf (l : Launch) (G : Gm) (k : Nat) (hk : kd k = 5) (V : Wd) (x1 : Int32) (z : Int32) (h : f_X4_wordsOf k V x1 = some z) : Ct l G yX4_wordsOf cX4_wordsOf 2 (some .int) 1 21 [.ref (AD G k), .int x1] V (some (.int z)) V := by
  refine Ct.of (own := RX4) (by decide +kernel) rfl (Nat.le_of_ble_eq_true rfl) (fun E F he => ?_)
  clear he
  refine go_sub (lv' := [(0, .ref (AD G k)), (1, .int x1)]) [0, 1] rfl ?_
  unfold f_X4_wordsOf at h
  refine go_iloadn (pc := 0) F dX4_wordsOf_0 1 rfl ?_
  refine go_bipush (pc := 1) 8 F dX4_wordsOf_1 (by decide) ?_
  refine cv_X4_31 (pc := 3) F dX4_wordsOf_3 (ct_X8_isBelow (enL E) G V x1 8) (by decide) (by decide) (Nat.le_of_ble_eq_true rfl) ?_
  refine go_if_eq (pc := 6) 18 F dX4_wordsOf_6 (by decide) h (fun c2 h => ?_) (fun c2 h => ?_)
  · refine go_iconst (pc := 18) 0 F dX4_wordsOf_18 (by decide) ?_
    exact go_iretR (pc := 19) F dX4_wordsOf_19 h
  · refine go_aloadn (pc := 9) F dX4_wordsOf_9 0 rfl ?_
    refine gf_X4_15 (pc := 10) F dX4_wordsOf_10 hk ?_
    refine go_iloadn (pc := 13) F dX4_wordsOf_13 1 rfl ?_
    refine go_iald (pc := 14) 8 F dX4_wordsOf_14 (kf_5_2 hk) (by decide) h (fun y1 h => ?_)
    refine go_goto (pc := 15) 19 F dX4_wordsOf_15 (by decide) ?_
    exact go_iretR (pc := 19) F dX4_wordsOf_19 h
set_option maxRecDepth 100000 in
set_option maxHeartbeats 4000000 in
theorem ct_X4_wordAt (l : Launch) (G : Gm) (k : Nat) (hk : kd k = 5) (V : Wd) (x1 : Int32) (x2 : Int32) (z : Int32) (h : f_X4_wordAt k V x1 x2 = some z) : Ct l G yX4_wordAt cX4_wordAt 3 (some .int) 1 21 [.ref (AD G k), .int x1, .int x2] V (some (.int z)) V := by
  refine Ct.of (own := RX4) (by decide +kernel) rfl (Nat.le_of_ble_eq_true rfl) (fun E F he => ?_)
  clear he
  refine go_sub (lv' := [(0, .ref (AD G k)), (1, .int x1), (2, .int x2)]) [0, 1, 2] rfl ?_
  unfold f_X4_wordAt at h
  refine go_iloadn (pc := 0) F dX4_wordAt_0 2 rfl ?_
  refine go_iconst (pc := 1) 5 F dX4_wordAt_1 (by decide) ?_
  refine cv_X4_31 (pc := 2) F dX4_wordAt_2 (ct_X8_isBelow (enL E) G V x2 5) (by decide) (by decide) (Nat.le_of_ble_eq_true rfl) ?_
  refine go_if_eq (pc := 5) 30 F dX4_wordAt_5 (by decide) h (fun c3 h => ?_) (fun c3 h => ?_)
  · refine go_bipush (pc := 30) (-6) F dX4_wordAt_30 (by decide) ?_
    exact go_iretR (pc := 32) F dX4_wordAt_32 h
  · refine go_iloadn (pc := 8) F dX4_wordAt_8 1 rfl ?_
    refine go_bipush (pc := 9) 8 F dX4_wordAt_9 (by decide) ?_
    refine cv_X4_31 (pc := 11) F dX4_wordAt_11 (ct_X8_isBelow (enL E) G V x1 8) (by decide) (by decide) (Nat.le_of_ble_eq_true rfl) ?_
    refine go_if_eq (pc := 14) 30 F dX4_wordAt_14 (by decide) h (fun c2 h => ?_) (fun c2 h => ?_)
    · refine go_bipush (pc := 30) (-6) F dX4_wordAt_30 (by decide) ?_
      exact go_iretR (pc := 32) F dX4_wordAt_32 h
    · refine go_aloadn (pc := 17) F dX4_wordAt_17 0 rfl ?_
      refine gf_X4_9 (pc := 18) F dX4_wordAt_18 hk ?_
      refine go_iloadn (pc := 21) F dX4_wordAt_21 1 rfl ?_
      refine go_iconst (pc := 22) 5 F dX4_wordAt_22 (by decide) ?_
      refine go_imul (pc := 23) F dX4_wordAt_23 ?_
      refine go_iloadn (pc := 24) F dX4_wordAt_24 2 rfl ?_
      refine go_iadd (pc := 25) F dX4_wordAt_25 ?_
      refine go_iald (pc := 26) 40 F dX4_wordAt_26 (kf_5_1 hk) (by decide) h (fun y1 h => ?_)
      refine go_goto (pc := 27) 32 F dX4_wordAt_27 (by decide) ?_
      exact go_iretR (pc := 32) F dX4_wordAt_32 h
set_option maxRecDepth 100000 in
set_option maxHeartbeats 4000000 in
theorem lb_X4_add_92 {E : En} {G : Gm} (F : Fx E G (AG G) RX4 cX4_add 4 none 1 26 0 0) {k : Nat} (hk : kd k = 5) {k1 : Nat} (hk1 : kd k1 = 1005) {x2 : Int32} {z : Wd} (V : Wd) (h : f_X4_add_92 k k1 x2 V = some z) : Go E G (AG G) 0 0 (MQq E G none z) 4 V 92 [(0, .ref (AD G k)), (2, .int x2)] [] := by
  unfold f_X4_add_92 at h
  refine go_aloadn (pc := 92) F dX4_add_92 0 rfl ?_
  refine gf_X4_15 (pc := 93) F dX4_add_93 hk ?_
  refine go_aloadn (pc := 96) F dX4_add_96 0 rfl ?_
  refine gf_X4_18 (pc := 97) F dX4_add_97 hk ?_
  refine go_iloadn (pc := 100) F dX4_add_100 1 rfl ?_
  refine go_iast (pc := 101) 8 F dX4_add_101 (kf_5_2 hk) (by decide) h (fun V11 h => ?_)
  refine go_aloadn (pc := 102) F dX4_add_102 0 rfl ?_
  refine go_dup (pc := 103) F dX4_add_103 rfl ?_
  refine gf_X4_18 (pc := 104) F dX4_add_104 hk ?_
  refine go_iconst (pc := 107) 1 F dX4_add_107 (by decide) ?_
  refine go_iadd (pc := 108) F dX4_add_108 ?_
  refine pf_X4_18 (pc := 109) F dX4_add_109 hk h (fun V12 h => ?_)
  refine go_aloadn (pc := 112) F dX4_add_112 0 rfl ?_
  refine go_dup (pc := 113) F dX4_add_113 rfl ?_
  refine gf_X4_22 (pc := 114) F dX4_add_114 hk ?_
  refine go_iconst (pc := 117) 1 F dX4_add_117 (by decide) ?_
  refine go_iadd (pc := 118) F dX4_add_118 ?_
  refine pf_X4_22 (pc := 119) F dX4_add_119 hk h (fun V13 h => ?_)
  exact go_vretW (pc := 122) F dX4_add_122 h
set_option maxRecDepth 100000 in
set_option maxHeartbeats 4000000 in
theorem lb_X4_add_59 {E : En} {G : Gm} (F : Fx E G (AG G) RX4 cX4_add 4 none 1 26 0 0) {k : Nat} (hk : kd k = 5) {k1 : Nat} (hk1 : kd k1 = 1005) {x2 : Int32} {z : Wd} : ∀ (n : Nat) (V : Wd) (x3 : Int32), f_X4_add_59 k k1 x2 n V x3 = some z → Go E G (AG G) 0 0 (MQq E G none z) 4 V 59 [(0, .ref (AD G k)), (1, .ref (AD G k1)), (2, .int x2), (3, .int x3)] [] := by
  intro n
  induction n with
  | zero => intro V x3 h; cases h
  | succ n ih =>
    intro V x3 h
    rw [f_X4_add_59] at h
    refine go_iloadn (pc := 59) F dX4_add_59 3 rfl ?_
    refine go_iconst (pc := 60) 5 F dX4_add_60 (by decide) ?_
    refine go_icmp_ge (pc := 61) 92 F dX4_add_61 (by decide) h (fun c10 h => ?_) (fun c10 h => ?_)
    · exact go_sub [0, 2] rfl (lb_X4_add_92 F hk hk1 V h)
    · refine go_iloadn (pc := 64) F dX4_add_64 3 rfl ?_
      refine go_aloadn (pc := 65) F dX4_add_65 1 rfl ?_
      refine go_alen (pc := 66) 5 F dX4_add_66 hk1 (by decide) 5 (by decide) ?_
      refine go_icmp_ge (pc := 67) 92 F dX4_add_67 (by decide) h (fun c9 h => ?_) (fun c9 h => ?_)
      · exact go_sub [0, 2] rfl (lb_X4_add_92 F hk hk1 V h)
      · refine go_aloadn (pc := 70) F dX4_add_70 0 rfl ?_
        refine gf_X4_9 (pc := 71) F dX4_add_71 hk ?_
        refine go_aloadn (pc := 74) F dX4_add_74 0 rfl ?_
        refine gf_X4_18 (pc := 75) F dX4_add_75 hk ?_
        refine go_iconst (pc := 78) 5 F dX4_add_78 (by decide) ?_
        refine go_imul (pc := 79) F dX4_add_79 ?_
        refine go_iloadn (pc := 80) F dX4_add_80 3 rfl ?_
        refine go_iadd (pc := 81) F dX4_add_81 ?_
        refine go_aloadn (pc := 82) F dX4_add_82 1 rfl ?_
        refine go_iloadn (pc := 83) F dX4_add_83 3 rfl ?_
        refine go_iald (pc := 84) 5 F dX4_add_84 hk1 (by decide) h (fun y7 h => ?_)
        refine go_iast (pc := 85) 40 F dX4_add_85 (kf_5_1 hk) (by decide) h (fun V8 h => ?_)
        refine go_iinc (pc := 86) (x3 + 1) (lv' := [(3, .int (x3 + 1)), (0, .ref (AD G k)), (1, .ref (AD G k1)), (2, .int x2)]) F dX4_add_86 (k := 3) rfl rfl (by decide) rfl ?_
        refine go_goto (pc := 89) 59 F dX4_add_89 (by decide) ?_
        exact go_sub [1, 2, 3, 0] rfl (ih V8 (x3 + 1) h)
set_option maxRecDepth 100000 in
set_option maxHeartbeats 4000000 in
theorem ct_X4_add (l : Launch) (G : Gm) (k k1 : Nat) (hk : kd k = 5) (hk1 : kd k1 = 1005) (V : Wd) (x2 : Int32) (z : Wd) (h : f_X4_add k k1 V x2 = some z) : Ct l G yX4_add cX4_add 4 none 1 26 [.ref (AD G k), .ref (AD G k1), .int x2] V none z := by
  refine Ct.of (own := RX4) (by decide +kernel) rfl (Nat.le_of_ble_eq_true rfl) (fun E F he => ?_)
  clear he
  refine go_sub (lv' := [(0, .ref (AD G k)), (1, .ref (AD G k1)), (2, .int x2)]) [0, 1, 2] rfl ?_
  unfold f_X4_add at h
  refine go_aloadn (pc := 0) F dX4_add_0 0 rfl ?_
  refine gf_X4_18 (pc := 1) F dX4_add_1 hk ?_
  refine go_bipush (pc := 4) 8 F dX4_add_4 (by decide) ?_
  refine go_icmp_lt (pc := 6) 45 F dX4_add_6 (by decide) h (fun c6 h => ?_) (fun c6 h => ?_)
  · refine go_aloadn (pc := 45) F dX4_add_45 0 rfl ?_
    refine gf_X4_18 (pc := 46) F dX4_add_46 hk ?_
    refine go_bipush (pc := 49) 8 F dX4_add_49 (by decide) ?_
    refine cv_X4_31 (pc := 51) F dX4_add_51 (ct_X8_isBelow (enL E) G V (V k 2) 8) (by decide) (by decide) (Nat.le_of_ble_eq_true rfl) ?_
    refine go_if_eq (pc := 54) 122 F dX4_add_54 (by decide) h (fun c1 h => ?_) (fun c1 h => ?_)
    · exact go_vretW (pc := 122) F dX4_add_122 h
    · refine go_iconst (pc := 57) 0 F dX4_add_57 (by decide) ?_
      refine go_istoren (pc := 58) (lv' := [(3, .int 0), (0, .ref (AD G k)), (1, .ref (AD G k1)), (2, .int x2)]) F dX4_add_58 (by decide) rfl ?_
      exact go_sub [1, 2, 3, 0] rfl (lb_X4_add_59 F hk hk1 FU_ V 0 h)
  · refine go_aloadn (pc := 9) F dX4_add_9 0 rfl ?_
    refine gf_X4_9 (pc := 10) F dX4_add_10 hk ?_
    refine go_iconst (pc := 13) 5 F dX4_add_13 (by decide) ?_
    refine go_aloadn (pc := 14) F dX4_add_14 0 rfl ?_
    refine gf_X4_9 (pc := 15) F dX4_add_15 hk ?_
    refine go_iconst (pc := 18) 0 F dX4_add_18 (by decide) ?_
    refine go_bipush (pc := 19) 35 F dX4_add_19 (by decide) ?_
    refine go_copy (pc := 21) 40 40 5 0 35 F dX4_add_21 ml_X4_25 (kf_5_1 hk) (by decide) (kf_5_1 hk) (by decide) rfl rfl rfl (by decide) (by decide) (by decide) (by decide) (by decide) (by decide) (Nat.le_of_ble_eq_true rfl) h (fun V2 h => ?_)
    refine go_aloadn (pc := 24) F dX4_add_24 0 rfl ?_
    refine gf_X4_15 (pc := 25) F dX4_add_25 hk ?_
    refine go_iconst (pc := 28) 1 F dX4_add_28 (by decide) ?_
    refine go_aloadn (pc := 29) F dX4_add_29 0 rfl ?_
    refine gf_X4_15 (pc := 30) F dX4_add_30 hk ?_
    refine go_iconst (pc := 33) 0 F dX4_add_33 (by decide) ?_
    refine go_bipush (pc := 34) 7 F dX4_add_34 (by decide) ?_
    refine go_copy (pc := 36) 8 8 1 0 7 F dX4_add_36 ml_X4_25 (kf_5_2 hk) (by decide) (kf_5_2 hk) (by decide) rfl rfl rfl (by decide) (by decide) (by decide) (by decide) (by decide) (by decide) (Nat.le_of_ble_eq_true rfl) h (fun V3 h => ?_)
    refine go_aloadn (pc := 39) F dX4_add_39 0 rfl ?_
    refine go_bipush (pc := 40) 7 F dX4_add_40 (by decide) ?_
    refine pf_X4_18 (pc := 42) F dX4_add_42 hk h (fun V4 h => ?_)
    refine go_aloadn (pc := 45) F dX4_add_45 0 rfl ?_
    refine gf_X4_18 (pc := 46) F dX4_add_46 hk ?_
    refine go_bipush (pc := 49) 8 F dX4_add_49 (by decide) ?_
    refine cv_X4_31 (pc := 51) F dX4_add_51 (ct_X8_isBelow (enL E) G V4 (V4 k 2) 8) (by decide) (by decide) (Nat.le_of_ble_eq_true rfl) ?_
    refine go_if_eq (pc := 54) 122 F dX4_add_54 (by decide) h (fun c5 h => ?_) (fun c5 h => ?_)
    · exact go_vretW (pc := 122) F dX4_add_122 h
    · refine go_iconst (pc := 57) 0 F dX4_add_57 (by decide) ?_
      refine go_istoren (pc := 58) (lv' := [(3, .int 0), (0, .ref (AD G k)), (1, .ref (AD G k1)), (2, .int x2)]) F dX4_add_58 (by decide) rfl ?_
      exact go_sub [1, 2, 3, 0] rfl (lb_X4_add_59 F hk hk1 FU_ V4 0 h)
set_option maxRecDepth 100000 in
set_option maxHeartbeats 4000000 in
theorem lb_X5_arrange_49 {E : En} {G : Gm} (F : Fx E G (AG G) RX5 cX5_arrange 5 none 1 21 0 0) {k : Nat} (hk : kd k = 8) {x1 : Int32} {x2 : Int32} {K7 : Wd → Int32 → Option (Wd)} {z : Wd} (hK7 : ∀ (V1 : Wd) (a3 : Int32), K7 V1 a3 = some z → Go E G (AG G) 0 0 (MQq E G none z) 5 V1 7 [(0, .ref (AD G k)), (1, .int x1), (2, .int x2), (3, .int a3)] []) (V : Wd) (x3 : Int32) (x4 : Int32) (h : f_X5_arrange_49 k x1 x2 K7 V x3 x4 = some z) : Go E G (AG G) 0 0 (MQq E G none z) 5 V 49 [(0, .ref (AD G k)), (1, .int x1), (2, .int x2), (3, .int x3), (4, .int x4)] [] := by
  unfold f_X5_arrange_49 at h
  refine go_iload (pc := 49) F dX5_arrange_49 4 rfl ?_
  refine go_iconst (pc := 51) 5 F dX5_arrange_51 (by decide) ?_
  refine cv_X5_39 (pc := 52) F dX5_arrange_52 (ct_X8_isBelow (enL E) G V x4 5) (by decide) (by decide) (Nat.le_of_ble_eq_true rfl) ?_
  refine go_if_eq (pc := 55) 107 F dX5_arrange_55 (by decide) h (fun c12 h => ?_) (fun c12 h => ?_)
  · refine go_iinc (pc := 107) (x3 + 1) (lv' := [(3, .int (x3 + 1)), (0, .ref (AD G k)), (1, .int x1), (2, .int x2), (4, .int x4)]) F dX5_arrange_107 (k := 3) rfl rfl (by decide) rfl ?_
    refine go_goto (pc := 110) 7 F dX5_arrange_110 (by decide) ?_
    exact go_sub [1, 2, 3, 0] rfl (hK7 V (x3 + 1) h)
  · refine go_aloadn (pc := 58) F dX5_arrange_58 0 rfl ?_
    refine gf_X5_18 (pc := 59) F dX5_arrange_59 hk ?_
    refine go_iconst (pc := 62) 5 F dX5_arrange_62 (by decide) ?_
    refine cv_X5_39 (pc := 63) F dX5_arrange_63 (ct_X8_isBelow (enL E) G V (V k 3) 5) (by decide) (by decide) (Nat.le_of_ble_eq_true rfl) ?_
    refine go_if_eq (pc := 66) 107 F dX5_arrange_66 (by decide) h (fun c11 h => ?_) (fun c11 h => ?_)
    · refine go_iinc (pc := 107) (x3 + 1) (lv' := [(3, .int (x3 + 1)), (0, .ref (AD G k)), (1, .int x1), (2, .int x2), (4, .int x4)]) F dX5_arrange_107 (k := 3) rfl rfl (by decide) rfl ?_
      refine go_goto (pc := 110) 7 F dX5_arrange_110 (by decide) ?_
      exact go_sub [1, 2, 3, 0] rfl (hK7 V (x3 + 1) h)
    · refine go_aloadn (pc := 69) F dX5_arrange_69 0 rfl ?_
      refine gf_X5_9 (pc := 70) F dX5_arrange_70 hk ?_
      refine go_iload (pc := 73) F dX5_arrange_73 4 rfl ?_
      refine go_iald (pc := 75) 5 F dX5_arrange_75 (kf_8_1 hk) (by decide) h (fun y6 h => ?_)
      refine go_bipush (pc := 76) (-7) F dX5_arrange_76 (by decide) ?_
      refine go_icmp_eq (pc := 78) 107 F dX5_arrange_78 (by decide) h (fun c10 h => ?_) (fun c10 h => ?_)
      · refine go_iinc (pc := 107) (x3 + 1) (lv' := [(3, .int (x3 + 1)), (0, .ref (AD G k)), (1, .int x1), (2, .int x2), (4, .int x4)]) F dX5_arrange_107 (k := 3) rfl rfl (by decide) rfl ?_
        refine go_goto (pc := 110) 7 F dX5_arrange_110 (by decide) ?_
        exact go_sub [1, 2, 3, 0] rfl (hK7 V (x3 + 1) h)
      · refine go_aloadn (pc := 81) F dX5_arrange_81 0 rfl ?_
        refine gf_X5_15 (pc := 82) F dX5_arrange_82 hk ?_
        refine go_aloadn (pc := 85) F dX5_arrange_85 0 rfl ?_
        refine gf_X5_18 (pc := 86) F dX5_arrange_86 hk ?_
        refine go_aloadn (pc := 89) F dX5_arrange_89 0 rfl ?_
        refine gf_X5_9 (pc := 90) F dX5_arrange_90 hk ?_
        refine go_iload (pc := 93) F dX5_arrange_93 4 rfl ?_
        refine go_iald (pc := 95) 5 F dX5_arrange_95 (kf_8_1 hk) (by decide) h (fun y7 h => ?_)
        refine go_iast (pc := 96) 5 F dX5_arrange_96 (kf_8_2 hk) (by decide) h (fun V8 h => ?_)
        refine go_aloadn (pc := 97) F dX5_arrange_97 0 rfl ?_
        refine go_dup (pc := 98) F dX5_arrange_98 rfl ?_
        refine gf_X5_18 (pc := 99) F dX5_arrange_99 hk ?_
        refine go_iconst (pc := 102) 1 F dX5_arrange_102 (by decide) ?_
        refine go_iadd (pc := 103) F dX5_arrange_103 ?_
        refine pf_X5_18 (pc := 104) F dX5_arrange_104 hk h (fun V9 h => ?_)
        refine go_iinc (pc := 107) (x3 + 1) (lv' := [(3, .int (x3 + 1)), (0, .ref (AD G k)), (1, .int x1), (2, .int x2), (4, .int x4)]) F dX5_arrange_107 (k := 3) rfl rfl (by decide) rfl ?_
        refine go_goto (pc := 110) 7 F dX5_arrange_110 (by decide) ?_
        exact go_sub [1, 2, 3, 0] rfl (hK7 V9 (x3 + 1) h)
set_option maxRecDepth 100000 in
set_option maxHeartbeats 4000000 in
theorem lb_X5_arrange_26 {E : En} {G : Gm} (F : Fx E G (AG G) RX5 cX5_arrange 5 none 1 21 0 0) {k : Nat} (hk : kd k = 8) {x1 : Int32} {x2 : Int32} {K7 : Wd → Int32 → Option (Wd)} {z : Wd} (hK7 : ∀ (V1 : Wd) (a3 : Int32), K7 V1 a3 = some z → Go E G (AG G) 0 0 (MQq E G none z) 5 V1 7 [(0, .ref (AD G k)), (1, .int x1), (2, .int x2), (3, .int a3)] []) (V : Wd) (x3 : Int32) (s0 : Int32) (h : f_X5_arrange_26 k x1 x2 K7 V x3 s0 = some z) : Go E G (AG G) 0 0 (MQq E G none z) 5 V 26 [(0, .ref (AD G k)), (1, .int x1), (2, .int x2), (3, .int x3)] [.int s0] := by
  unfold f_X5_arrange_26 at h
  refine go_istore (pc := 26) (lv' := [(4, .int s0), (0, .ref (AD G k)), (1, .int x1), (2, .int x2), (3, .int x3)]) F dX5_arrange_26 (by decide) rfl ?_
  refine go_iload (pc := 28) F dX5_arrange_28 0 rfl ?_
  refine go_iloadn (pc := 30) F dX5_arrange_30 2 rfl ?_
  refine go_icmp_ne (pc := 31) 40 F dX5_arrange_31 (by decide) h (fun c5 h => ?_) (fun c5 h => ?_)
  · refine go_iload (pc := 40) F dX5_arrange_40 0 rfl ?_
    refine go_iloadn (pc := 42) F dX5_arrange_42 3 rfl ?_
    refine go_icmp_ne (pc := 43) 49 F dX5_arrange_43 (by decide) h (fun c4 h => ?_) (fun c4 h => ?_)
    · exact go_sub [1, 2, 3, 4, 0] rfl (lb_X5_arrange_49 F hk hK7 V x3 s0 h)
    · refine go_iloadn (pc := 46) F dX5_arrange_46 2 rfl ?_
      refine go_istore (pc := 47) (lv' := [(4, .int x1), (0, .ref (AD G k)), (1, .int x1), (2, .int x2), (3, .int x3)]) F dX5_arrange_47 (by decide) rfl ?_
      exact go_sub [1, 2, 3, 4, 0] rfl (lb_X5_arrange_49 F hk hK7 V x3 x1 h)
  · refine go_iloadn (pc := 34) F dX5_arrange_34 3 rfl ?_
    refine go_istore (pc := 35) (lv' := [(4, .int x2), (0, .ref (AD G k)), (1, .int x1), (2, .int x2), (3, .int x3)]) F dX5_arrange_35 (by decide) rfl ?_
    refine go_goto (pc := 37) 49 F dX5_arrange_37 (by decide) ?_
    exact go_sub [1, 2, 3, 4, 0] rfl (lb_X5_arrange_49 F hk hK7 V x3 x2 h)
set_option maxRecDepth 100000 in
set_option maxHeartbeats 4000000 in
theorem lb_X5_arrange_7 {E : En} {G : Gm} (F : Fx E G (AG G) RX5 cX5_arrange 5 none 1 21 0 0) {k : Nat} (hk : kd k = 8) {x1 : Int32} {x2 : Int32} {z : Wd} : ∀ (n : Nat) (V : Wd) (x3 : Int32), f_X5_arrange_7 k x1 x2 n V x3 = some z → Go E G (AG G) 0 0 (MQq E G none z) 5 V 7 [(0, .ref (AD G k)), (1, .int x1), (2, .int x2), (3, .int x3)] [] := by
  intro n
  induction n with
  | zero => intro V x3 h; cases h
  | succ n ih =>
    intro V x3 h
    rw [f_X5_arrange_7] at h
    refine go_iloadn (pc := 7) F dX5_arrange_7 3 rfl ?_
    refine go_iconst (pc := 8) 5 F dX5_arrange_8 (by decide) ?_
    refine go_icmp_ge (pc := 9) 113 F dX5_arrange_9 (by decide) h (fun c3 h => ?_) (fun c3 h => ?_)
    · exact go_vretW (pc := 113) F dX5_arrange_113 h
    · refine go_aloadn (pc := 12) F dX5_arrange_12 0 rfl ?_
      refine gf_X5_22 (pc := 13) F dX5_arrange_13 hk ?_
      refine go_if_ne (pc := 16) 23 F dX5_arrange_16 (by decide) h (fun c2 h => ?_) (fun c2 h => ?_)
      · refine go_iconst (pc := 23) 4 F dX5_arrange_23 (by decide) ?_
        refine go_iloadn (pc := 24) F dX5_arrange_24 3 rfl ?_
        refine go_isub (pc := 25) F dX5_arrange_25 ?_
        exact go_sub [0, 1, 2, 3] rfl (lb_X5_arrange_26 F hk (fun V1 a3 h => ih V1 a3 h) V x3 (4 - x3) h)
      · refine go_iloadn (pc := 19) F dX5_arrange_19 3 rfl ?_
        refine go_goto (pc := 20) 26 F dX5_arrange_20 (by decide) ?_
        exact go_sub [0, 1, 2, 3] rfl (lb_X5_arrange_26 F hk (fun V1 a3 h => ih V1 a3 h) V x3 x3 h)
set_option maxRecDepth 100000 in
set_option maxHeartbeats 4000000 in
theorem ct_X5_arrange (l : Launch) (G : Gm) (k : Nat) (hk : kd k = 8) (V : Wd) (x1 : Int32) (x2 : Int32) (z : Wd) (h : f_X5_arrange k V x1 x2 = some z) : Ct l G yX5_arrange cX5_arrange 5 none 1 21 [.ref (AD G k), .int x1, .int x2] V none z := by
  refine Ct.of (own := RX5) (by decide +kernel) rfl (Nat.le_of_ble_eq_true rfl) (fun E F he => ?_)
  clear he
  refine go_sub (lv' := [(0, .ref (AD G k)), (1, .int x1), (2, .int x2)]) [0, 1, 2] rfl ?_
  unfold f_X5_arrange at h
  refine go_aloadn (pc := 0) F dX5_arrange_0 0 rfl ?_
  refine go_iconst (pc := 1) 0 F dX5_arrange_1 (by decide) ?_
  refine pf_X5_18 (pc := 2) F dX5_arrange_2 hk h (fun V1 h => ?_)
  refine go_iconst (pc := 5) 0 F dX5_arrange_5 (by decide) ?_
  refine go_istoren (pc := 6) (lv' := [(3, .int 0), (0, .ref (AD G k)), (1, .int x1), (2, .int x2)]) F dX5_arrange_6 (by decide) rfl ?_
  exact go_sub [1, 2, 3, 0] rfl (lb_X5_arrange_7 F hk FU_ V1 0 h)
set_option maxRecDepth 100000 in
set_option maxHeartbeats 4000000 in
theorem lb_X6_readHoist_24 {E : En} {G : Gm} (F : Fx E G (AG G) RX6 cX6_readHoist 8 (some .int) 3 68 0 0) {k : Nat} (hk : kd k = 1) {V : Wd} {x1 : Int32} {x2 : Int32} {x3 : Int32} {z : Int32} : ∀ (n : Nat) (x4 : Int32) (x5 : Int32) (x6 : Int32), f_X6_readHoist_24 k V x1 x2 x3 n x4 x5 x6 = some z → Go E G (AG G) 0 0 (MQq E G (some (.int z)) V) 8 V 24 [(0, .ref (AD G k)), (1, .int x1), (2, .int x2), (3, .int x3), (4, .int x4), (5, .int x5), (6, .int x6)] [] := by
  intro n
  induction n with
  | zero => intro x4 x5 x6 h; cases h
  | succ n ih =>
    intro x4 x5 x6 h
    rw [f_X6_readHoist_24] at h
    refine go_iload (pc := 24) F dX6_readHoist_24 6 rfl ?_
    refine go_iload (pc := 26) F dX6_readHoist_26 4 rfl ?_
    refine go_icmp_gt (pc := 28) 78 F dX6_readHoist_28 (by decide) h (fun c8 h => ?_) (fun c8 h => ?_)
    · refine go_aloadn (pc := 78) F dX6_readHoist_78 0 rfl ?_
      refine gf_X6_28 (pc := 79) F dX6_readHoist_79 hk ?_
      refine go_iload (pc := 82) F dX6_readHoist_82 5 rfl ?_
      obtain ⟨y3, hy3, h⟩ := ob_ h
      refine cv_X6_80 (pc := 84) F dX6_readHoist_84 (kf_1_8 hk) (ct_X0_wordFor (enL E) G (k + 8) (kf_1_8 hk) V x5 y3 hy3) (by decide) (by decide) (Nat.le_of_ble_eq_true rfl) ?_
      exact go_iretR (pc := 87) F dX6_readHoist_87 h
    · refine go_aloadn (pc := 31) F dX6_readHoist_31 0 rfl ?_
      refine gf_X6_12 (pc := 32) F dX6_readHoist_32 hk ?_
      refine go_aloadn (pc := 35) F dX6_readHoist_35 0 rfl ?_
      refine gf_X6_21 (pc := 36) F dX6_readHoist_36 hk ?_
      refine go_iloadn (pc := 39) F dX6_readHoist_39 1 rfl ?_
      refine go_iload (pc := 40) F dX6_readHoist_40 6 rfl ?_
      obtain ⟨y4, hy4, h⟩ := ob_ h
      refine cv_X6_72 (pc := 42) F dX6_readHoist_42 (kf_1_5 hk) (ct_X3_flagAt (enL E) G (k + 5) (kf_1_5 hk) V x1 x6 y4 hy4) (by decide) (by decide) (Nat.le_of_ble_eq_true rfl) ?_
      refine go_iloadn (pc := 45) F dX6_readHoist_45 2 rfl ?_
      refine go_iloadn (pc := 46) F dX6_readHoist_46 3 rfl ?_
      obtain ⟨y5, hy5, h⟩ := ob_ h
      refine cv_X6_76 (pc := 47) F dX6_readHoist_47 (kf_1_1 hk) (ct_X1_takenFor (enL E) G (k + 1) (kf_1_1 hk) V y4 x2 x3 y5 hy5) (by decide) (by decide) (Nat.le_of_ble_eq_true rfl) ?_
      refine go_istore (pc := 50) (lv' := [(7, .int y5), (0, .ref (AD G k)), (1, .int x1), (2, .int x2), (3, .int x3), (4, .int x4), (5, .int x5), (6, .int x6)]) F dX6_readHoist_50 (by decide) rfl ?_
      refine go_iload (pc := 52) F dX6_readHoist_52 0 rfl ?_
      refine go_bipush (pc := 54) (-6) F dX6_readHoist_54 (by decide) ?_
      refine go_icmp_ne (pc := 56) 62 F dX6_readHoist_56 (by decide) h (fun c7 h => ?_) (fun c7 h => ?_)
      · refine go_bipush (pc := 62) 10 F dX6_readHoist_62 (by decide) ?_
        refine go_iload (pc := 64) F dX6_readHoist_64 6 rfl ?_
        refine go_imul (pc := 66) F dX6_readHoist_66 ?_
        refine go_iload (pc := 67) F dX6_readHoist_67 0 rfl ?_
        refine go_iadd (pc := 69) F dX6_readHoist_69 ?_
        refine go_topi h (fun y6 h => ?_)
        refine go_istore (pc := 70) (lv' := [(5, .int y6), (7, .int y5), (0, .ref (AD G k)), (1, .int x1), (2, .int x2), (3, .int x3), (4, .int x4), (6, .int x6)]) F dX6_readHoist_70 (by decide) rfl ?_
        refine go_iinc (pc := 72) (x6 + 1) (lv' := [(6, .int (x6 + 1)), (5, .int y6), (7, .int y5), (0, .ref (AD G k)), (1, .int x1), (2, .int x2), (3, .int x3), (4, .int x4)]) F dX6_readHoist_72 (k := 7) rfl rfl (by decide) rfl ?_
        refine go_goto (pc := 75) 24 F dX6_readHoist_75 (by decide) ?_
        exact go_sub [3, 4, 5, 6, 7, 1, 0] rfl (ih x4 y6 (x6 + 1) h)
      · refine go_bipush (pc := 59) (-6) F dX6_readHoist_59 (by decide) ?_
        exact go_iretR (pc := 61) F dX6_readHoist_61 h
set_option maxRecDepth 100000 in
set_option maxHeartbeats 4000000 in
theorem ct_X6_readHoist (l : Launch) (G : Gm) (k : Nat) (hk : kd k = 1) (V : Wd) (x1 : Int32) (x2 : Int32) (x3 : Int32) (z : Int32) (h : f_X6_readHoist k V x1 x2 x3 = some z) : Ct l G yX6_readHoist cX6_readHoist 8 (some .int) 3 68 [.ref (AD G k), .int x1, .int x2, .int x3] V (some (.int z)) V := by
  refine Ct.of (own := RX6) (by decide +kernel) rfl (Nat.le_of_ble_eq_true rfl) (fun E F he => ?_)
  clear he
  refine go_sub (lv' := [(0, .ref (AD G k)), (1, .int x1), (2, .int x2), (3, .int x3)]) [0, 1, 2, 3] rfl ?_
  unfold f_X6_readHoist at h
  refine go_aloadn (pc := 0) F dX6_readHoist_0 0 rfl ?_
  refine gf_X6_21 (pc := 1) F dX6_readHoist_1 hk ?_
  refine go_iloadn (pc := 4) F dX6_readHoist_4 1 rfl ?_
  obtain ⟨y1, hy1, h⟩ := ob_ h
  refine cv_X6_68 (pc := 5) F dX6_readHoist_5 (kf_1_5 hk) (ct_X3_sizeOf (enL E) G (k + 5) (kf_1_5 hk) V x1 y1 hy1) (by decide) (by decide) (Nat.le_of_ble_eq_true rfl) ?_
  refine go_istore (pc := 8) (lv' := [(4, .int y1), (0, .ref (AD G k)), (1, .int x1), (2, .int x2), (3, .int x3)]) F dX6_readHoist_8 (by decide) rfl ?_
  refine go_iload (pc := 10) F dX6_readHoist_10 0 rfl ?_
  refine go_if_ne (pc := 12) 18 F dX6_readHoist_12 (by decide) h (fun c2 h => ?_) (fun c2 h => ?_)
  · refine go_iconst (pc := 18) 1 F dX6_readHoist_18 (by decide) ?_
    refine go_istore (pc := 19) (lv' := [(5, .int 1), (4, .int y1), (0, .ref (AD G k)), (1, .int x1), (2, .int x2), (3, .int x3)]) F dX6_readHoist_19 (by decide) rfl ?_
    refine go_iconst (pc := 21) 1 F dX6_readHoist_21 (by decide) ?_
    refine go_istore (pc := 22) (lv' := [(6, .int 1), (5, .int 1), (4, .int y1), (0, .ref (AD G k)), (1, .int x1), (2, .int x2), (3, .int x3)]) F dX6_readHoist_22 (by decide) rfl ?_
    exact go_sub [3, 4, 5, 6, 2, 1, 0] rfl (lb_X6_readHoist_24 F hk FU_ y1 1 1 h)
  · refine go_bipush (pc := 15) (-7) F dX6_readHoist_15 (by decide) ?_
    exact go_iretR (pc := 17) F dX6_readHoist_17 h
set_option maxRecDepth 100000 in
set_option maxHeartbeats 4000000 in
theorem ct_X8_isHoistFirst (l : Launch) (G : Gm) (V : Wd) (x0 : Int32) (x1 : Int32) : Ct l G yX8_isHoistFirst cX8_isHoistFirst 2 (some .boolean) 0 0 [.int x0, .int x1] V (some (.int (f_X8_isHoistFirst x0 x1))) V := by
  generalize h : f_X8_isHoistFirst x0 x1 = z
  refine Ct.of (own := RX8) (by decide +kernel) rfl (Nat.le_of_ble_eq_true rfl) (fun E F he => ?_)
  clear he
  refine go_sub (lv' := [(0, .int x0), (1, .int x1)]) [0, 1] rfl ?_
  unfold f_X8_isHoistFirst at h
  refine go_iloadn (pc := 0) F dX8_isHoistFirst_0 0 rfl ?_
  refine go_iloadn (pc := 1) F dX8_isHoistFirst_1 1 rfl ?_
  refine go_icmp_ne (pc := 2) 9 F dX8_isHoistFirst_2 (by decide) h (fun c1 h => ?_) (fun c1 h => ?_)
  · refine go_iconst (pc := 9) 0 F dX8_isHoistFirst_9 (by decide) ?_
    exact go_zretT (pc := 10) F dX8_isHoistFirst_10 rfl h
  · refine go_iconst (pc := 5) 1 F dX8_isHoistFirst_5 (by decide) ?_
    refine go_goto (pc := 6) 10 F dX8_isHoistFirst_6 (by decide) ?_
    exact go_zretT (pc := 10) F dX8_isHoistFirst_10 rfl h
set_option maxRecDepth 100000 in
set_option maxHeartbeats 4000000 in
theorem lb_X5_look_13 {E : En} {G : Gm} (F : Fx E G (AG G) RX5 cX5_look 6 none 4 95 0 0) {k : Nat} (hk : kd k = 8) {k1 : Nat} (hk1 : kd k1 = 1) {x2 : Int32} {x3 : Int32} {z : Wd} : ∀ (n : Nat) (V : Wd) (x4 : Int32) (x5 : Int32), f_X5_look_13 k k1 x2 x3 n V x4 x5 = some z → Go E G (AG G) 0 0 (MQq E G none z) 6 V 13 [(0, .ref (AD G k)), (1, .ref (AD G k1)), (2, .int x2), (4, .int x4), (5, .int x5)] [] := by
  intro n
  induction n with
  | zero => intro V x4 x5 h; cases h
  | succ n ih =>
    intro V x4 x5 h
    rw [f_X5_look_13] at h
    refine go_iload (pc := 13) F dX5_look_13 4 rfl ?_
    refine go_iconst (pc := 15) 5 F dX5_look_15 (by decide) ?_
    refine go_icmp_ge (pc := 16) 41 F dX5_look_16 (by decide) h (fun c5 h => ?_) (fun c5 h => ?_)
    · refine go_aloadn (pc := 41) F dX5_look_41 0 rfl ?_
      refine go_iconst (pc := 42) 0 F dX5_look_42 (by decide) ?_
      refine go_iconst (pc := 43) 0 F dX5_look_43 (by decide) ?_
      obtain ⟨V2, hV2, h⟩ := ob_ h
      refine cv_X5_35 (pc := 44) F dX5_look_44 hk (ct_X5_arrange (enL E) G k hk V 0 0 V2 hV2) (by decide) (by decide) (Nat.le_of_ble_eq_true rfl) ?_
      exact go_vretW (pc := 47) F dX5_look_47 h
    · refine go_aloadn (pc := 19) F dX5_look_19 0 rfl ?_
      refine gf_X5_9 (pc := 20) F dX5_look_20 hk ?_
      refine go_iload (pc := 23) F dX5_look_23 4 rfl ?_
      refine go_aloadn (pc := 25) F dX5_look_25 1 rfl ?_
      refine go_iload (pc := 26) F dX5_look_26 4 rfl ?_
      refine go_iload (pc := 28) F dX5_look_28 3 rfl ?_
      refine go_iloadn (pc := 30) F dX5_look_30 2 rfl ?_
      obtain ⟨y3, hy3, h⟩ := ob_ h
      refine cv_X5_29 (pc := 31) F dX5_look_31 hk1 (ct_X6_readHoist (enL E) G k1 hk1 V x5 x4 x2 y3 hy3) (by decide) (by decide) (Nat.le_of_ble_eq_true rfl) ?_
      refine go_iast (pc := 34) 5 F dX5_look_34 (kf_8_1 hk) (by decide) h (fun V4 h => ?_)
      refine go_iinc (pc := 35) (x5 + 1) (lv' := [(5, .int (x5 + 1)), (0, .ref (AD G k)), (1, .ref (AD G k1)), (2, .int x2), (4, .int x4)]) F dX5_look_35 (k := 4) rfl rfl (by decide) rfl ?_
      refine go_goto (pc := 38) 13 F dX5_look_38 (by decide) ?_
      exact go_sub [1, 2, 3, 4, 0] rfl (ih V4 x4 (x5 + 1) h)
set_option maxRecDepth 100000 in
set_option maxHeartbeats 4000000 in
theorem ct_X5_look (l : Launch) (G : Gm) (k k1 : Nat) (hk : kd k = 8) (hk1 : kd k1 = 1) (V : Wd) (x2 : Int32) (x3 : Int32) (z : Wd) (h : f_X5_look k k1 V x2 x3 = some z) : Ct l G yX5_look cX5_look 6 none 4 95 [.ref (AD G k), .ref (AD G k1), .int x2, .int x3] V none z := by
  refine Ct.of (own := RX5) (by decide +kernel) rfl (Nat.le_of_ble_eq_true rfl) (fun E F he => ?_)
  clear he
  refine go_sub (lv' := [(0, .ref (AD G k)), (1, .ref (AD G k1)), (2, .int x2), (3, .int x3)]) [0, 1, 2, 3] rfl ?_
  unfold f_X5_look at h
  refine go_aloadn (pc := 0) F dX5_look_0 0 rfl ?_
  refine gf_X5_22 (pc := 1) F dX5_look_1 hk ?_
  refine go_iloadn (pc := 4) F dX5_look_4 3 rfl ?_
  refine cv_X5_25 (pc := 5) F dX5_look_5 (ct_X8_isHoistFirst (enL E) G V (V k 0) x3) (by decide) (by decide) (Nat.le_of_ble_eq_true rfl) ?_
  refine go_topi h (fun y1 h => ?_)
  refine go_istore (pc := 8) (lv' := [(4, .int y1), (0, .ref (AD G k)), (1, .ref (AD G k1)), (2, .int x2), (3, .int x3)]) F dX5_look_8 (by decide) rfl ?_
  refine go_iconst (pc := 10) 0 F dX5_look_10 (by decide) ?_
  refine go_istore (pc := 11) (lv' := [(5, .int 0), (4, .int y1), (0, .ref (AD G k)), (1, .ref (AD G k1)), (2, .int x2), (3, .int x3)]) F dX5_look_11 (by decide) rfl ?_
  exact go_sub [2, 3, 4, 1, 0] rfl (lb_X5_look_13 F hk hk1 FU_ V y1 0 h)
set_option maxRecDepth 100000 in
set_option maxHeartbeats 4000000 in
theorem ct_X5_size (l : Launch) (G : Gm) (k : Nat) (hk : kd k = 8) (V : Wd) : Ct l G yX5_size cX5_size 1 (some .int) 0 0 [.ref (AD G k)] V (some (.int (f_X5_size k V))) V := by
  generalize h : f_X5_size k V = z
  refine Ct.of (own := RX5) (by decide +kernel) rfl (Nat.le_of_ble_eq_true rfl) (fun E F he => ?_)
  clear he
  refine go_sub (lv' := [(0, .ref (AD G k))]) [0] rfl ?_
  unfold f_X5_size at h
  refine go_aloadn (pc := 0) F dX5_size_0 0 rfl ?_
  refine gf_X5_18 (pc := 1) F dX5_size_1 hk ?_
  exact go_iretT (pc := 4) F dX5_size_4 h
set_option maxRecDepth 100000 in
set_option maxHeartbeats 4000000 in
theorem ct_X5_wordAt (l : Launch) (G : Gm) (k : Nat) (hk : kd k = 8) (V : Wd) (x1 : Int32) (z : Int32) (h : f_X5_wordAt k V x1 = some z) : Ct l G yX5_wordAt cX5_wordAt 2 (some .int) 1 21 [.ref (AD G k), .int x1] V (some (.int z)) V := by
  refine Ct.of (own := RX5) (by decide +kernel) rfl (Nat.le_of_ble_eq_true rfl) (fun E F he => ?_)
  clear he
  refine go_sub (lv' := [(0, .ref (AD G k)), (1, .int x1)]) [0, 1] rfl ?_
  unfold f_X5_wordAt at h
  refine go_iloadn (pc := 0) F dX5_wordAt_0 1 rfl ?_
  refine go_iconst (pc := 1) 5 F dX5_wordAt_1 (by decide) ?_
  refine cv_X5_39 (pc := 2) F dX5_wordAt_2 (ct_X8_isBelow (enL E) G V x1 5) (by decide) (by decide) (Nat.le_of_ble_eq_true rfl) ?_
  refine go_if_eq (pc := 5) 17 F dX5_wordAt_5 (by decide) h (fun c2 h => ?_) (fun c2 h => ?_)
  · refine go_bipush (pc := 17) (-6) F dX5_wordAt_17 (by decide) ?_
    exact go_iretR (pc := 19) F dX5_wordAt_19 h
  · refine go_aloadn (pc := 8) F dX5_wordAt_8 0 rfl ?_
    refine gf_X5_15 (pc := 9) F dX5_wordAt_9 hk ?_
    refine go_iloadn (pc := 12) F dX5_wordAt_12 1 rfl ?_
    refine go_iald (pc := 13) 5 F dX5_wordAt_13 (kf_8_2 hk) (by decide) h (fun y1 h => ?_)
    refine go_goto (pc := 14) 19 F dX5_wordAt_14 (by decide) ?_
    exact go_iretR (pc := 19) F dX5_wordAt_19 h

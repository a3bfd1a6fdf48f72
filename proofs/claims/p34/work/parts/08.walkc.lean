set_option maxRecDepth 100000 in
set_option maxHeartbeats 4000000 in
theorem ct_X0_copyFrom (l : Launch) (G : Gm) (k k1 : Nat) (hk : kd k = 4) (hk1 : kd k1 = 4) (V : Wd) (z : Wd) (h : f_X0_copyFrom k k1 V = some z) : Ct l G yX0_copyFrom cX0_copyFrom 2 none 1 26 [.ref (AD G k), .ref (AD G k1)] V none z := by
  refine Ct.of (own := RX0) (by decide +kernel) rfl (Nat.le_of_ble_eq_true rfl) (fun E F he => ?_)
  clear he
  refine go_sub (lv' := [(0, .ref (AD G k)), (1, .ref (AD G k1))]) [0, 1] rfl ?_
  unfold f_X0_copyFrom at h
  refine go_aloadn (pc := 0) F dX0_copyFrom_0 1 rfl ?_
  refine gf_X0_9 (pc := 1) F dX0_copyFrom_1 hk1 ?_
  refine go_iconst (pc := 4) 0 F dX0_copyFrom_4 (by decide) ?_
  refine go_aloadn (pc := 5) F dX0_copyFrom_5 0 rfl ?_
  refine gf_X0_9 (pc := 6) F dX0_copyFrom_6 hk ?_
  refine go_iconst (pc := 9) 0 F dX0_copyFrom_9 (by decide) ?_
  refine go_bipush (pc := 10) 12 F dX0_copyFrom_10 (by decide) ?_
  refine go_copy (pc := 12) 12 12 0 0 12 F dX0_copyFrom_12 ml_X0_22 (kf_4_1 hk1) (by decide) (kf_4_1 hk) (by decide) rfl rfl rfl (by decide) (by decide) (by decide) (by decide) (by decide) (by decide) (Nat.le_of_ble_eq_true rfl) h (fun V1 h => ?_)
  refine go_aloadn (pc := 15) F dX0_copyFrom_15 1 rfl ?_
  refine gf_X0_15 (pc := 16) F dX0_copyFrom_16 hk1 ?_
  refine go_iconst (pc := 19) 0 F dX0_copyFrom_19 (by decide) ?_
  refine go_aloadn (pc := 20) F dX0_copyFrom_20 0 rfl ?_
  refine gf_X0_15 (pc := 21) F dX0_copyFrom_21 hk ?_
  refine go_iconst (pc := 24) 0 F dX0_copyFrom_24 (by decide) ?_
  refine go_bipush (pc := 25) 12 F dX0_copyFrom_25 (by decide) ?_
  refine go_copy (pc := 27) 12 12 0 0 12 F dX0_copyFrom_27 ml_X0_22 (kf_4_2 hk1) (by decide) (kf_4_2 hk) (by decide) rfl rfl rfl (by decide) (by decide) (by decide) (by decide) (by decide) (by decide) (Nat.le_of_ble_eq_true rfl) h (fun V2 h => ?_)
  refine go_aloadn (pc := 30) F dX0_copyFrom_30 0 rfl ?_
  refine go_aloadn (pc := 31) F dX0_copyFrom_31 1 rfl ?_
  refine gf_X0_18 (pc := 32) F dX0_copyFrom_32 hk1 ?_
  refine pf_X0_18 (pc := 35) F dX0_copyFrom_35 hk h (fun V3 h => ?_)
  exact go_vretW (pc := 38) F dX0_copyFrom_38 h
set_option maxRecDepth 100000 in
set_option maxHeartbeats 4000000 in
theorem ct_X0_size (l : Launch) (G : Gm) (k : Nat) (hk : kd k = 4) (V : Wd) : Ct l G yX0_size cX0_size 1 (some .int) 0 0 [.ref (AD G k)] V (some (.int (f_X0_size k V))) V := by
  generalize h : f_X0_size k V = z
  refine Ct.of (own := RX0) (by decide +kernel) rfl (Nat.le_of_ble_eq_true rfl) (fun E F he => ?_)
  clear he
  refine go_sub (lv' := [(0, .ref (AD G k))]) [0] rfl ?_
  unfold f_X0_size at h
  refine go_aloadn (pc := 0) F dX0_size_0 0 rfl ?_
  refine gf_X0_18 (pc := 1) F dX0_size_1 hk ?_
  exact go_iretT (pc := 4) F dX0_size_4 h
set_option maxRecDepth 100000 in
set_option maxHeartbeats 4000000 in
theorem ct_X8_isBelow (l : Launch) (G : Gm) (V : Wd) (x0 : Int32) (x1 : Int32) : Ct l G yX8_isBelow cX8_isBelow 2 (some .boolean) 0 0 [.int x0, .int x1] V (some (.int (f_X8_isBelow x0 x1))) V := by
  generalize h : f_X8_isBelow x0 x1 = z
  refine Ct.of (own := RX8) (by decide +kernel) rfl (Nat.le_of_ble_eq_true rfl) (fun E F he => ?_)
  clear he
  refine go_sub (lv' := [(0, .int x0), (1, .int x1)]) [0, 1] rfl ?_
  unfold f_X8_isBelow at h
  refine go_iloadn (pc := 0) F dX8_isBelow_0 0 rfl ?_
  refine go_if_lt (pc := 1) 13 F dX8_isBelow_1 (by decide) h (fun c2 h => ?_) (fun c2 h => ?_)
  · refine go_iconst (pc := 13) 0 F dX8_isBelow_13 (by decide) ?_
    exact go_zretT (pc := 14) F dX8_isBelow_14 rfl h
  · refine go_iloadn (pc := 4) F dX8_isBelow_4 0 rfl ?_
    refine go_iloadn (pc := 5) F dX8_isBelow_5 1 rfl ?_
    refine go_icmp_ge (pc := 6) 13 F dX8_isBelow_6 (by decide) h (fun c1 h => ?_) (fun c1 h => ?_)
    · refine go_iconst (pc := 13) 0 F dX8_isBelow_13 (by decide) ?_
      exact go_zretT (pc := 14) F dX8_isBelow_14 rfl h
    · refine go_iconst (pc := 9) 1 F dX8_isBelow_9 (by decide) ?_
      refine go_goto (pc := 10) 14 F dX8_isBelow_10 (by decide) ?_
      exact go_zretT (pc := 14) F dX8_isBelow_14 rfl h
set_option maxRecDepth 100000 in
set_option maxHeartbeats 4000000 in
theorem ct_X0_flagsAt (l : Launch) (G : Gm) (k : Nat) (hk : kd k = 4) (V : Wd) (x1 : Int32) (z : Int32) (h : f_X0_flagsAt k V x1 = some z) : Ct l G yX0_flagsAt cX0_flagsAt 2 (some .int) 1 21 [.ref (AD G k), .int x1] V (some (.int z)) V := by
  refine Ct.of (own := RX0) (by decide +kernel) rfl (Nat.le_of_ble_eq_true rfl) (fun E F he => ?_)
  clear he
  refine go_sub (lv' := [(0, .ref (AD G k)), (1, .int x1)]) [0, 1] rfl ?_
  unfold f_X0_flagsAt at h
  refine go_iloadn (pc := 0) F dX0_flagsAt_0 1 rfl ?_
  refine go_bipush (pc := 1) 12 F dX0_flagsAt_1 (by decide) ?_
  refine cv_X0_28 (pc := 3) F dX0_flagsAt_3 (ct_X8_isBelow (enL E) G V x1 12) (by decide) (by decide) (Nat.le_of_ble_eq_true rfl) ?_
  refine go_if_eq (pc := 6) 18 F dX0_flagsAt_6 (by decide) h (fun c2 h => ?_) (fun c2 h => ?_)
  · refine go_bipush (pc := 18) (-6) F dX0_flagsAt_18 (by decide) ?_
    exact go_iretR (pc := 20) F dX0_flagsAt_20 h
  · refine go_aloadn (pc := 9) F dX0_flagsAt_9 0 rfl ?_
    refine gf_X0_9 (pc := 10) F dX0_flagsAt_10 hk ?_
    refine go_iloadn (pc := 13) F dX0_flagsAt_13 1 rfl ?_
    refine go_iald (pc := 14) 12 F dX0_flagsAt_14 (kf_4_1 hk) (by decide) h (fun y1 h => ?_)
    refine go_goto (pc := 15) 20 F dX0_flagsAt_15 (by decide) ?_
    exact go_iretR (pc := 20) F dX0_flagsAt_20 h
set_option maxRecDepth 100000 in
set_option maxHeartbeats 4000000 in
theorem ct_X0_wordAt (l : Launch) (G : Gm) (k : Nat) (hk : kd k = 4) (V : Wd) (x1 : Int32) (z : Int32) (h : f_X0_wordAt k V x1 = some z) : Ct l G yX0_wordAt cX0_wordAt 2 (some .int) 1 21 [.ref (AD G k), .int x1] V (some (.int z)) V := by
  refine Ct.of (own := RX0) (by decide +kernel) rfl (Nat.le_of_ble_eq_true rfl) (fun E F he => ?_)
  clear he
  refine go_sub (lv' := [(0, .ref (AD G k)), (1, .int x1)]) [0, 1] rfl ?_
  unfold f_X0_wordAt at h
  refine go_iloadn (pc := 0) F dX0_wordAt_0 1 rfl ?_
  refine go_bipush (pc := 1) 12 F dX0_wordAt_1 (by decide) ?_
  refine cv_X0_28 (pc := 3) F dX0_wordAt_3 (ct_X8_isBelow (enL E) G V x1 12) (by decide) (by decide) (Nat.le_of_ble_eq_true rfl) ?_
  refine go_if_eq (pc := 6) 18 F dX0_wordAt_6 (by decide) h (fun c2 h => ?_) (fun c2 h => ?_)
  · refine go_bipush (pc := 18) (-6) F dX0_wordAt_18 (by decide) ?_
    exact go_iretR (pc := 20) F dX0_wordAt_20 h
  · refine go_aloadn (pc := 9) F dX0_wordAt_9 0 rfl ?_
    refine gf_X0_15 (pc := 10) F dX0_wordAt_10 hk ?_
    refine go_iloadn (pc := 13) F dX0_wordAt_13 1 rfl ?_
    refine go_iald (pc := 14) 12 F dX0_wordAt_14 (kf_4_2 hk) (by decide) h (fun y1 h => ?_)
    refine go_goto (pc := 15) 20 F dX0_wordAt_15 (by decide) ?_
    exact go_iretR (pc := 20) F dX0_wordAt_20 h
set_option maxRecDepth 100000 in
set_option maxHeartbeats 4000000 in
theorem ct_X0_add (l : Launch) (G : Gm) (k : Nat) (hk : kd k = 4) (V : Wd) (x1 : Int32) (x2 : Int32) (z : Wd) (h : f_X0_add k V x1 x2 = some z) : Ct l G yX0_add cX0_add 3 none 1 21 [.ref (AD G k), .int x1, .int x2] V none z := by
  refine Ct.of (own := RX0) (by decide +kernel) rfl (Nat.le_of_ble_eq_true rfl) (fun E F he => ?_)
  clear he
  refine go_sub (lv' := [(0, .ref (AD G k)), (1, .int x1), (2, .int x2)]) [0, 1, 2] rfl ?_
  unfold f_X0_add at h
  refine go_aloadn (pc := 0) F dX0_add_0 0 rfl ?_
  refine gf_X0_18 (pc := 1) F dX0_add_1 hk ?_
  refine go_bipush (pc := 4) 12 F dX0_add_4 (by decide) ?_
  refine cv_X0_28 (pc := 6) F dX0_add_6 (ct_X8_isBelow (enL E) G V (V k 2) 12) (by decide) (by decide) (Nat.le_of_ble_eq_true rfl) ?_
  refine go_if_eq (pc := 9) 42 F dX0_add_9 (by decide) h (fun c4 h => ?_) (fun c4 h => ?_)
  · exact go_vretW (pc := 42) F dX0_add_42 h
  · refine go_aloadn (pc := 12) F dX0_add_12 0 rfl ?_
    refine gf_X0_9 (pc := 13) F dX0_add_13 hk ?_
    refine go_aloadn (pc := 16) F dX0_add_16 0 rfl ?_
    refine gf_X0_18 (pc := 17) F dX0_add_17 hk ?_
    refine go_iloadn (pc := 20) F dX0_add_20 1 rfl ?_
    refine go_iast (pc := 21) 12 F dX0_add_21 (kf_4_1 hk) (by decide) h (fun V1 h => ?_)
    refine go_aloadn (pc := 22) F dX0_add_22 0 rfl ?_
    refine gf_X0_15 (pc := 23) F dX0_add_23 hk ?_
    refine go_aloadn (pc := 26) F dX0_add_26 0 rfl ?_
    refine gf_X0_18 (pc := 27) F dX0_add_27 hk ?_
    refine go_iloadn (pc := 30) F dX0_add_30 2 rfl ?_
    refine go_iast (pc := 31) 12 F dX0_add_31 (kf_4_2 hk) (by decide) h (fun V2 h => ?_)
    refine go_aloadn (pc := 32) F dX0_add_32 0 rfl ?_
    refine go_dup (pc := 33) F dX0_add_33 rfl ?_
    refine gf_X0_18 (pc := 34) F dX0_add_34 hk ?_
    refine go_iconst (pc := 37) 1 F dX0_add_37 (by decide) ?_
    refine go_iadd (pc := 38) F dX0_add_38 ?_
    refine pf_X0_18 (pc := 39) F dX0_add_39 hk h (fun V3 h => ?_)
    exact go_vretW (pc := 42) F dX0_add_42 h
set_option maxRecDepth 100000 in
set_option maxHeartbeats 4000000 in
theorem lb_X0_remove_76 {E : En} {G : Gm} (F : Fx E G (AG G) RX0 cX0_remove 4 (some .int) 1 21 0 0) {k : Nat} (hk : kd k = 4) {x1 : Int32} {z : Int32 × Wd} (V : Wd) (x2 : Int32) (h : f_X0_remove_76 k x1 V x2 = some z) : Go E G (AG G) 0 0 (MQq E G (some (.int z.1)) z.2) 4 V 76 [(0, .ref (AD G k)), (2, .int x2)] [] := by
  unfold f_X0_remove_76 at h
  refine go_aloadn (pc := 76) F dX0_remove_76 0 rfl ?_
  refine go_dup (pc := 77) F dX0_remove_77 rfl ?_
  refine gf_X0_18 (pc := 78) F dX0_remove_78 hk ?_
  refine go_iconst (pc := 81) 1 F dX0_remove_81 (by decide) ?_
  refine go_isub (pc := 82) F dX0_remove_82 ?_
  refine pf_X0_18 (pc := 83) F dX0_remove_83 hk h (fun V9 h => ?_)
  refine go_iloadn (pc := 86) F dX0_remove_86 1 rfl ?_
  exact go_iretW (pc := 87) F dX0_remove_87 h
set_option maxRecDepth 100000 in
set_option maxHeartbeats 4000000 in
theorem lb_X0_remove_32 {E : En} {G : Gm} (F : Fx E G (AG G) RX0 cX0_remove 4 (some .int) 1 21 0 0) {k : Nat} (hk : kd k = 4) {x1 : Int32} {z : Int32 × Wd} : ∀ (n : Nat) (V : Wd) (x2 : Int32) (x3 : Int32), f_X0_remove_32 k x1 n V x2 x3 = some z → Go E G (AG G) 0 0 (MQq E G (some (.int z.1)) z.2) 4 V 32 [(0, .ref (AD G k)), (2, .int x2), (3, .int x3)] [] := by
  intro n
  induction n with
  | zero => intro V x2 x3 h; cases h
  | succ n ih =>
    intro V x2 x3 h
    rw [f_X0_remove_32] at h
    refine go_iloadn (pc := 32) F dX0_remove_32 2 rfl ?_
    refine go_iconst (pc := 33) 1 F dX0_remove_33 (by decide) ?_
    refine go_iadd (pc := 34) F dX0_remove_34 ?_
    refine go_aloadn (pc := 35) F dX0_remove_35 0 rfl ?_
    refine gf_X0_18 (pc := 36) F dX0_remove_36 hk ?_
    refine go_icmp_ge (pc := 39) 76 F dX0_remove_39 (by decide) h (fun c8 h => ?_) (fun c8 h => ?_)
    · exact go_sub [0, 1] rfl (lb_X0_remove_76 F hk V x2 h)
    · refine go_aloadn (pc := 42) F dX0_remove_42 0 rfl ?_
      refine gf_X0_9 (pc := 43) F dX0_remove_43 hk ?_
      refine go_iloadn (pc := 46) F dX0_remove_46 2 rfl ?_
      refine go_aloadn (pc := 47) F dX0_remove_47 0 rfl ?_
      refine gf_X0_9 (pc := 48) F dX0_remove_48 hk ?_
      refine go_iloadn (pc := 51) F dX0_remove_51 2 rfl ?_
      refine go_iconst (pc := 52) 1 F dX0_remove_52 (by decide) ?_
      refine go_iadd (pc := 53) F dX0_remove_53 ?_
      refine go_iald (pc := 54) 12 F dX0_remove_54 (kf_4_1 hk) (by decide) h (fun y4 h => ?_)
      refine go_iast (pc := 55) 12 F dX0_remove_55 (kf_4_1 hk) (by decide) h (fun V5 h => ?_)
      refine go_aloadn (pc := 56) F dX0_remove_56 0 rfl ?_
      refine gf_X0_15 (pc := 57) F dX0_remove_57 hk ?_
      refine go_iloadn (pc := 60) F dX0_remove_60 2 rfl ?_
      refine go_aloadn (pc := 61) F dX0_remove_61 0 rfl ?_
      refine gf_X0_15 (pc := 62) F dX0_remove_62 hk ?_
      refine go_iloadn (pc := 65) F dX0_remove_65 2 rfl ?_
      refine go_iconst (pc := 66) 1 F dX0_remove_66 (by decide) ?_
      refine go_iadd (pc := 67) F dX0_remove_67 ?_
      refine go_iald (pc := 68) 12 F dX0_remove_68 (kf_4_2 hk) (by decide) h (fun y6 h => ?_)
      refine go_iast (pc := 69) 12 F dX0_remove_69 (kf_4_2 hk) (by decide) h (fun V7 h => ?_)
      refine go_iinc (pc := 70) (x3 + 1) (lv' := [(3, .int (x3 + 1)), (0, .ref (AD G k)), (2, .int x2)]) F dX0_remove_70 (k := 2) rfl rfl (by decide) rfl ?_
      refine go_goto (pc := 73) 32 F dX0_remove_73 (by decide) ?_
      exact go_sub [1, 2, 0] rfl (ih V7 x2 (x3 + 1) h)
set_option maxRecDepth 100000 in
set_option maxHeartbeats 4000000 in
theorem ct_X0_remove (l : Launch) (G : Gm) (k : Nat) (hk : kd k = 4) (V : Wd) (x1 : Int32) (z : Int32 × Wd) (h : f_X0_remove k V x1 = some z) : Ct l G yX0_remove cX0_remove 4 (some .int) 1 21 [.ref (AD G k), .int x1] V (some (.int z.1)) z.2 := by
  refine Ct.of (own := RX0) (by decide +kernel) rfl (Nat.le_of_ble_eq_true rfl) (fun E F he => ?_)
  clear he
  refine go_sub (lv' := [(0, .ref (AD G k)), (1, .int x1)]) [0, 1] rfl ?_
  unfold f_X0_remove at h
  refine go_iloadn (pc := 0) F dX0_remove_0 1 rfl ?_
  refine go_aloadn (pc := 1) F dX0_remove_1 0 rfl ?_
  refine gf_X0_18 (pc := 2) F dX0_remove_2 hk ?_
  refine cv_X0_28 (pc := 5) F dX0_remove_5 (ct_X8_isBelow (enL E) G V x1 (V k 2)) (by decide) (by decide) (Nat.le_of_ble_eq_true rfl) ?_
  refine go_if_eq (pc := 8) 20 F dX0_remove_8 (by decide) h (fun c3 h => ?_) (fun c3 h => ?_)
  · refine go_bipush (pc := 20) (-6) F dX0_remove_20 (by decide) ?_
    exact go_iretW (pc := 22) F dX0_remove_22 h
  · refine go_aloadn (pc := 11) F dX0_remove_11 0 rfl ?_
    refine gf_X0_18 (pc := 12) F dX0_remove_12 hk ?_
    refine go_bipush (pc := 15) 12 F dX0_remove_15 (by decide) ?_
    refine go_icmp_le (pc := 17) 23 F dX0_remove_17 (by decide) h (fun c2 h => ?_) (fun c2 h => ?_)
    · refine go_aloadn (pc := 23) F dX0_remove_23 0 rfl ?_
      refine gf_X0_15 (pc := 24) F dX0_remove_24 hk ?_
      refine go_iloadn (pc := 27) F dX0_remove_27 1 rfl ?_
      refine go_iald (pc := 28) 12 F dX0_remove_28 (kf_4_2 hk) (by decide) h (fun y1 h => ?_)
      refine go_istoren (pc := 29) (lv' := [(2, .int y1), (0, .ref (AD G k)), (1, .int x1)]) F dX0_remove_29 (by decide) rfl ?_
      refine go_iloadn (pc := 30) F dX0_remove_30 2 rfl ?_
      refine go_istoren (pc := 31) (lv' := [(3, .int x1), (2, .int y1), (0, .ref (AD G k)), (1, .int x1)]) F dX0_remove_31 (by decide) rfl ?_
      exact go_sub [2, 1, 0] rfl (lb_X0_remove_32 F hk FU_ V y1 x1 h)
    · refine go_bipush (pc := 20) (-6) F dX0_remove_20 (by decide) ?_
      exact go_iretW (pc := 22) F dX0_remove_22 h
set_option maxRecDepth 100000 in
set_option maxHeartbeats 4000000 in
theorem lb_X0_wordFor_2 {E : En} {G : Gm} (F : Fx E G (AG G) RX0 cX0_wordFor 3 (some .int) 0 0 0 0) {k : Nat} (hk : kd k = 4) {V : Wd} {x1 : Int32} {z : Int32} : ∀ (n : Nat) (x2 : Int32), f_X0_wordFor_2 k V x1 n x2 = some z → Go E G (AG G) 0 0 (MQq E G (some (.int z)) V) 3 V 2 [(0, .ref (AD G k)), (1, .int x1), (2, .int x2)] [] := by
  intro n
  induction n with
  | zero => intro x2 h; cases h
  | succ n ih =>
    intro x2 h
    rw [f_X0_wordFor_2] at h
    refine go_iloadn (pc := 2) F dX0_wordFor_2 2 rfl ?_
    refine go_aloadn (pc := 3) F dX0_wordFor_3 0 rfl ?_
    refine gf_X0_18 (pc := 4) F dX0_wordFor_4 hk ?_
    refine go_icmp_ge (pc := 7) 39 F dX0_wordFor_7 (by decide) h (fun c5 h => ?_) (fun c5 h => ?_)
    · refine go_bipush (pc := 39) (-6) F dX0_wordFor_39 (by decide) ?_
      exact go_iretR (pc := 41) F dX0_wordFor_41 h
    · refine go_iloadn (pc := 10) F dX0_wordFor_10 2 rfl ?_
      refine go_bipush (pc := 11) 12 F dX0_wordFor_11 (by decide) ?_
      refine go_icmp_ge (pc := 13) 39 F dX0_wordFor_13 (by decide) h (fun c4 h => ?_) (fun c4 h => ?_)
      · refine go_bipush (pc := 39) (-6) F dX0_wordFor_39 (by decide) ?_
        exact go_iretR (pc := 41) F dX0_wordFor_41 h
      · refine go_aloadn (pc := 16) F dX0_wordFor_16 0 rfl ?_
        refine gf_X0_9 (pc := 17) F dX0_wordFor_17 hk ?_
        refine go_iloadn (pc := 20) F dX0_wordFor_20 2 rfl ?_
        refine go_iald (pc := 21) 12 F dX0_wordFor_21 (kf_4_1 hk) (by decide) h (fun y1 h => ?_)
        refine go_iloadn (pc := 22) F dX0_wordFor_22 1 rfl ?_
        refine go_icmp_ne (pc := 23) 33 F dX0_wordFor_23 (by decide) h (fun c3 h => ?_) (fun c3 h => ?_)
        · refine go_iinc (pc := 33) (x2 + 1) (lv' := [(2, .int (x2 + 1)), (0, .ref (AD G k)), (1, .int x1)]) F dX0_wordFor_33 (k := 2) rfl rfl (by decide) rfl ?_
          refine go_goto (pc := 36) 2 F dX0_wordFor_36 (by decide) ?_
          exact go_sub [1, 2, 0] rfl (ih (x2 + 1) h)
        · refine go_aloadn (pc := 26) F dX0_wordFor_26 0 rfl ?_
          refine gf_X0_15 (pc := 27) F dX0_wordFor_27 hk ?_
          refine go_iloadn (pc := 30) F dX0_wordFor_30 2 rfl ?_
          refine go_iald (pc := 31) 12 F dX0_wordFor_31 (kf_4_2 hk) (by decide) h (fun y2 h => ?_)
          exact go_iretR (pc := 32) F dX0_wordFor_32 h
set_option maxRecDepth 100000 in
set_option maxHeartbeats 4000000 in
theorem ct_X0_wordFor (l : Launch) (G : Gm) (k : Nat) (hk : kd k = 4) (V : Wd) (x1 : Int32) (z : Int32) (h : f_X0_wordFor k V x1 = some z) : Ct l G yX0_wordFor cX0_wordFor 3 (some .int) 0 0 [.ref (AD G k), .int x1] V (some (.int z)) V := by
  refine Ct.of (own := RX0) (by decide +kernel) rfl (Nat.le_of_ble_eq_true rfl) (fun E F he => ?_)
  clear he
  refine go_sub (lv' := [(0, .ref (AD G k)), (1, .int x1)]) [0, 1] rfl ?_
  unfold f_X0_wordFor at h
  refine go_iconst (pc := 0) 0 F dX0_wordFor_0 (by decide) ?_
  refine go_istoren (pc := 1) (lv' := [(2, .int 0), (0, .ref (AD G k)), (1, .int x1)]) F dX0_wordFor_1 (by decide) rfl ?_
  exact go_sub [1, 2, 0] rfl (lb_X0_wordFor_2 F hk FU_ 0 h)
set_option maxRecDepth 100000 in
set_option maxHeartbeats 4000000 in
theorem ct_X1_copyFrom (l : Launch) (G : Gm) (k k1 : Nat) (hk : kd k = 2) (hk1 : kd k1 = 2) (V : Wd) (z : Wd) (h : f_X1_copyFrom k k1 V = some z) : Ct l G yX1_copyFrom cX1_copyFrom 2 none 1 26 [.ref (AD G k), .ref (AD G k1)] V none z := by
  refine Ct.of (own := RX1) (by decide +kernel) rfl (Nat.le_of_ble_eq_true rfl) (fun E F he => ?_)
  clear he
  refine go_sub (lv' := [(0, .ref (AD G k)), (1, .ref (AD G k1))]) [0, 1] rfl ?_
  unfold f_X1_copyFrom at h
  refine go_aloadn (pc := 0) F dX1_copyFrom_0 1 rfl ?_
  refine gf_X1_9 (pc := 1) F dX1_copyFrom_1 hk1 ?_
  refine go_iconst (pc := 4) 0 F dX1_copyFrom_4 (by decide) ?_
  refine go_aloadn (pc := 5) F dX1_copyFrom_5 0 rfl ?_
  refine gf_X1_9 (pc := 6) F dX1_copyFrom_6 hk ?_
  refine go_iconst (pc := 9) 0 F dX1_copyFrom_9 (by decide) ?_
  refine go_bipush (pc := 10) 10 F dX1_copyFrom_10 (by decide) ?_
  refine go_copy (pc := 12) 10 10 0 0 10 F dX1_copyFrom_12 ml_X1_21 (kf_2_1 hk1) (by decide) (kf_2_1 hk) (by decide) rfl rfl rfl (by decide) (by decide) (by decide) (by decide) (by decide) (by decide) (Nat.le_of_ble_eq_true rfl) h (fun V1 h => ?_)
  refine go_aloadn (pc := 15) F dX1_copyFrom_15 1 rfl ?_
  refine gf_X1_15 (pc := 16) F dX1_copyFrom_16 hk1 ?_
  refine go_iconst (pc := 19) 0 F dX1_copyFrom_19 (by decide) ?_
  refine go_aloadn (pc := 20) F dX1_copyFrom_20 0 rfl ?_
  refine gf_X1_15 (pc := 21) F dX1_copyFrom_21 hk ?_
  refine go_iconst (pc := 24) 0 F dX1_copyFrom_24 (by decide) ?_
  refine go_bipush (pc := 25) 10 F dX1_copyFrom_25 (by decide) ?_
  refine go_copy (pc := 27) 10 10 0 0 10 F dX1_copyFrom_27 ml_X1_21 (kf_2_2 hk1) (by decide) (kf_2_2 hk) (by decide) rfl rfl rfl (by decide) (by decide) (by decide) (by decide) (by decide) (by decide) (Nat.le_of_ble_eq_true rfl) h (fun V2 h => ?_)
  refine go_aloadn (pc := 30) F dX1_copyFrom_30 1 rfl ?_
  refine gf_X1_18 (pc := 31) F dX1_copyFrom_31 hk1 ?_
  refine go_iconst (pc := 34) 0 F dX1_copyFrom_34 (by decide) ?_
  refine go_aloadn (pc := 35) F dX1_copyFrom_35 0 rfl ?_
  refine gf_X1_18 (pc := 36) F dX1_copyFrom_36 hk ?_
  refine go_iconst (pc := 39) 0 F dX1_copyFrom_39 (by decide) ?_
  refine go_bipush (pc := 40) 10 F dX1_copyFrom_40 (by decide) ?_
  refine go_copy (pc := 42) 10 10 0 0 10 F dX1_copyFrom_42 ml_X1_21 (kf_2_3 hk1) (by decide) (kf_2_3 hk) (by decide) rfl rfl rfl (by decide) (by decide) (by decide) (by decide) (by decide) (by decide) (Nat.le_of_ble_eq_true rfl) h (fun V3 h => ?_)
  exact go_vretW (pc := 45) F dX1_copyFrom_45 h
set_option maxRecDepth 100000 in
set_option maxHeartbeats 4000000 in
theorem ct_X1_change (l : Launch) (G : Gm) (k : Nat) (hk : kd k = 2) (V : Wd) (x1 : Int32) (x2 : Int32) (x3 : Int32) (x4 : Int32) (z : Wd) (h : f_X1_change k V x1 x2 x3 x4 = some z) : Ct l G yX1_change cX1_change 5 none 1 21 [.ref (AD G k), .int x1, .int x2, .int x3, .int x4] V none z := by
  refine Ct.of (own := RX1) (by decide +kernel) rfl (Nat.le_of_ble_eq_true rfl) (fun E F he => ?_)
  clear he
  refine go_sub (lv' := [(0, .ref (AD G k)), (1, .int x1), (2, .int x2), (3, .int x3), (4, .int x4)]) [0, 1, 2, 3, 4] rfl ?_
  unfold f_X1_change at h
  refine go_iloadn (pc := 0) F dX1_change_0 1 rfl ?_
  refine go_bipush (pc := 1) 10 F dX1_change_1 (by decide) ?_
  refine cv_X1_27 (pc := 3) F dX1_change_3 (ct_X8_isBelow (enL E) G V x1 10) (by decide) (by decide) (Nat.le_of_ble_eq_true rfl) ?_
  refine go_if_eq (pc := 6) 31 F dX1_change_6 (by decide) h (fun c4 h => ?_) (fun c4 h => ?_)
  · exact go_vretW (pc := 31) F dX1_change_31 h
  · refine go_aloadn (pc := 9) F dX1_change_9 0 rfl ?_
    refine gf_X1_9 (pc := 10) F dX1_change_10 hk ?_
    refine go_iloadn (pc := 13) F dX1_change_13 1 rfl ?_
    refine go_iloadn (pc := 14) F dX1_change_14 2 rfl ?_
    refine go_iast (pc := 15) 10 F dX1_change_15 (kf_2_1 hk) (by decide) h (fun V1 h => ?_)
    refine go_aloadn (pc := 16) F dX1_change_16 0 rfl ?_
    refine gf_X1_15 (pc := 17) F dX1_change_17 hk ?_
    refine go_iloadn (pc := 20) F dX1_change_20 1 rfl ?_
    refine go_iloadn (pc := 21) F dX1_change_21 3 rfl ?_
    refine go_iast (pc := 22) 10 F dX1_change_22 (kf_2_2 hk) (by decide) h (fun V2 h => ?_)
    refine go_aloadn (pc := 23) F dX1_change_23 0 rfl ?_
    refine gf_X1_18 (pc := 24) F dX1_change_24 hk ?_
    refine go_iloadn (pc := 27) F dX1_change_27 1 rfl ?_
    refine go_iload (pc := 28) F dX1_change_28 4 rfl ?_
    refine go_iast (pc := 30) 10 F dX1_change_30 (kf_2_3 hk) (by decide) h (fun V3 h => ?_)
    exact go_vretW (pc := 31) F dX1_change_31 h
set_option maxRecDepth 100000 in
set_option maxHeartbeats 4000000 in
theorem ct_X1_atHoist (l : Launch) (G : Gm) (k : Nat) (hk : kd k = 2) (V : Wd) (x1 : Int32) (z : Int32) (h : f_X1_atHoist k V x1 = some z) : Ct l G yX1_atHoist cX1_atHoist 2 (some .int) 1 21 [.ref (AD G k), .int x1] V (some (.int z)) V := by
  refine Ct.of (own := RX1) (by decide +kernel) rfl (Nat.le_of_ble_eq_true rfl) (fun E F he => ?_)
  clear he
  refine go_sub (lv' := [(0, .ref (AD G k)), (1, .int x1)]) [0, 1] rfl ?_
  unfold f_X1_atHoist at h
  refine go_iloadn (pc := 0) F dX1_atHoist_0 1 rfl ?_
  refine go_bipush (pc := 1) 10 F dX1_atHoist_1 (by decide) ?_
  refine cv_X1_27 (pc := 3) F dX1_atHoist_3 (ct_X8_isBelow (enL E) G V x1 10) (by decide) (by decide) (Nat.le_of_ble_eq_true rfl) ?_
  refine go_if_eq (pc := 6) 18 F dX1_atHoist_6 (by decide) h (fun c2 h => ?_) (fun c2 h => ?_)
  · refine go_bipush (pc := 18) (-6) F dX1_atHoist_18 (by decide) ?_
    exact go_iretR (pc := 20) F dX1_atHoist_20 h
  · refine go_aloadn (pc := 9) F dX1_atHoist_9 0 rfl ?_
    refine gf_X1_9 (pc := 10) F dX1_atHoist_10 hk ?_
    refine go_iloadn (pc := 13) F dX1_atHoist_13 1 rfl ?_
    refine go_iald (pc := 14) 10 F dX1_atHoist_14 (kf_2_1 hk) (by decide) h (fun y1 h => ?_)
    refine go_goto (pc := 15) 20 F dX1_atHoist_15 (by decide) ?_
    exact go_iretR (pc := 20) F dX1_atHoist_20 h
set_option maxRecDepth 100000 in
set_option maxHeartbeats 4000000 in
theorem ct_X1_atFly (l : Launch) (G : Gm) (k : Nat) (hk : kd k = 2) (V : Wd) (x1 : Int32) (z : Int32) (h : f_X1_atFly k V x1 = some z) : Ct l G yX1_atFly cX1_atFly 2 (some .int) 1 21 [.ref (AD G k), .int x1] V (some (.int z)) V := by
  refine Ct.of (own := RX1) (by decide +kernel) rfl (Nat.le_of_ble_eq_true rfl) (fun E F he => ?_)
  clear he
  refine go_sub (lv' := [(0, .ref (AD G k)), (1, .int x1)]) [0, 1] rfl ?_
  unfold f_X1_atFly at h
  refine go_iloadn (pc := 0) F dX1_atFly_0 1 rfl ?_
  refine go_bipush (pc := 1) 10 F dX1_atFly_1 (by decide) ?_
  refine cv_X1_27 (pc := 3) F dX1_atFly_3 (ct_X8_isBelow (enL E) G V x1 10) (by decide) (by decide) (Nat.le_of_ble_eq_true rfl) ?_
  refine go_if_eq (pc := 6) 18 F dX1_atFly_6 (by decide) h (fun c2 h => ?_) (fun c2 h => ?_)
  · refine go_bipush (pc := 18) (-6) F dX1_atFly_18 (by decide) ?_
    exact go_iretR (pc := 20) F dX1_atFly_20 h
  · refine go_aloadn (pc := 9) F dX1_atFly_9 0 rfl ?_
    refine gf_X1_15 (pc := 10) F dX1_atFly_10 hk ?_
    refine go_iloadn (pc := 13) F dX1_atFly_13 1 rfl ?_
    refine go_iald (pc := 14) 10 F dX1_atFly_14 (kf_2_2 hk) (by decide) h (fun y1 h => ?_)
    refine go_goto (pc := 15) 20 F dX1_atFly_15 (by decide) ?_
    exact go_iretR (pc := 20) F dX1_atFly_20 h
set_option maxRecDepth 100000 in
set_option maxHeartbeats 4000000 in
theorem ct_X1_weightOf (l : Launch) (G : Gm) (k : Nat) (hk : kd k = 2) (V : Wd) (x1 : Int32) (z : Int32) (h : f_X1_weightOf k V x1 = some z) : Ct l G yX1_weightOf cX1_weightOf 2 (some .int) 1 21 [.ref (AD G k), .int x1] V (some (.int z)) V := by
  refine Ct.of (own := RX1) (by decide +kernel) rfl (Nat.le_of_ble_eq_true rfl) (fun E F he => ?_)
  clear he
  refine go_sub (lv' := [(0, .ref (AD G k)), (1, .int x1)]) [0, 1] rfl ?_
  unfold f_X1_weightOf at h
  refine go_iloadn (pc := 0) F dX1_weightOf_0 1 rfl ?_
  refine go_bipush (pc := 1) 10 F dX1_weightOf_1 (by decide) ?_
  refine cv_X1_27 (pc := 3) F dX1_weightOf_3 (ct_X8_isBelow (enL E) G V x1 10) (by decide) (by decide) (Nat.le_of_ble_eq_true rfl) ?_
  refine go_if_eq (pc := 6) 18 F dX1_weightOf_6 (by decide) h (fun c2 h => ?_) (fun c2 h => ?_)
  · refine go_bipush (pc := 18) (-6) F dX1_weightOf_18 (by decide) ?_
    exact go_iretR (pc := 20) F dX1_weightOf_20 h
  · refine go_aloadn (pc := 9) F dX1_weightOf_9 0 rfl ?_
    refine gf_X1_18 (pc := 10) F dX1_weightOf_10 hk ?_
    refine go_iloadn (pc := 13) F dX1_weightOf_13 1 rfl ?_
    refine go_iald (pc := 14) 10 F dX1_weightOf_14 (kf_2_3 hk) (by decide) h (fun y1 h => ?_)
    refine go_goto (pc := 15) 20 F dX1_weightOf_15 (by decide) ?_
    exact go_iretR (pc := 20) F dX1_weightOf_20 h
set_option maxRecDepth 100000 in
set_option maxHeartbeats 4000000 in
theorem lb_X1_countWith_5 {E : En} {G : Gm} (F : Fx E G (AG G) RX1 cX1_countWith 5 (some .int) 0 0 0 0) {k : Nat} (hk : kd k = 2) {V : Wd} {x1 : Int32} {x2 : Int32} {z : Int32} : ∀ (n : Nat) (x3 : Int32) (x4 : Int32), f_X1_countWith_5 k V x1 x2 n x3 x4 = some z → Go E G (AG G) 0 0 (MQq E G (some (.int z)) V) 5 V 5 [(0, .ref (AD G k)), (1, .int x1), (2, .int x2), (3, .int x3), (4, .int x4)] [] := by
  intro n
  induction n with
  | zero => intro x3 x4 h; cases h
  | succ n ih =>
    intro x3 x4 h
    rw [f_X1_countWith_5] at h
    refine go_iload (pc := 5) F dX1_countWith_5 4 rfl ?_
    refine go_bipush (pc := 7) 10 F dX1_countWith_7 (by decide) ?_
    refine go_icmp_ge (pc := 9) 43 F dX1_countWith_9 (by decide) h (fun c5 h => ?_) (fun c5 h => ?_)
    · refine go_iloadn (pc := 43) F dX1_countWith_43 3 rfl ?_
      exact go_iretR (pc := 44) F dX1_countWith_44 h
    · refine go_aloadn (pc := 12) F dX1_countWith_12 0 rfl ?_
      refine gf_X1_9 (pc := 13) F dX1_countWith_13 hk ?_
      refine go_iload (pc := 16) F dX1_countWith_16 4 rfl ?_
      refine go_iald (pc := 18) 10 F dX1_countWith_18 (kf_2_1 hk) (by decide) h (fun y1 h => ?_)
      refine go_iloadn (pc := 19) F dX1_countWith_19 1 rfl ?_
      refine go_icmp_ne (pc := 20) 37 F dX1_countWith_20 (by decide) h (fun c4 h => ?_) (fun c4 h => ?_)
      · refine go_iinc (pc := 37) (x4 + 1) (lv' := [(4, .int (x4 + 1)), (0, .ref (AD G k)), (1, .int x1), (2, .int x2), (3, .int x3)]) F dX1_countWith_37 (k := 4) rfl rfl (by decide) rfl ?_
        refine go_goto (pc := 40) 5 F dX1_countWith_40 (by decide) ?_
        exact go_sub [1, 2, 3, 4, 0] rfl (ih x3 (x4 + 1) h)
      · refine go_aloadn (pc := 23) F dX1_countWith_23 0 rfl ?_
        refine gf_X1_15 (pc := 24) F dX1_countWith_24 hk ?_
        refine go_iload (pc := 27) F dX1_countWith_27 4 rfl ?_
        refine go_iald (pc := 29) 10 F dX1_countWith_29 (kf_2_2 hk) (by decide) h (fun y2 h => ?_)
        refine go_iloadn (pc := 30) F dX1_countWith_30 2 rfl ?_
        refine go_icmp_ne (pc := 31) 37 F dX1_countWith_31 (by decide) h (fun c3 h => ?_) (fun c3 h => ?_)
        · refine go_iinc (pc := 37) (x4 + 1) (lv' := [(4, .int (x4 + 1)), (0, .ref (AD G k)), (1, .int x1), (2, .int x2), (3, .int x3)]) F dX1_countWith_37 (k := 4) rfl rfl (by decide) rfl ?_
          refine go_goto (pc := 40) 5 F dX1_countWith_40 (by decide) ?_
          exact go_sub [1, 2, 3, 4, 0] rfl (ih x3 (x4 + 1) h)
        · refine go_iinc (pc := 34) (x3 + 1) (lv' := [(3, .int (x3 + 1)), (0, .ref (AD G k)), (1, .int x1), (2, .int x2), (4, .int x4)]) F dX1_countWith_34 (k := 3) rfl rfl (by decide) rfl ?_
          refine go_iinc (pc := 37) (x4 + 1) (lv' := [(4, .int (x4 + 1)), (3, .int (x3 + 1)), (0, .ref (AD G k)), (1, .int x1), (2, .int x2)]) F dX1_countWith_37 (k := 4) rfl rfl (by decide) rfl ?_
          refine go_goto (pc := 40) 5 F dX1_countWith_40 (by decide) ?_
          exact go_sub [2, 3, 4, 1, 0] rfl (ih (x3 + 1) (x4 + 1) h)
set_option maxRecDepth 100000 in
set_option maxHeartbeats 4000000 in
theorem ct_X1_countWith (l : Launch) (G : Gm) (k : Nat) (hk : kd k = 2) (V : Wd) (x1 : Int32) (x2 : Int32) (z : Int32) (h : f_X1_countWith k V x1 x2 = some z) : Ct l G yX1_countWith cX1_countWith 5 (some .int) 0 0 [.ref (AD G k), .int x1, .int x2] V (some (.int z)) V := by
  refine Ct.of (own := RX1) (by decide +kernel) rfl (Nat.le_of_ble_eq_true rfl) (fun E F he => ?_)
  clear he
  refine go_sub (lv' := [(0, .ref (AD G k)), (1, .int x1), (2, .int x2)]) [0, 1, 2] rfl ?_
  unfold f_X1_countWith at h
  refine go_iconst (pc := 0) 0 F dX1_countWith_0 (by decide) ?_
  refine go_istoren (pc := 1) (lv' := [(3, .int 0), (0, .ref (AD G k)), (1, .int x1), (2, .int x2)]) F dX1_countWith_1 (by decide) rfl ?_
  refine go_iconst (pc := 2) 0 F dX1_countWith_2 (by decide) ?_
  refine go_istore (pc := 3) (lv' := [(4, .int 0), (3, .int 0), (0, .ref (AD G k)), (1, .int x1), (2, .int x2)]) F dX1_countWith_3 (by decide) rfl ?_
  exact go_sub [2, 3, 4, 1, 0] rfl (lb_X1_countWith_5 F hk FU_ 0 0 h)
set_option maxRecDepth 100000 in
set_option maxHeartbeats 4000000 in
theorem lb_X1_firstWith_2 {E : En} {G : Gm} (F : Fx E G (AG G) RX1 cX1_firstWith 4 (some .int) 0 0 0 0) {k : Nat} (hk : kd k = 2) {V : Wd} {x1 : Int32} {x2 : Int32} {z : Int32} : ∀ (n : Nat) (x3 : Int32), f_X1_firstWith_2 k V x1 x2 n x3 = some z → Go E G (AG G) 0 0 (MQq E G (some (.int z)) V) 4 V 2 [(0, .ref (AD G k)), (1, .int x1), (2, .int x2), (3, .int x3)] [] := by
  intro n
  induction n with
  | zero => intro x3 h; cases h
  | succ n ih =>
    intro x3 h
    rw [f_X1_firstWith_2] at h
    refine go_iloadn (pc := 2) F dX1_firstWith_2 3 rfl ?_
    refine go_bipush (pc := 3) 10 F dX1_firstWith_3 (by decide) ?_
    refine go_icmp_ge (pc := 5) 36 F dX1_firstWith_5 (by decide) h (fun c5 h => ?_) (fun c5 h => ?_)
    · refine go_bipush (pc := 36) (-6) F dX1_firstWith_36 (by decide) ?_
      exact go_iretR (pc := 38) F dX1_firstWith_38 h
    · refine go_aloadn (pc := 8) F dX1_firstWith_8 0 rfl ?_
      refine gf_X1_9 (pc := 9) F dX1_firstWith_9 hk ?_
      refine go_iloadn (pc := 12) F dX1_firstWith_12 3 rfl ?_
      refine go_iald (pc := 13) 10 F dX1_firstWith_13 (kf_2_1 hk) (by decide) h (fun y1 h => ?_)
      refine go_iloadn (pc := 14) F dX1_firstWith_14 1 rfl ?_
      refine go_icmp_ne (pc := 15) 30 F dX1_firstWith_15 (by decide) h (fun c4 h => ?_) (fun c4 h => ?_)
      · refine go_iinc (pc := 30) (x3 + 1) (lv' := [(3, .int (x3 + 1)), (0, .ref (AD G k)), (1, .int x1), (2, .int x2)]) F dX1_firstWith_30 (k := 3) rfl rfl (by decide) rfl ?_
        refine go_goto (pc := 33) 2 F dX1_firstWith_33 (by decide) ?_
        exact go_sub [1, 2, 3, 0] rfl (ih (x3 + 1) h)
      · refine go_aloadn (pc := 18) F dX1_firstWith_18 0 rfl ?_
        refine gf_X1_15 (pc := 19) F dX1_firstWith_19 hk ?_
        refine go_iloadn (pc := 22) F dX1_firstWith_22 3 rfl ?_
        refine go_iald (pc := 23) 10 F dX1_firstWith_23 (kf_2_2 hk) (by decide) h (fun y2 h => ?_)
        refine go_iloadn (pc := 24) F dX1_firstWith_24 2 rfl ?_
        refine go_icmp_ne (pc := 25) 30 F dX1_firstWith_25 (by decide) h (fun c3 h => ?_) (fun c3 h => ?_)
        · refine go_iinc (pc := 30) (x3 + 1) (lv' := [(3, .int (x3 + 1)), (0, .ref (AD G k)), (1, .int x1), (2, .int x2)]) F dX1_firstWith_30 (k := 3) rfl rfl (by decide) rfl ?_
          refine go_goto (pc := 33) 2 F dX1_firstWith_33 (by decide) ?_
          exact go_sub [1, 2, 3, 0] rfl (ih (x3 + 1) h)
        · refine go_iloadn (pc := 28) F dX1_firstWith_28 3 rfl ?_
          exact go_iretR (pc := 29) F dX1_firstWith_29 h
set_option maxRecDepth 100000 in
set_option maxHeartbeats 4000000 in
theorem ct_X1_firstWith (l : Launch) (G : Gm) (k : Nat) (hk : kd k = 2) (V : Wd) (x1 : Int32) (x2 : Int32) (z : Int32) (h : f_X1_firstWith k V x1 x2 = some z) : Ct l G yX1_firstWith cX1_firstWith 4 (some .int) 0 0 [.ref (AD G k), .int x1, .int x2] V (some (.int z)) V := by
  refine Ct.of (own := RX1) (by decide +kernel) rfl (Nat.le_of_ble_eq_true rfl) (fun E F he => ?_)
  clear he
  refine go_sub (lv' := [(0, .ref (AD G k)), (1, .int x1), (2, .int x2)]) [0, 1, 2] rfl ?_
  unfold f_X1_firstWith at h
  refine go_iconst (pc := 0) 0 F dX1_firstWith_0 (by decide) ?_
  refine go_istoren (pc := 1) (lv' := [(3, .int 0), (0, .ref (AD G k)), (1, .int x1), (2, .int x2)]) F dX1_firstWith_1 (by decide) rfl ?_
  exact go_sub [1, 2, 3, 0] rfl (lb_X1_firstWith_2 F hk FU_ 0 h)
set_option maxRecDepth 100000 in
set_option maxHeartbeats 4000000 in
theorem ct_X1_takenFor (l : Launch) (G : Gm) (k : Nat) (hk : kd k = 2) (V : Wd) (x1 : Int32) (x2 : Int32) (x3 : Int32) (z : Int32) (h : f_X1_takenFor k V x1 x2 x3 = some z) : Ct l G yX1_takenFor cX1_takenFor 4 (some .int) 1 23 [.ref (AD G k), .int x1, .int x2, .int x3] V (some (.int z)) V := by
  refine Ct.of (own := RX1) (by decide +kernel) rfl (Nat.le_of_ble_eq_true rfl) (fun E F he => ?_)
  clear he
  refine go_sub (lv' := [(0, .ref (AD G k)), (1, .int x1), (2, .int x2), (3, .int x3)]) [0, 1, 2, 3] rfl ?_
  unfold f_X1_takenFor at h
  refine go_iloadn (pc := 0) F dX1_takenFor_0 1 rfl ?_
  refine go_bipush (pc := 1) 10 F dX1_takenFor_1 (by decide) ?_
  refine cv_X1_27 (pc := 3) F dX1_takenFor_3 (ct_X8_isBelow (enL E) G V x1 10) (by decide) (by decide) (Nat.le_of_ble_eq_true rfl) ?_
  refine go_if_eq (pc := 6) 19 F dX1_takenFor_6 (by decide) h (fun c10 h => ?_) (fun c10 h => ?_)
  · refine go_bipush (pc := 19) (-6) F dX1_takenFor_19 (by decide) ?_
    exact go_iretR (pc := 21) F dX1_takenFor_21 h
  · refine go_aloadn (pc := 9) F dX1_takenFor_9 0 rfl ?_
    refine gf_X1_18 (pc := 10) F dX1_takenFor_10 hk ?_
    refine go_iloadn (pc := 13) F dX1_takenFor_13 1 rfl ?_
    refine go_iald (pc := 14) 10 F dX1_takenFor_14 (kf_2_3 hk) (by decide) h (fun y1 h => ?_)
    refine go_iloadn (pc := 15) F dX1_takenFor_15 3 rfl ?_
    refine go_icmp_le (pc := 16) 22 F dX1_takenFor_16 (by decide) h (fun c9 h => ?_) (fun c9 h => ?_)
    · refine go_iloadn (pc := 22) F dX1_takenFor_22 2 rfl ?_
      refine go_if_eq (pc := 23) 43 F dX1_takenFor_23 (by decide) h (fun c8 h => ?_) (fun c8 h => ?_)
      · refine go_aloadn (pc := 43) F dX1_takenFor_43 0 rfl ?_
        refine go_aloadn (pc := 44) F dX1_takenFor_44 0 rfl ?_
        refine gf_X1_15 (pc := 45) F dX1_takenFor_45 hk ?_
        refine go_iloadn (pc := 48) F dX1_takenFor_48 1 rfl ?_
        refine go_iald (pc := 49) 10 F dX1_takenFor_49 (kf_2_2 hk) (by decide) h (fun y2 h => ?_)
        refine go_aloadn (pc := 50) F dX1_takenFor_50 0 rfl ?_
        refine gf_X1_9 (pc := 51) F dX1_takenFor_51 hk ?_
        refine go_iloadn (pc := 54) F dX1_takenFor_54 1 rfl ?_
        refine go_iald (pc := 55) 10 F dX1_takenFor_55 (kf_2_1 hk) (by decide) h (fun y3 h => ?_)
        obtain ⟨y4, hy4, h⟩ := ob_ h
        refine cv_X1_31 (pc := 56) F dX1_takenFor_56 hk (ct_X1_firstWith (enL E) G k hk V y2 y3 y4 hy4) (by decide) (by decide) (Nat.le_of_ble_eq_true rfl) ?_
        exact go_iretR (pc := 59) F dX1_takenFor_59 h
      · refine go_aloadn (pc := 26) F dX1_takenFor_26 0 rfl ?_
        refine go_aloadn (pc := 27) F dX1_takenFor_27 0 rfl ?_
        refine gf_X1_9 (pc := 28) F dX1_takenFor_28 hk ?_
        refine go_iloadn (pc := 31) F dX1_takenFor_31 1 rfl ?_
        refine go_iald (pc := 32) 10 F dX1_takenFor_32 (kf_2_1 hk) (by decide) h (fun y5 h => ?_)
        refine go_aloadn (pc := 33) F dX1_takenFor_33 0 rfl ?_
        refine gf_X1_15 (pc := 34) F dX1_takenFor_34 hk ?_
        refine go_iloadn (pc := 37) F dX1_takenFor_37 1 rfl ?_
        refine go_iald (pc := 38) 10 F dX1_takenFor_38 (kf_2_2 hk) (by decide) h (fun y6 h => ?_)
        obtain ⟨y7, hy7, h⟩ := ob_ h
        refine cv_X1_31 (pc := 39) F dX1_takenFor_39 hk (ct_X1_firstWith (enL E) G k hk V y5 y6 y7 hy7) (by decide) (by decide) (Nat.le_of_ble_eq_true rfl) ?_
        exact go_iretR (pc := 42) F dX1_takenFor_42 h
    · refine go_bipush (pc := 19) (-6) F dX1_takenFor_19 (by decide) ?_
      exact go_iretR (pc := 21) F dX1_takenFor_21 h
set_option maxRecDepth 100000 in
set_option maxHeartbeats 4000000 in
theorem ct_X2_slotAt (l : Launch) (G : Gm) (V : Wd) (x1 : Int32) (z : Option Nat) (h : f_X2_slotAt V x1 = some z) : Ct l G yX2_slotAt cX2_slotAt 2 (some (.object "MastFlags$State")) 1 21 [.ref (AD G 29), .int x1] V (some (refv G z)) V := by
  refine Ct.of (own := RX2) (by decide +kernel) rfl (Nat.le_of_ble_eq_true rfl) (fun E F he => ?_)
  clear he
  refine go_sub (lv' := [(0, .ref (AD G 29)), (1, .int x1)]) [0, 1] rfl ?_
  unfold f_X2_slotAt at h
  refine go_iloadn (pc := 0) F dX2_slotAt_0 1 rfl ?_
  refine go_iconst (pc := 1) 5 F dX2_slotAt_1 (by decide) ?_
  refine cv_X2_39 (pc := 2) F dX2_slotAt_2 (ct_X8_isBelow (enL E) G V x1 5) (by decide) (by decide) (Nat.le_of_ble_eq_true rfl) ?_
  refine go_if_eq (pc := 5) 17 F dX2_slotAt_5 (by decide) h (fun c2 h => ?_) (fun c2 h => ?_)
  · refine go_null (pc := 17) F dX2_slotAt_17 ?_
    exact go_aretN (pc := 18) F dX2_slotAt_18 h
  · refine go_aloadn (pc := 8) F dX2_slotAt_8 0 rfl ?_
    refine gf_X2_11 (pc := 9) F dX2_slotAt_9 rfl ?_
    refine go_iloadn (pc := 12) F dX2_slotAt_12 1 rfl ?_
    refine go_aald (pc := 13) F dX2_slotAt_13 rfl h (fun r1 h => ?_)
    refine go_goto (pc := 14) 18 F dX2_slotAt_14 (by decide) ?_
    exact go_aretS (pc := 18) F dX2_slotAt_18 h
set_option maxRecDepth 100000 in
set_option maxHeartbeats 4000000 in
theorem ct_X3_copyFrom (l : Launch) (G : Gm) (k k1 : Nat) (hk : kd k = 3) (hk1 : kd k1 = 3) (V : Wd) (z : Wd) (h : f_X3_copyFrom k k1 V = some z) : Ct l G yX3_copyFrom cX3_copyFrom 2 none 1 26 [.ref (AD G k), .ref (AD G k1)] V none z := by
  refine Ct.of (own := RX3) (by decide +kernel) rfl (Nat.le_of_ble_eq_true rfl) (fun E F he => ?_)
  clear he
  refine go_sub (lv' := [(0, .ref (AD G k)), (1, .ref (AD G k1))]) [0, 1] rfl ?_
  unfold f_X3_copyFrom at h
  refine go_aloadn (pc := 0) F dX3_copyFrom_0 1 rfl ?_
  refine gf_X3_9 (pc := 1) F dX3_copyFrom_1 hk1 ?_
  refine go_iconst (pc := 4) 0 F dX3_copyFrom_4 (by decide) ?_
  refine go_aloadn (pc := 5) F dX3_copyFrom_5 0 rfl ?_
  refine gf_X3_9 (pc := 6) F dX3_copyFrom_6 hk ?_
  refine go_iconst (pc := 9) 0 F dX3_copyFrom_9 (by decide) ?_
  refine go_bipush (pc := 10) 20 F dX3_copyFrom_10 (by decide) ?_
  refine go_copy (pc := 12) 20 20 0 0 20 F dX3_copyFrom_12 ml_X3_18 (kf_3_1 hk1) (by decide) (kf_3_1 hk) (by decide) rfl rfl rfl (by decide) (by decide) (by decide) (by decide) (by decide) (by decide) (Nat.le_of_ble_eq_true rfl) h (fun V1 h => ?_)
  refine go_aloadn (pc := 15) F dX3_copyFrom_15 1 rfl ?_
  refine gf_X3_15 (pc := 16) F dX3_copyFrom_16 hk1 ?_
  refine go_iconst (pc := 19) 0 F dX3_copyFrom_19 (by decide) ?_
  refine go_aloadn (pc := 20) F dX3_copyFrom_20 0 rfl ?_
  refine gf_X3_15 (pc := 21) F dX3_copyFrom_21 hk ?_
  refine go_iconst (pc := 24) 0 F dX3_copyFrom_24 (by decide) ?_
  refine go_iconst (pc := 25) 5 F dX3_copyFrom_25 (by decide) ?_
  refine go_copy (pc := 26) 5 5 0 0 5 F dX3_copyFrom_26 ml_X3_18 (kf_3_2 hk1) (by decide) (kf_3_2 hk) (by decide) rfl rfl rfl (by decide) (by decide) (by decide) (by decide) (by decide) (by decide) (Nat.le_of_ble_eq_true rfl) h (fun V2 h => ?_)
  exact go_vretW (pc := 29) F dX3_copyFrom_29 h
set_option maxRecDepth 100000 in
set_option maxHeartbeats 4000000 in
theorem ct_X4_copyFrom (l : Launch) (G : Gm) (k k1 : Nat) (hk : kd k = 5) (hk1 : kd k1 = 5) (V : Wd) (z : Wd) (h : f_X4_copyFrom k k1 V = some z) : Ct l G yX4_copyFrom cX4_copyFrom 2 none 1 26 [.ref (AD G k), .ref (AD G k1)] V none z := by
  refine Ct.of (own := RX4) (by decide +kernel) rfl (Nat.le_of_ble_eq_true rfl) (fun E F he => ?_)
  clear he
  refine go_sub (lv' := [(0, .ref (AD G k)), (1, .ref (AD G k1))]) [0, 1] rfl ?_
  unfold f_X4_copyFrom at h
  refine go_aloadn (pc := 0) F dX4_copyFrom_0 1 rfl ?_
  refine gf_X4_9 (pc := 1) F dX4_copyFrom_1 hk1 ?_
  refine go_iconst (pc := 4) 0 F dX4_copyFrom_4 (by decide) ?_
  refine go_aloadn (pc := 5) F dX4_copyFrom_5 0 rfl ?_
  refine gf_X4_9 (pc := 6) F dX4_copyFrom_6 hk ?_
  refine go_iconst (pc := 9) 0 F dX4_copyFrom_9 (by decide) ?_
  refine go_bipush (pc := 10) 40 F dX4_copyFrom_10 (by decide) ?_
  refine go_copy (pc := 12) 40 40 0 0 40 F dX4_copyFrom_12 ml_X4_25 (kf_5_1 hk1) (by decide) (kf_5_1 hk) (by decide) rfl rfl rfl (by decide) (by decide) (by decide) (by decide) (by decide) (by decide) (Nat.le_of_ble_eq_true rfl) h (fun V1 h => ?_)
  refine go_aloadn (pc := 15) F dX4_copyFrom_15 1 rfl ?_
  refine gf_X4_15 (pc := 16) F dX4_copyFrom_16 hk1 ?_
  refine go_iconst (pc := 19) 0 F dX4_copyFrom_19 (by decide) ?_
  refine go_aloadn (pc := 20) F dX4_copyFrom_20 0 rfl ?_
  refine gf_X4_15 (pc := 21) F dX4_copyFrom_21 hk ?_
  refine go_iconst (pc := 24) 0 F dX4_copyFrom_24 (by decide) ?_
  refine go_bipush (pc := 25) 8 F dX4_copyFrom_25 (by decide) ?_
  refine go_copy (pc := 27) 8 8 0 0 8 F dX4_copyFrom_27 ml_X4_25 (kf_5_2 hk1) (by decide) (kf_5_2 hk) (by decide) rfl rfl rfl (by decide) (by decide) (by decide) (by decide) (by decide) (by decide) (Nat.le_of_ble_eq_true rfl) h (fun V2 h => ?_)
  refine go_aloadn (pc := 30) F dX4_copyFrom_30 0 rfl ?_
  refine go_aloadn (pc := 31) F dX4_copyFrom_31 1 rfl ?_
  refine gf_X4_18 (pc := 32) F dX4_copyFrom_32 hk1 ?_
  refine pf_X4_18 (pc := 35) F dX4_copyFrom_35 hk h (fun V3 h => ?_)
  refine go_aloadn (pc := 38) F dX4_copyFrom_38 0 rfl ?_
  refine go_aloadn (pc := 39) F dX4_copyFrom_39 1 rfl ?_
  refine gf_X4_22 (pc := 40) F dX4_copyFrom_40 hk1 ?_
  refine pf_X4_22 (pc := 43) F dX4_copyFrom_43 hk h (fun V4 h => ?_)
  exact go_vretW (pc := 46) F dX4_copyFrom_46 h
set_option maxRecDepth 100000 in
set_option maxHeartbeats 4000000 in
theorem ct_X6_copyFrom (l : Launch) (G : Gm) (k k1 : Nat) (hk : kd k = 1) (hk1 : kd k1 = 1) (V : Wd) (z : Wd) (h : f_X6_copyFrom k k1 V = some z) : Ct l G yX6_copyFrom cX6_copyFrom 2 none 2 47 [.ref (AD G k), .ref (AD G k1)] V none z := by
  refine Ct.of (own := RX6) (by decide +kernel) rfl (Nat.le_of_ble_eq_true rfl) (fun E F he => ?_)
  clear he
  refine go_sub (lv' := [(0, .ref (AD G k)), (1, .ref (AD G k1))]) [0, 1] rfl ?_
  unfold f_X6_copyFrom at h
  refine go_aloadn (pc := 0) F dX6_copyFrom_0 0 rfl ?_
  refine gf_X6_12 (pc := 1) F dX6_copyFrom_1 hk ?_
  refine go_aloadn (pc := 4) F dX6_copyFrom_4 1 rfl ?_
  refine gf_X6_12 (pc := 5) F dX6_copyFrom_5 hk1 ?_
  obtain ⟨V1, hV1, h⟩ := ob_ h
  refine cv_X6_55 (pc := 8) F dX6_copyFrom_8 (kf_1_1 hk) (ct_X1_copyFrom (enL E) G (k + 1) (k1 + 1) (kf_1_1 hk) (kf_1_1 hk1) V V1 hV1) (by decide) (by decide) (Nat.le_of_ble_eq_true rfl) ?_
  refine go_aloadn (pc := 11) F dX6_copyFrom_11 0 rfl ?_
  refine gf_X6_21 (pc := 12) F dX6_copyFrom_12 hk ?_
  refine go_aloadn (pc := 15) F dX6_copyFrom_15 1 rfl ?_
  refine gf_X6_21 (pc := 16) F dX6_copyFrom_16 hk1 ?_
  obtain ⟨V2, hV2, h⟩ := ob_ h
  refine cv_X6_59 (pc := 19) F dX6_copyFrom_19 (kf_1_5 hk) (ct_X3_copyFrom (enL E) G (k + 5) (k1 + 5) (kf_1_5 hk) (kf_1_5 hk1) V1 V2 hV2) (by decide) (by decide) (Nat.le_of_ble_eq_true rfl) ?_
  refine go_aloadn (pc := 22) F dX6_copyFrom_22 0 rfl ?_
  refine gf_X6_28 (pc := 23) F dX6_copyFrom_23 hk ?_
  refine go_aloadn (pc := 26) F dX6_copyFrom_26 1 rfl ?_
  refine gf_X6_28 (pc := 27) F dX6_copyFrom_27 hk1 ?_
  obtain ⟨V3, hV3, h⟩ := ob_ h
  refine cv_X6_62 (pc := 30) F dX6_copyFrom_30 (kf_1_8 hk) (ct_X0_copyFrom (enL E) G (k + 8) (k1 + 8) (kf_1_8 hk) (kf_1_8 hk1) V2 V3 hV3) (by decide) (by decide) (Nat.le_of_ble_eq_true rfl) ?_
  refine go_aloadn (pc := 33) F dX6_copyFrom_33 0 rfl ?_
  refine gf_X6_35 (pc := 34) F dX6_copyFrom_34 hk ?_
  refine go_aloadn (pc := 37) F dX6_copyFrom_37 1 rfl ?_
  refine gf_X6_35 (pc := 38) F dX6_copyFrom_38 hk1 ?_
  obtain ⟨V4, hV4, h⟩ := ob_ h
  refine cv_X6_65 (pc := 41) F dX6_copyFrom_41 (kf_1_11 hk) (ct_X4_copyFrom (enL E) G (k + 11) (k1 + 11) (kf_1_11 hk) (kf_1_11 hk1) V3 V4 hV4) (by decide) (by decide) (Nat.le_of_ble_eq_true rfl) ?_
  refine go_aloadn (pc := 44) F dX6_copyFrom_44 0 rfl ?_
  refine go_aloadn (pc := 45) F dX6_copyFrom_45 1 rfl ?_
  refine gf_X6_39 (pc := 46) F dX6_copyFrom_46 hk1 ?_
  refine pf_X6_39 (pc := 49) F dX6_copyFrom_49 hk h (fun V5 h => ?_)
  refine go_aloadn (pc := 52) F dX6_copyFrom_52 0 rfl ?_
  refine go_aloadn (pc := 53) F dX6_copyFrom_53 1 rfl ?_
  refine gf_X6_43 (pc := 54) F dX6_copyFrom_54 hk1 ?_
  refine pf_X6_43 (pc := 57) F dX6_copyFrom_57 hk h (fun V6 h => ?_)
  refine go_aloadn (pc := 60) F dX6_copyFrom_60 0 rfl ?_
  refine go_aloadn (pc := 61) F dX6_copyFrom_61 1 rfl ?_
  refine gf_X6_46 (pc := 62) F dX6_copyFrom_62 hk1 ?_
  refine pf_X6_46 (pc := 65) F dX6_copyFrom_65 hk h (fun V7 h => ?_)
  refine go_aloadn (pc := 68) F dX6_copyFrom_68 0 rfl ?_
  refine go_aloadn (pc := 69) F dX6_copyFrom_69 1 rfl ?_
  refine gf_X6_49 (pc := 70) F dX6_copyFrom_70 hk1 ?_
  refine pf_X6_49 (pc := 73) F dX6_copyFrom_73 hk h (fun V8 h => ?_)
  refine go_aloadn (pc := 76) F dX6_copyFrom_76 0 rfl ?_
  refine go_aloadn (pc := 77) F dX6_copyFrom_77 1 rfl ?_
  refine gf_X6_52 (pc := 78) F dX6_copyFrom_78 hk1 ?_
  refine pf_X6_52 (pc := 81) F dX6_copyFrom_81 hk h (fun V9 h => ?_)
  exact go_vretW (pc := 84) F dX6_copyFrom_84 h
set_option maxRecDepth 100000 in
set_option maxHeartbeats 4000000 in
theorem ct_X2_record (l : Launch) (G : Gm) (k1 : Nat) (hk1 : kd k1 = 1) (V : Wd) (z : Wd) (h : f_X2_record k1 V = some z) : Ct l G yX2_record cX2_record 3 none 3 68 [.ref (AD G 29), .ref (AD G k1)] V none z := by
  refine Ct.of (own := RX2) (by decide +kernel) rfl (Nat.le_of_ble_eq_true rfl) (fun E F he => ?_)
  clear he
  refine go_sub (lv' := [(0, .ref (AD G 29)), (1, .ref (AD G k1))]) [0, 1] rfl ?_
  unfold f_X2_record at h
  refine go_aloadn (pc := 0) F dX2_record_0 0 rfl ?_
  refine go_aloadn (pc := 1) F dX2_record_1 0 rfl ?_
  refine gf_X2_17 (pc := 2) F dX2_record_2 rfl ?_
  obtain ⟨o1, ho1, h⟩ := ob_ h
  refine cv_X2_25 (pc := 5) F dX2_record_5 rfl (ct_X2_slotAt (enL E) G V (V 29 1) o1 ho1) (by decide) (by decide) (Nat.le_of_ble_eq_true rfl) ?_
  rcases o1 with _ | r2
  · refine go_anstoren (pc := 8) (lv' := [(2, .null), (0, .ref (AD G 29)), (1, .ref (AD G k1))]) F dX2_record_8 (by decide) rfl ?_
    refine go_anloadn (pc := 9) F dX2_record_9 0 rfl ?_
    refine go_nullT (pc := 10) 44 F dX2_record_10 (by decide) ?_
    exact go_vretW (pc := 44) F dX2_record_44 h
  · refine go_gd h (fun hr2 h => ?_)
    refine go_astoren (pc := 8) (lv' := [(2, .ref (AD G r2)), (0, .ref (AD G 29)), (1, .ref (AD G k1))]) F dX2_record_8 (by decide) rfl ?_
    refine go_aloadn (pc := 9) F dX2_record_9 0 rfl ?_
    refine go_nullF (pc := 10) F dX2_record_10 ?_
    refine go_aloadn (pc := 13) F dX2_record_13 0 rfl ?_
    refine go_aloadn (pc := 14) F dX2_record_14 2 rfl ?_
    obtain ⟨V3, hV3, h⟩ := ob_ h
    refine cv_X2_29 (pc := 15) F dX2_record_15 hr2 (ct_X6_copyFrom (enL E) G r2 k1 hr2 hk1 V V3 hV3) (by decide) (by decide) (Nat.le_of_ble_eq_true rfl) ?_
    refine go_aloadn (pc := 18) F dX2_record_18 1 rfl ?_
    refine go_aloadn (pc := 19) F dX2_record_19 1 rfl ?_
    refine gf_X2_17 (pc := 20) F dX2_record_20 rfl ?_
    refine go_iconst (pc := 23) 1 F dX2_record_23 (by decide) ?_
    refine go_iadd (pc := 24) F dX2_record_24 ?_
    refine go_iconst (pc := 25) 5 F dX2_record_25 (by decide) ?_
    refine go_irem (pc := 26) F dX2_record_26 (by decide) ?_
    refine pf_X2_17 (pc := 27) F dX2_record_27 rfl h (fun V4 h => ?_)
    refine go_aloadn (pc := 30) F dX2_record_30 1 rfl ?_
    refine go_aloadn (pc := 31) F dX2_record_31 1 rfl ?_
    refine gf_X2_21 (pc := 32) F dX2_record_32 rfl ?_
    refine go_iconst (pc := 35) 1 F dX2_record_35 (by decide) ?_
    refine go_iadd (pc := 36) F dX2_record_36 ?_
    refine go_iconst (pc := 37) 5 F dX2_record_37 (by decide) ?_
    refine go_min (pc := 38) F dX2_record_38 ml_X2_33 (by decide) (Nat.le_of_ble_eq_true rfl) ?_
    refine pf_X2_21 (pc := 41) F dX2_record_41 rfl h (fun V5 h => ?_)
    exact go_vretW (pc := 44) F dX2_record_44 h
set_option maxRecDepth 100000 in
set_option maxHeartbeats 4000000 in
theorem lb_X3_clear_2 {E : En} {G : Gm} (F : Fx E G (AG G) RX3 cX3_clear 2 none 0 0 0 0) {k : Nat} (hk : kd k = 3) {z : Wd} : ∀ (n : Nat) (V : Wd) (x1 : Int32), f_X3_clear_2 k n V x1 = some z → Go E G (AG G) 0 0 (MQq E G none z) 2 V 2 [(0, .ref (AD G k)), (1, .int x1)] [] := by
  intro n
  induction n with
  | zero => intro V x1 h; cases h
  | succ n ih =>
    intro V x1 h
    rw [f_X3_clear_2] at h
    refine go_iloadn (pc := 2) F dX3_clear_2 1 rfl ?_
    refine go_iconst (pc := 3) 5 F dX3_clear_3 (by decide) ?_
    refine go_icmp_ge (pc := 4) 20 F dX3_clear_4 (by decide) h (fun c2 h => ?_) (fun c2 h => ?_)
    · exact go_vretW (pc := 20) F dX3_clear_20 h
    · refine go_aloadn (pc := 7) F dX3_clear_7 0 rfl ?_
      refine gf_X3_15 (pc := 8) F dX3_clear_8 hk ?_
      refine go_iloadn (pc := 11) F dX3_clear_11 1 rfl ?_
      refine go_iconst (pc := 12) 0 F dX3_clear_12 (by decide) ?_
      refine go_iast (pc := 13) 5 F dX3_clear_13 (kf_3_2 hk) (by decide) h (fun V1 h => ?_)
      refine go_iinc (pc := 14) (x1 + 1) (lv' := [(1, .int (x1 + 1)), (0, .ref (AD G k))]) F dX3_clear_14 (k := 1) rfl rfl (by decide) rfl ?_
      refine go_goto (pc := 17) 2 F dX3_clear_17 (by decide) ?_
      exact go_sub [1, 0] rfl (ih V1 (x1 + 1) h)
set_option maxRecDepth 100000 in
set_option maxHeartbeats 4000000 in
theorem ct_X3_clear (l : Launch) (G : Gm) (k : Nat) (hk : kd k = 3) (V : Wd) (z : Wd) (h : f_X3_clear k V = some z) : Ct l G yX3_clear cX3_clear 2 none 0 0 [.ref (AD G k)] V none z := by
  refine Ct.of (own := RX3) (by decide +kernel) rfl (Nat.le_of_ble_eq_true rfl) (fun E F he => ?_)
  clear he
  refine go_sub (lv' := [(0, .ref (AD G k))]) [0] rfl ?_
  unfold f_X3_clear at h
  refine go_iconst (pc := 0) 0 F dX3_clear_0 (by decide) ?_
  refine go_istoren (pc := 1) (lv' := [(1, .int 0), (0, .ref (AD G k))]) F dX3_clear_1 (by decide) rfl ?_
  exact go_sub [1, 0] rfl (lb_X3_clear_2 F hk FU_ V 0 h)
set_option maxRecDepth 100000 in
set_option maxHeartbeats 4000000 in
theorem ct_X3_sizeOf (l : Launch) (G : Gm) (k : Nat) (hk : kd k = 3) (V : Wd) (x1 : Int32) (z : Int32) (h : f_X3_sizeOf k V x1 = some z) : Ct l G yX3_sizeOf cX3_sizeOf 2 (some .int) 1 21 [.ref (AD G k), .int x1] V (some (.int z)) V := by
  refine Ct.of (own := RX3) (by decide +kernel) rfl (Nat.le_of_ble_eq_true rfl) (fun E F he => ?_)
  clear he
  refine go_sub (lv' := [(0, .ref (AD G k)), (1, .int x1)]) [0, 1] rfl ?_
  unfold f_X3_sizeOf at h
  refine go_iloadn (pc := 0) F dX3_sizeOf_0 1 rfl ?_
  refine go_iconst (pc := 1) 5 F dX3_sizeOf_1 (by decide) ?_
  refine cv_X3_24 (pc := 2) F dX3_sizeOf_2 (ct_X8_isBelow (enL E) G V x1 5) (by decide) (by decide) (Nat.le_of_ble_eq_true rfl) ?_
  refine go_if_eq (pc := 5) 17 F dX3_sizeOf_5 (by decide) h (fun c2 h => ?_) (fun c2 h => ?_)
  · refine go_iconst (pc := 17) 0 F dX3_sizeOf_17 (by decide) ?_
    exact go_iretR (pc := 18) F dX3_sizeOf_18 h
  · refine go_aloadn (pc := 8) F dX3_sizeOf_8 0 rfl ?_
    refine gf_X3_15 (pc := 9) F dX3_sizeOf_9 hk ?_
    refine go_iloadn (pc := 12) F dX3_sizeOf_12 1 rfl ?_
    refine go_iald (pc := 13) 5 F dX3_sizeOf_13 (kf_3_2 hk) (by decide) h (fun y1 h => ?_)
    refine go_goto (pc := 14) 18 F dX3_sizeOf_14 (by decide) ?_
    exact go_iretR (pc := 18) F dX3_sizeOf_18 h
set_option maxRecDepth 100000 in
set_option maxHeartbeats 4000000 in
theorem ct_X3_has (l : Launch) (G : Gm) (k : Nat) (hk : kd k = 3) (V : Wd) (x1 : Int32) (x2 : Int32) (z : Int32) (h : f_X3_has k V x1 x2 = some z) : Ct l G yX3_has cX3_has 3 (some .boolean) 0 0 [.ref (AD G k), .int x1, .int x2] V (some (.int z)) V := by
  refine Ct.of (own := RX3) (by decide +kernel) rfl (Nat.le_of_ble_eq_true rfl) (fun E F he => ?_)
  clear he
  refine go_sub (lv' := [(0, .ref (AD G k)), (1, .int x1), (2, .int x2)]) [0, 1, 2] rfl ?_
  unfold f_X3_has at h
  refine go_iloadn (pc := 0) F dX3_has_0 1 rfl ?_
  refine go_if_lt (pc := 1) 33 F dX3_has_1 (by decide) h (fun c6 h => ?_) (fun c6 h => ?_)
  · refine go_iconst (pc := 33) 0 F dX3_has_33 (by decide) ?_
    exact go_zretR (pc := 34) F dX3_has_34 rfl h
  · refine go_iloadn (pc := 4) F dX3_has_4 1 rfl ?_
    refine go_iconst (pc := 5) 5 F dX3_has_5 (by decide) ?_
    refine go_icmp_ge (pc := 6) 33 F dX3_has_6 (by decide) h (fun c5 h => ?_) (fun c5 h => ?_)
    · refine go_iconst (pc := 33) 0 F dX3_has_33 (by decide) ?_
      exact go_zretR (pc := 34) F dX3_has_34 rfl h
    · refine go_iloadn (pc := 9) F dX3_has_9 2 rfl ?_
      refine go_iconst (pc := 10) 1 F dX3_has_10 (by decide) ?_
      refine go_icmp_lt (pc := 11) 33 F dX3_has_11 (by decide) h (fun c4 h => ?_) (fun c4 h => ?_)
      · refine go_iconst (pc := 33) 0 F dX3_has_33 (by decide) ?_
        exact go_zretR (pc := 34) F dX3_has_34 rfl h
      · refine go_iloadn (pc := 14) F dX3_has_14 2 rfl ?_
        refine go_iconst (pc := 15) 4 F dX3_has_15 (by decide) ?_
        refine go_icmp_gt (pc := 16) 33 F dX3_has_16 (by decide) h (fun c3 h => ?_) (fun c3 h => ?_)
        · refine go_iconst (pc := 33) 0 F dX3_has_33 (by decide) ?_
          exact go_zretR (pc := 34) F dX3_has_34 rfl h
        · refine go_iloadn (pc := 19) F dX3_has_19 2 rfl ?_
          refine go_aloadn (pc := 20) F dX3_has_20 0 rfl ?_
          refine gf_X3_15 (pc := 21) F dX3_has_21 hk ?_
          refine go_iloadn (pc := 24) F dX3_has_24 1 rfl ?_
          refine go_iald (pc := 25) 5 F dX3_has_25 (kf_3_2 hk) (by decide) h (fun y1 h => ?_)
          refine go_icmp_gt (pc := 26) 33 F dX3_has_26 (by decide) h (fun c2 h => ?_) (fun c2 h => ?_)
          · refine go_iconst (pc := 33) 0 F dX3_has_33 (by decide) ?_
            exact go_zretR (pc := 34) F dX3_has_34 rfl h
          · refine go_iconst (pc := 29) 1 F dX3_has_29 (by decide) ?_
            refine go_goto (pc := 30) 34 F dX3_has_30 (by decide) ?_
            exact go_zretR (pc := 34) F dX3_has_34 rfl h
set_option maxRecDepth 100000 in
set_option maxHeartbeats 4000000 in
theorem ct_X3_signAt (l : Launch) (G : Gm) (k : Nat) (hk : kd k = 3) (V : Wd) (x1 : Int32) (x2 : Int32) (z : Int32) (h : f_X3_signAt k V x1 x2 = some z) : Ct l G yX3_signAt cX3_signAt 3 (some .int) 1 22 [.ref (AD G k), .int x1, .int x2] V (some (.int z)) V := by
  refine Ct.of (own := RX3) (by decide +kernel) rfl (Nat.le_of_ble_eq_true rfl) (fun E F he => ?_)
  clear he
  refine go_sub (lv' := [(0, .ref (AD G k)), (1, .int x1), (2, .int x2)]) [0, 1, 2] rfl ?_
  unfold f_X3_signAt at h
  refine go_aloadn (pc := 0) F dX3_signAt_0 0 rfl ?_
  refine go_iloadn (pc := 1) F dX3_signAt_1 1 rfl ?_
  refine go_iloadn (pc := 2) F dX3_signAt_2 2 rfl ?_
  obtain ⟨y1, hy1, h⟩ := ob_ h
  refine cv_X3_28 (pc := 3) F dX3_signAt_3 hk (ct_X3_has (enL E) G k hk V x1 x2 y1 hy1) (by decide) (by decide) (Nat.le_of_ble_eq_true rfl) ?_
  refine go_if_eq (pc := 6) 24 F dX3_signAt_6 (by decide) h (fun c3 h => ?_) (fun c3 h => ?_)
  · refine go_iconst (pc := 24) (-1) F dX3_signAt_24 (by decide) ?_
    exact go_iretR (pc := 25) F dX3_signAt_25 h
  · refine go_aloadn (pc := 9) F dX3_signAt_9 0 rfl ?_
    refine gf_X3_9 (pc := 10) F dX3_signAt_10 hk ?_
    refine go_iloadn (pc := 13) F dX3_signAt_13 1 rfl ?_
    refine go_iconst (pc := 14) 4 F dX3_signAt_14 (by decide) ?_
    refine go_imul (pc := 15) F dX3_signAt_15 ?_
    refine go_iloadn (pc := 16) F dX3_signAt_16 2 rfl ?_
    refine go_iadd (pc := 17) F dX3_signAt_17 ?_
    refine go_iconst (pc := 18) 1 F dX3_signAt_18 (by decide) ?_
    refine go_isub (pc := 19) F dX3_signAt_19 ?_
    refine go_iald (pc := 20) 20 F dX3_signAt_20 (kf_3_1 hk) (by decide) h (fun y2 h => ?_)
    refine go_goto (pc := 21) 25 F dX3_signAt_21 (by decide) ?_
    exact go_iretR (pc := 25) F dX3_signAt_25 h
set_option maxRecDepth 100000 in
set_option maxHeartbeats 4000000 in
theorem lb_X3_flagAt_10 {E : En} {G : Gm} (F : Fx E G (AG G) RX3 cX3_flagAt 5 (some .int) 2 44 0 0) {k : Nat} (hk : kd k = 3) {V : Wd} {x1 : Int32} {x2 : Int32} {z : Int32} : ∀ (n : Nat) (x3 : Int32) (x4 : Int32), f_X3_flagAt_10 k V x1 x2 n x3 x4 = some z → Go E G (AG G) 0 0 (MQq E G (some (.int z)) V) 5 V 10 [(0, .ref (AD G k)), (1, .int x1), (3, .int x3), (4, .int x4)] [] := by
  intro n
  induction n with
  | zero => intro x3 x4 h; cases h
  | succ n ih =>
    intro x3 x4 h
    rw [f_X3_flagAt_10] at h
    refine go_iload (pc := 10) F dX3_flagAt_10 3 rfl ?_
    refine go_iconst (pc := 12) 4 F dX3_flagAt_12 (by decide) ?_
    refine go_icmp_ge (pc := 13) 38 F dX3_flagAt_13 (by decide) h (fun c4 h => ?_) (fun c4 h => ?_)
    · refine go_iloadn (pc := 38) F dX3_flagAt_38 2 rfl ?_
      exact go_iretR (pc := 39) F dX3_flagAt_39 h
    · refine go_iloadn (pc := 16) F dX3_flagAt_16 2 rfl ?_
      refine go_bipush (pc := 17) 10 F dX3_flagAt_17 (by decide) ?_
      refine go_icmp_le (pc := 19) 38 F dX3_flagAt_19 (by decide) h (fun c3 h => ?_) (fun c3 h => ?_)
      · refine go_iloadn (pc := 38) F dX3_flagAt_38 2 rfl ?_
        exact go_iretR (pc := 39) F dX3_flagAt_39 h
      · refine go_aloadn (pc := 22) F dX3_flagAt_22 0 rfl ?_
        refine go_iloadn (pc := 23) F dX3_flagAt_23 1 rfl ?_
        refine go_iloadn (pc := 24) F dX3_flagAt_24 2 rfl ?_
        refine go_bipush (pc := 25) 10 F dX3_flagAt_25 (by decide) ?_
        refine go_isub (pc := 27) F dX3_flagAt_27 ?_
        obtain ⟨y2, hy2, h⟩ := ob_ h
        refine cv_X3_31 (pc := 28) F dX3_flagAt_28 hk (ct_X3_signAt (enL E) G k hk V x1 (x3 - 10) y2 hy2) (by decide) (by decide) (Nat.le_of_ble_eq_true rfl) ?_
        refine go_istoren (pc := 31) (lv' := [(3, .int y2), (0, .ref (AD G k)), (1, .int x1), (4, .int x4)]) F dX3_flagAt_31 (by decide) rfl ?_
        refine go_iinc (pc := 32) (x4 + 1) (lv' := [(4, .int (x4 + 1)), (3, .int y2), (0, .ref (AD G k)), (1, .int x1)]) F dX3_flagAt_32 (k := 3) rfl rfl (by decide) rfl ?_
        refine go_goto (pc := 35) 10 F dX3_flagAt_35 (by decide) ?_
        exact go_sub [2, 3, 1, 0] rfl (ih y2 (x4 + 1) h)
set_option maxRecDepth 100000 in
set_option maxHeartbeats 4000000 in
theorem ct_X3_flagAt (l : Launch) (G : Gm) (k : Nat) (hk : kd k = 3) (V : Wd) (x1 : Int32) (x2 : Int32) (z : Int32) (h : f_X3_flagAt k V x1 x2 = some z) : Ct l G yX3_flagAt cX3_flagAt 5 (some .int) 2 44 [.ref (AD G k), .int x1, .int x2] V (some (.int z)) V := by
  refine Ct.of (own := RX3) (by decide +kernel) rfl (Nat.le_of_ble_eq_true rfl) (fun E F he => ?_)
  clear he
  refine go_sub (lv' := [(0, .ref (AD G k)), (1, .int x1), (2, .int x2)]) [0, 1, 2] rfl ?_
  unfold f_X3_flagAt at h
  refine go_aloadn (pc := 0) F dX3_flagAt_0 0 rfl ?_
  refine go_iloadn (pc := 1) F dX3_flagAt_1 1 rfl ?_
  refine go_iloadn (pc := 2) F dX3_flagAt_2 2 rfl ?_
  obtain ⟨y1, hy1, h⟩ := ob_ h
  refine cv_X3_31 (pc := 3) F dX3_flagAt_3 hk (ct_X3_signAt (enL E) G k hk V x1 x2 y1 hy1) (by decide) (by decide) (Nat.le_of_ble_eq_true rfl) ?_
  refine go_istoren (pc := 6) (lv' := [(3, .int y1), (0, .ref (AD G k)), (1, .int x1), (2, .int x2)]) F dX3_flagAt_6 (by decide) rfl ?_
  refine go_iconst (pc := 7) 1 F dX3_flagAt_7 (by decide) ?_
  refine go_istore (pc := 8) (lv' := [(4, .int 1), (3, .int y1), (0, .ref (AD G k)), (1, .int x1), (2, .int x2)]) F dX3_flagAt_8 (by decide) rfl ?_
  exact go_sub [2, 3, 1, 0] rfl (lb_X3_flagAt_10 F hk FU_ y1 1 h)

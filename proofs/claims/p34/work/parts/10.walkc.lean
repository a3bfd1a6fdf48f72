set_option maxRecDepth 100000 in
set_option maxHeartbeats 4000000 in
theorem lb_X5_countKnown_4 {E : En} {G : Gm} (F : Fx E G (AG G) RX5 cX5_countKnown 3 (some .int) 0 0 0 0) {k : Nat} (hk : kd k = 8) {V : Wd} {z : Int32} : ∀ (n : Nat) (x1 : Int32) (x2 : Int32), f_X5_countKnown_4 k V n x1 x2 = some z → Go E G (AG G) 0 0 (MQq E G (some (.int z)) V) 3 V 4 [(0, .ref (AD G k)), (1, .int x1), (2, .int x2)] [] := by
  intro n
  induction n with
  | zero => intro x1 x2 h; cases h
  | succ n ih =>
    intro x1 x2 h
    rw [f_X5_countKnown_4] at h
    refine go_iloadn (pc := 4) F dX5_countKnown_4 2 rfl ?_
    refine go_aloadn (pc := 5) F dX5_countKnown_5 0 rfl ?_
    refine gf_X5_18 (pc := 6) F dX5_countKnown_6 hk ?_
    refine go_icmp_ge (pc := 9) 37 F dX5_countKnown_9 (by decide) h (fun c4 h => ?_) (fun c4 h => ?_)
    · refine go_iloadn (pc := 37) F dX5_countKnown_37 1 rfl ?_
      exact go_iretR (pc := 38) F dX5_countKnown_38 h
    · refine go_iloadn (pc := 12) F dX5_countKnown_12 2 rfl ?_
      refine go_iconst (pc := 13) 5 F dX5_countKnown_13 (by decide) ?_
      refine go_icmp_ge (pc := 14) 37 F dX5_countKnown_14 (by decide) h (fun c3 h => ?_) (fun c3 h => ?_)
      · refine go_iloadn (pc := 37) F dX5_countKnown_37 1 rfl ?_
        exact go_iretR (pc := 38) F dX5_countKnown_38 h
      · refine go_aloadn (pc := 17) F dX5_countKnown_17 0 rfl ?_
        refine gf_X5_15 (pc := 18) F dX5_countKnown_18 hk ?_
        refine go_iloadn (pc := 21) F dX5_countKnown_21 2 rfl ?_
        refine go_iald (pc := 22) 5 F dX5_countKnown_22 (kf_8_2 hk) (by decide) h (fun y1 h => ?_)
        refine go_bipush (pc := 23) (-6) F dX5_countKnown_23 (by decide) ?_
        refine go_icmp_eq (pc := 25) 31 F dX5_countKnown_25 (by decide) h (fun c2 h => ?_) (fun c2 h => ?_)
        · refine go_iinc (pc := 31) (x2 + 1) (lv' := [(2, .int (x2 + 1)), (0, .ref (AD G k)), (1, .int x1)]) F dX5_countKnown_31 (k := 2) rfl rfl (by decide) rfl ?_
          refine go_goto (pc := 34) 4 F dX5_countKnown_34 (by decide) ?_
          exact go_sub [1, 2, 0] rfl (ih x1 (x2 + 1) h)
        · refine go_iinc (pc := 28) (x1 + 1) (lv' := [(1, .int (x1 + 1)), (0, .ref (AD G k)), (2, .int x2)]) F dX5_countKnown_28 (k := 1) rfl rfl (by decide) rfl ?_
          refine go_iinc (pc := 31) (x2 + 1) (lv' := [(2, .int (x2 + 1)), (1, .int (x1 + 1)), (0, .ref (AD G k))]) F dX5_countKnown_31 (k := 2) rfl rfl (by decide) rfl ?_
          refine go_goto (pc := 34) 4 F dX5_countKnown_34 (by decide) ?_
          exact go_sub [2, 1, 0] rfl (ih (x1 + 1) (x2 + 1) h)
set_option maxRecDepth 100000 in
set_option maxHeartbeats 4000000 in
theorem ct_X5_countKnown (l : Launch) (G : Gm) (k : Nat) (hk : kd k = 8) (V : Wd) (z : Int32) (h : f_X5_countKnown k V = some z) : Ct l G yX5_countKnown cX5_countKnown 3 (some .int) 0 0 [.ref (AD G k)] V (some (.int z)) V := by
  refine Ct.of (own := RX5) (by decide +kernel) rfl (Nat.le_of_ble_eq_true rfl) (fun E F he => ?_)
  clear he
  refine go_sub (lv' := [(0, .ref (AD G k))]) [0] rfl ?_
  unfold f_X5_countKnown at h
  refine go_iconst (pc := 0) 0 F dX5_countKnown_0 (by decide) ?_
  refine go_istoren (pc := 1) (lv' := [(1, .int 0), (0, .ref (AD G k))]) F dX5_countKnown_1 (by decide) rfl ?_
  refine go_iconst (pc := 2) 0 F dX5_countKnown_2 (by decide) ?_
  refine go_istoren (pc := 3) (lv' := [(2, .int 0), (1, .int 0), (0, .ref (AD G k))]) F dX5_countKnown_3 (by decide) rfl ?_
  exact go_sub [2, 1, 0] rfl (lb_X5_countKnown_4 F hk FU_ 0 0 h)
set_option maxRecDepth 100000 in
set_option maxHeartbeats 4000000 in
theorem ct_X5_knowsAll (l : Launch) (G : Gm) (k : Nat) (hk : kd k = 8) (V : Wd) (z : Int32) (h : f_X5_knowsAll k V = some z) : Ct l G yX5_knowsAll cX5_knowsAll 1 (some .boolean) 1 22 [.ref (AD G k)] V (some (.int z)) V := by
  refine Ct.of (own := RX5) (by decide +kernel) rfl (Nat.le_of_ble_eq_true rfl) (fun E F he => ?_)
  clear he
  refine go_sub (lv' := [(0, .ref (AD G k))]) [0] rfl ?_
  unfold f_X5_knowsAll at h
  refine go_aloadn (pc := 0) F dX5_knowsAll_0 0 rfl ?_
  refine gf_X5_18 (pc := 1) F dX5_knowsAll_1 hk ?_
  refine go_if_le (pc := 4) 22 F dX5_knowsAll_4 (by decide) h (fun c3 h => ?_) (fun c3 h => ?_)
  · refine go_iconst (pc := 22) 0 F dX5_knowsAll_22 (by decide) ?_
    exact go_zretR (pc := 23) F dX5_knowsAll_23 rfl h
  · refine go_aloadn (pc := 7) F dX5_knowsAll_7 0 rfl ?_
    obtain ⟨y1, hy1, h⟩ := ob_ h
    refine cv_X5_42 (pc := 8) F dX5_knowsAll_8 hk (ct_X5_countKnown (enL E) G k hk V y1 hy1) (by decide) (by decide) (Nat.le_of_ble_eq_true rfl) ?_
    refine go_aloadn (pc := 11) F dX5_knowsAll_11 0 rfl ?_
    refine gf_X5_18 (pc := 12) F dX5_knowsAll_12 hk ?_
    refine go_icmp_ne (pc := 15) 22 F dX5_knowsAll_15 (by decide) h (fun c2 h => ?_) (fun c2 h => ?_)
    · refine go_iconst (pc := 22) 0 F dX5_knowsAll_22 (by decide) ?_
      exact go_zretR (pc := 23) F dX5_knowsAll_23 rfl h
    · refine go_iconst (pc := 18) 1 F dX5_knowsAll_18 (by decide) ?_
      refine go_goto (pc := 19) 23 F dX5_knowsAll_19 (by decide) ?_
      exact go_zretR (pc := 23) F dX5_knowsAll_23 rfl h
set_option maxRecDepth 100000 in
set_option maxHeartbeats 4000000 in
theorem lb_X5_agreesWith_22 {E : En} {G : Gm} (F : Fx E G (AG G) RX5 cX5_agreesWith 3 (some .boolean) 2 42 0 0) {k : Nat} (hk : kd k = 8) {k1 : Nat} (hk1 : kd k1 = 8) {V : Wd} {z : Int32} : ∀ (n : Nat) (x2 : Int32), f_X5_agreesWith_22 k k1 V n x2 = some z → Go E G (AG G) 0 0 (MQq E G (some (.int z)) V) 3 V 22 [(0, .ref (AD G k)), (1, .ref (AD G k1)), (2, .int x2)] [] := by
  intro n
  induction n with
  | zero => intro x2 h; cases h
  | succ n ih =>
    intro x2 h
    rw [f_X5_agreesWith_22] at h
    refine go_iloadn (pc := 22) F dX5_agreesWith_22 2 rfl ?_
    refine go_aloadn (pc := 23) F dX5_agreesWith_23 0 rfl ?_
    refine gf_X5_18 (pc := 24) F dX5_agreesWith_24 hk ?_
    refine go_icmp_ge (pc := 27) 58 F dX5_agreesWith_27 (by decide) h (fun c8 h => ?_) (fun c8 h => ?_)
    · refine go_iconst (pc := 58) 1 F dX5_agreesWith_58 (by decide) ?_
      exact go_zretR (pc := 59) F dX5_agreesWith_59 rfl h
    · refine go_iloadn (pc := 30) F dX5_agreesWith_30 2 rfl ?_
      refine go_iconst (pc := 31) 5 F dX5_agreesWith_31 (by decide) ?_
      refine go_icmp_ge (pc := 32) 58 F dX5_agreesWith_32 (by decide) h (fun c7 h => ?_) (fun c7 h => ?_)
      · refine go_iconst (pc := 58) 1 F dX5_agreesWith_58 (by decide) ?_
        exact go_zretR (pc := 59) F dX5_agreesWith_59 rfl h
      · refine go_aloadn (pc := 35) F dX5_agreesWith_35 0 rfl ?_
        refine gf_X5_15 (pc := 36) F dX5_agreesWith_36 hk ?_
        refine go_iloadn (pc := 39) F dX5_agreesWith_39 2 rfl ?_
        refine go_iald (pc := 40) 5 F dX5_agreesWith_40 (kf_8_2 hk) (by decide) h (fun y4 h => ?_)
        refine go_aloadn (pc := 41) F dX5_agreesWith_41 1 rfl ?_
        refine gf_X5_15 (pc := 42) F dX5_agreesWith_42 hk1 ?_
        refine go_iloadn (pc := 45) F dX5_agreesWith_45 2 rfl ?_
        refine go_iald (pc := 46) 5 F dX5_agreesWith_46 (kf_8_2 hk1) (by decide) h (fun y5 h => ?_)
        refine go_icmp_eq (pc := 47) 52 F dX5_agreesWith_47 (by decide) h (fun c6 h => ?_) (fun c6 h => ?_)
        · refine go_iinc (pc := 52) (x2 + 1) (lv' := [(2, .int (x2 + 1)), (0, .ref (AD G k)), (1, .ref (AD G k1))]) F dX5_agreesWith_52 (k := 2) rfl rfl (by decide) rfl ?_
          refine go_goto (pc := 55) 22 F dX5_agreesWith_55 (by decide) ?_
          exact go_sub [1, 2, 0] rfl (ih (x2 + 1) h)
        · refine go_iconst (pc := 50) 0 F dX5_agreesWith_50 (by decide) ?_
          exact go_zretR (pc := 51) F dX5_agreesWith_51 rfl h
set_option maxRecDepth 100000 in
set_option maxHeartbeats 4000000 in
theorem ct_X5_agreesWith (l : Launch) (G : Gm) (k k1 : Nat) (hk : kd k = 8) (hk1 : kd k1 = 8) (V : Wd) (z : Int32) (h : f_X5_agreesWith k k1 V = some z) : Ct l G yX5_agreesWith cX5_agreesWith 3 (some .boolean) 2 42 [.ref (AD G k), .ref (AD G k1)] V (some (.int z)) V := by
  refine Ct.of (own := RX5) (by decide +kernel) rfl (Nat.le_of_ble_eq_true rfl) (fun E F he => ?_)
  clear he
  refine go_sub (lv' := [(0, .ref (AD G k)), (1, .ref (AD G k1))]) [0, 1] rfl ?_
  unfold f_X5_agreesWith at h
  refine go_aloadn (pc := 0) F dX5_agreesWith_0 0 rfl ?_
  obtain ⟨y1, hy1, h⟩ := ob_ h
  refine cv_X5_46 (pc := 1) F dX5_agreesWith_1 hk (ct_X5_knowsAll (enL E) G k hk V y1 hy1) (by decide) (by decide) (Nat.le_of_ble_eq_true rfl) ?_
  refine go_if_eq (pc := 4) 18 F dX5_agreesWith_4 (by decide) h (fun c3 h => ?_) (fun c3 h => ?_)
  · refine go_iconst (pc := 18) 0 F dX5_agreesWith_18 (by decide) ?_
    exact go_zretR (pc := 19) F dX5_agreesWith_19 rfl h
  · refine go_aloadn (pc := 7) F dX5_agreesWith_7 0 rfl ?_
    refine gf_X5_18 (pc := 8) F dX5_agreesWith_8 hk ?_
    refine go_aloadn (pc := 11) F dX5_agreesWith_11 1 rfl ?_
    refine gf_X5_18 (pc := 12) F dX5_agreesWith_12 hk1 ?_
    refine go_icmp_eq (pc := 15) 20 F dX5_agreesWith_15 (by decide) h (fun c2 h => ?_) (fun c2 h => ?_)
    · refine go_iconst (pc := 20) 0 F dX5_agreesWith_20 (by decide) ?_
      refine go_istoren (pc := 21) (lv' := [(2, .int 0), (0, .ref (AD G k)), (1, .ref (AD G k1))]) F dX5_agreesWith_21 (by decide) rfl ?_
      exact go_sub [1, 2, 0] rfl (lb_X5_agreesWith_22 F hk hk1 FU_ 0 h)
    · refine go_iconst (pc := 18) 0 F dX5_agreesWith_18 (by decide) ?_
      exact go_zretR (pc := 19) F dX5_agreesWith_19 rfl h
set_option maxRecDepth 100000 in
set_option maxHeartbeats 4000000 in
theorem ct_X8_recordAndBringPennantDown (l : Launch) (G : Gm) (V : Wd) (z : Wd) (h : f_X8_recordAndBringPennantDown V = some z) : Ct l G yX8_recordAndBringPennantDown cX8_recordAndBringPennantDown 1 none 4 90 [.ref (AD G 0)] V none z := by
  refine Ct.of (own := RX8) (by decide +kernel) rfl (Nat.le_of_ble_eq_true rfl) (fun E F he => ?_)
  clear he
  refine go_sub (lv' := [(0, .ref (AD G 0))]) [0] rfl ?_
  unfold f_X8_recordAndBringPennantDown at h
  refine go_aloadn (pc := 0) F dX8_recordAndBringPennantDown_0 0 rfl ?_
  refine gf_X8_26 (pc := 1) F dX8_recordAndBringPennantDown_1 rfl ?_
  refine go_aloadn (pc := 4) F dX8_recordAndBringPennantDown_4 0 rfl ?_
  refine gf_X8_10 (pc := 5) F dX8_recordAndBringPennantDown_5 rfl ?_
  obtain ⟨V1, hV1, h⟩ := ob_ h
  refine cv_X8_80 (pc := 8) F dX8_recordAndBringPennantDown_8 rfl (ct_X2_record (enL E) G 1 rfl V V1 hV1) (by decide) (by decide) (Nat.le_of_ble_eq_true rfl) ?_
  refine go_aloadn (pc := 11) F dX8_recordAndBringPennantDown_11 0 rfl ?_
  refine gf_X8_10 (pc := 12) F dX8_recordAndBringPennantDown_12 rfl ?_
  refine go_iconst (pc := 15) 0 F dX8_recordAndBringPennantDown_15 (by decide) ?_
  refine pf_X8_127 (pc := 16) F dX8_recordAndBringPennantDown_16 rfl h (fun V2 h => ?_)
  exact go_vretW (pc := 19) F dX8_recordAndBringPennantDown_19 h
set_option maxRecDepth 100000 in
set_option maxHeartbeats 4000000 in
theorem ct_X8_paint (l : Launch) (G : Gm) (V : Wd) (x1 : Int32) (x2 : Int32) (x3 : Int32) (x4 : Int32) (z : Int32 × Wd) (h : f_X8_paint V x1 x2 x3 x4 = some z) : Ct l G yX8_paint cX8_paint 5 (some .int) 5 110 [.ref (AD G 0), .int x1, .int x2, .int x3, .int x4] V (some (.int z.1)) z.2 := by
  refine Ct.of (own := RX8) (by decide +kernel) rfl (Nat.le_of_ble_eq_true rfl) (fun E F he => ?_)
  clear he
  refine go_sub (lv' := [(0, .ref (AD G 0)), (1, .int x1), (2, .int x2), (3, .int x3), (4, .int x4)]) [0, 1, 2, 3, 4] rfl ?_
  unfold f_X8_paint at h
  refine go_iloadn (pc := 0) F dX8_paint_0 1 rfl ?_
  refine go_bipush (pc := 1) 10 F dX8_paint_1 (by decide) ?_
  refine cv_X8_49 (pc := 3) F dX8_paint_3 (ct_X8_isBelow (enL E) G V x1 10) (by decide) (by decide) (Nat.le_of_ble_eq_true rfl) ?_
  refine go_if_ne (pc := 6) 11 F dX8_paint_6 (by decide) h (fun c7 h => ?_) (fun c7 h => ?_)
  · refine go_iloadn (pc := 11) F dX8_paint_11 2 rfl ?_
    refine go_bipush (pc := 12) 8 F dX8_paint_12 (by decide) ?_
    refine cv_X8_49 (pc := 14) F dX8_paint_14 (ct_X8_isBelow (enL E) G V x2 8) (by decide) (by decide) (Nat.le_of_ble_eq_true rfl) ?_
    refine go_if_eq (pc := 17) 39 F dX8_paint_17 (by decide) h (fun c6 h => ?_) (fun c6 h => ?_)
    · refine go_bipush (pc := 39) (-2) F dX8_paint_39 (by decide) ?_
      exact go_iretW (pc := 41) F dX8_paint_41 h
    · refine go_iloadn (pc := 20) F dX8_paint_20 3 rfl ?_
      refine go_bipush (pc := 21) 8 F dX8_paint_21 (by decide) ?_
      refine cv_X8_49 (pc := 23) F dX8_paint_23 (ct_X8_isBelow (enL E) G V x3 8) (by decide) (by decide) (Nat.le_of_ble_eq_true rfl) ?_
      refine go_if_eq (pc := 26) 39 F dX8_paint_26 (by decide) h (fun c5 h => ?_) (fun c5 h => ?_)
      · refine go_bipush (pc := 39) (-2) F dX8_paint_39 (by decide) ?_
        exact go_iretW (pc := 41) F dX8_paint_41 h
      · refine go_iload (pc := 29) F dX8_paint_29 4 rfl ?_
        refine go_bipush (pc := 31) 10 F dX8_paint_31 (by decide) ?_
        refine cv_X8_49 (pc := 33) F dX8_paint_33 (ct_X8_isBelow (enL E) G V x4 10) (by decide) (by decide) (Nat.le_of_ble_eq_true rfl) ?_
        refine go_if_ne (pc := 36) 42 F dX8_paint_36 (by decide) h (fun c4 h => ?_) (fun c4 h => ?_)
        · refine go_aloadn (pc := 42) F dX8_paint_42 0 rfl ?_
          obtain ⟨V1, hV1, h⟩ := ob_ h
          refine cv_X8_53 (pc := 43) F dX8_paint_43 rfl (ct_X8_recordAndBringPennantDown (enL E) G V V1 hV1) (by decide) (by decide) (Nat.le_of_ble_eq_true rfl) ?_
          refine go_aloadn (pc := 46) F dX8_paint_46 0 rfl ?_
          refine gf_X8_10 (pc := 47) F dX8_paint_47 rfl ?_
          refine gf_X8_56 (pc := 50) F dX8_paint_50 rfl ?_
          refine go_iloadn (pc := 53) F dX8_paint_53 1 rfl ?_
          refine go_iloadn (pc := 54) F dX8_paint_54 2 rfl ?_
          refine go_iloadn (pc := 55) F dX8_paint_55 3 rfl ?_
          refine go_iload (pc := 56) F dX8_paint_56 4 rfl ?_
          obtain ⟨V2, hV2, h⟩ := ob_ h
          refine cv_X8_60 (pc := 58) F dX8_paint_58 rfl (ct_X1_change (enL E) G 2 rfl V1 x1 x2 x3 x4 V2 hV2) (by decide) (by decide) (Nat.le_of_ble_eq_true rfl) ?_
          refine go_aloadn (pc := 61) F dX8_paint_61 0 rfl ?_
          refine gf_X8_10 (pc := 62) F dX8_paint_62 rfl ?_
          refine gf_X8_56 (pc := 65) F dX8_paint_65 rfl ?_
          refine go_iloadn (pc := 68) F dX8_paint_68 2 rfl ?_
          refine go_iloadn (pc := 69) F dX8_paint_69 3 rfl ?_
          obtain ⟨y3, hy3, h⟩ := ob_ h
          refine cv_X8_66 (pc := 70) F dX8_paint_70 rfl (ct_X1_countWith (enL E) G 2 rfl V2 x2 x3 y3 hy3) (by decide) (by decide) (Nat.le_of_ble_eq_true rfl) ?_
          exact go_iretW (pc := 73) F dX8_paint_73 h
        · refine go_bipush (pc := 39) (-2) F dX8_paint_39 (by decide) ?_
          exact go_iretW (pc := 41) F dX8_paint_41 h
  · refine go_iconst (pc := 9) (-1) F dX8_paint_9 (by decide) ?_
    exact go_iretW (pc := 10) F dX8_paint_10 h
set_option maxRecDepth 100000 in
set_option maxHeartbeats 4000000 in
theorem ct_X8_setStock (l : Launch) (G : Gm) (V : Wd) (x1 : Int32) (z : Int32 × Wd) (h : f_X8_setStock V x1 = some z) : Ct l G yX8_setStock cX8_setStock 3 (some .int) 4 90 [.ref (AD G 0), .int x1] V (some (.int z.1)) z.2 := by
  refine Ct.of (own := RX8) (by decide +kernel) rfl (Nat.le_of_ble_eq_true rfl) (fun E F he => ?_)
  clear he
  refine go_sub (lv' := [(0, .ref (AD G 0)), (1, .int x1)]) [0, 1] rfl ?_
  unfold f_X8_setStock at h
  refine go_iloadn (pc := 0) F dX8_setStock_0 1 rfl ?_
  refine go_iconst (pc := 1) 1 F dX8_setStock_1 (by decide) ?_
  refine go_icmp_lt (pc := 2) 10 F dX8_setStock_2 (by decide) h (fun c7 h => ?_) (fun c7 h => ?_)
  · refine go_bipush (pc := 10) (-2) F dX8_setStock_10 (by decide) ?_
    exact go_iretW (pc := 12) F dX8_setStock_12 h
  · refine go_iloadn (pc := 5) F dX8_setStock_5 1 rfl ?_
    refine go_iconst (pc := 6) 3 F dX8_setStock_6 (by decide) ?_
    refine go_icmp_le (pc := 7) 13 F dX8_setStock_7 (by decide) h (fun c6 h => ?_) (fun c6 h => ?_)
    · refine go_aloadn (pc := 13) F dX8_setStock_13 0 rfl ?_
      refine gf_X8_10 (pc := 14) F dX8_setStock_14 rfl ?_
      refine gf_X8_70 (pc := 17) F dX8_setStock_17 rfl ?_
      obtain ⟨y1, hy1, h⟩ := ob_ h
      refine cv_X8_74 (pc := 20) F dX8_setStock_20 rfl (ct_X3_mostOfAKind (enL E) G 6 rfl V y1 hy1) (by decide) (by decide) (Nat.le_of_ble_eq_true rfl) ?_
      refine go_iloadn (pc := 23) F dX8_setStock_23 1 rfl ?_
      refine go_icmp_le (pc := 24) 30 F dX8_setStock_24 (by decide) h (fun c5 h => ?_) (fun c5 h => ?_)
      · refine go_aloadn (pc := 30) F dX8_setStock_30 0 rfl ?_
        refine gf_X8_26 (pc := 31) F dX8_setStock_31 rfl ?_
        refine go_aloadn (pc := 34) F dX8_setStock_34 0 rfl ?_
        refine gf_X8_10 (pc := 35) F dX8_setStock_35 rfl ?_
        obtain ⟨V2, hV2, h⟩ := ob_ h
        refine cv_X8_80 (pc := 38) F dX8_setStock_38 rfl (ct_X2_record (enL E) G 1 rfl V V2 hV2) (by decide) (by decide) (Nat.le_of_ble_eq_true rfl) ?_
        refine go_aloadn (pc := 41) F dX8_setStock_41 0 rfl ?_
        refine gf_X8_10 (pc := 42) F dX8_setStock_42 rfl ?_
        refine gf_X8_84 (pc := 45) F dX8_setStock_45 rfl ?_
        refine go_topi h (fun y3 h => ?_)
        refine go_istoren (pc := 48) (lv' := [(2, .int y3), (0, .ref (AD G 0)), (1, .int x1)]) F dX8_setStock_48 (by decide) rfl ?_
        refine go_aloadn (pc := 49) F dX8_setStock_49 1 rfl ?_
        refine gf_X8_10 (pc := 50) F dX8_setStock_50 rfl ?_
        refine go_iloadn (pc := 53) F dX8_setStock_53 2 rfl ?_
        refine pf_X8_84 (pc := 54) F dX8_setStock_54 rfl h (fun V4 h => ?_)
        refine go_iloadn (pc := 57) F dX8_setStock_57 0 rfl ?_
        exact go_iretW (pc := 58) F dX8_setStock_58 h
      · refine go_bipush (pc := 27) (-3) F dX8_setStock_27 (by decide) ?_
        exact go_iretW (pc := 29) F dX8_setStock_29 h
    · refine go_bipush (pc := 10) (-2) F dX8_setStock_10 (by decide) ?_
      exact go_iretW (pc := 12) F dX8_setStock_12 h
set_option maxRecDepth 100000 in
set_option maxHeartbeats 4000000 in
theorem ct_X8_setWind (l : Launch) (G : Gm) (V : Wd) (x1 : Int32) (x2 : Int32) (z : Int32 × Wd) (h : f_X8_setWind V x1 x2 = some z) : Ct l G yX8_setWind cX8_setWind 4 (some .int) 5 110 [.ref (AD G 0), .int x1, .int x2] V (some (.int z.1)) z.2 := by
  refine Ct.of (own := RX8) (by decide +kernel) rfl (Nat.le_of_ble_eq_true rfl) (fun E F he => ?_)
  clear he
  refine go_sub (lv' := [(0, .ref (AD G 0)), (1, .int x1), (2, .int x2)]) [0, 1, 2] rfl ?_
  unfold f_X8_setWind at h
  refine go_iloadn (pc := 0) F dX8_setWind_0 1 rfl ?_
  refine go_bipush (pc := 1) 10 F dX8_setWind_1 (by decide) ?_
  refine cv_X8_49 (pc := 3) F dX8_setWind_3 (ct_X8_isBelow (enL E) G V x1 10) (by decide) (by decide) (Nat.le_of_ble_eq_true rfl) ?_
  refine go_if_eq (pc := 6) 17 F dX8_setWind_6 (by decide) h (fun c6 h => ?_) (fun c6 h => ?_)
  · refine go_bipush (pc := 17) (-2) F dX8_setWind_17 (by decide) ?_
    exact go_iretW (pc := 19) F dX8_setWind_19 h
  · refine go_iloadn (pc := 9) F dX8_setWind_9 2 rfl ?_
    refine go_iconst (pc := 10) 2 F dX8_setWind_10 (by decide) ?_
    refine cv_X8_49 (pc := 11) F dX8_setWind_11 (ct_X8_isBelow (enL E) G V x2 2) (by decide) (by decide) (Nat.le_of_ble_eq_true rfl) ?_
    refine go_if_ne (pc := 14) 20 F dX8_setWind_14 (by decide) h (fun c5 h => ?_) (fun c5 h => ?_)
    · refine go_aloadn (pc := 20) F dX8_setWind_20 0 rfl ?_
      obtain ⟨V1, hV1, h⟩ := ob_ h
      refine cv_X8_53 (pc := 21) F dX8_setWind_21 rfl (ct_X8_recordAndBringPennantDown (enL E) G V V1 hV1) (by decide) (by decide) (Nat.le_of_ble_eq_true rfl) ?_
      refine go_aloadn (pc := 24) F dX8_setWind_24 0 rfl ?_
      refine gf_X8_10 (pc := 25) F dX8_setWind_25 rfl ?_
      refine gf_X8_88 (pc := 28) F dX8_setWind_28 rfl ?_
      refine go_topi h (fun y2 h => ?_)
      refine go_istoren (pc := 31) (lv' := [(3, .int y2), (0, .ref (AD G 0)), (1, .int x1), (2, .int x2)]) F dX8_setWind_31 (by decide) rfl ?_
      refine go_aloadn (pc := 32) F dX8_setWind_32 1 rfl ?_
      refine gf_X8_10 (pc := 33) F dX8_setWind_33 rfl ?_
      refine go_iloadn (pc := 36) F dX8_setWind_36 2 rfl ?_
      refine pf_X8_88 (pc := 37) F dX8_setWind_37 rfl h (fun V3 h => ?_)
      refine go_aloadn (pc := 40) F dX8_setWind_40 1 rfl ?_
      refine gf_X8_10 (pc := 41) F dX8_setWind_41 rfl ?_
      refine go_iloadn (pc := 44) F dX8_setWind_44 3 rfl ?_
      refine pf_X8_91 (pc := 45) F dX8_setWind_45 rfl h (fun V4 h => ?_)
      refine go_iloadn (pc := 48) F dX8_setWind_48 0 rfl ?_
      exact go_iretW (pc := 49) F dX8_setWind_49 h
    · refine go_bipush (pc := 17) (-2) F dX8_setWind_17 (by decide) ?_
      exact go_iretW (pc := 19) F dX8_setWind_19 h
set_option maxRecDepth 100000 in
set_option maxHeartbeats 4000000 in
theorem ct_X8_flag (l : Launch) (G : Gm) (V : Wd) (x1 : Int32) (x2 : Int32) (z : Int32) (h : f_X8_flag V x1 x2 = some z) : Ct l G yX8_flag cX8_flag 3 (some .int) 3 68 [.ref (AD G 0), .int x1, .int x2] V (some (.int z)) V := by
  refine Ct.of (own := RX8) (by decide +kernel) rfl (Nat.le_of_ble_eq_true rfl) (fun E F he => ?_)
  clear he
  refine go_sub (lv' := [(0, .ref (AD G 0)), (1, .int x1), (2, .int x2)]) [0, 1, 2] rfl ?_
  unfold f_X8_flag at h
  refine go_iloadn (pc := 0) F dX8_flag_0 1 rfl ?_
  refine go_bipush (pc := 1) 10 F dX8_flag_1 (by decide) ?_
  refine cv_X8_49 (pc := 3) F dX8_flag_3 (ct_X8_isBelow (enL E) G V x1 10) (by decide) (by decide) (Nat.le_of_ble_eq_true rfl) ?_
  refine go_if_ne (pc := 6) 11 F dX8_flag_6 (by decide) h (fun c13 h => ?_) (fun c13 h => ?_)
  · refine go_iloadn (pc := 11) F dX8_flag_11 2 rfl ?_
    refine go_sw h (fun c1 h => ?_) (fun c1 h => ?_)
    · refine go_tabI (pc := 12) 48 F dX8_flag_12 c1 (by decide) (by decide) rfl (by decide) ?_
      refine go_aloadn (pc := 48) F dX8_flag_48 0 rfl ?_
      refine gf_X8_10 (pc := 49) F dX8_flag_49 rfl ?_
      refine gf_X8_56 (pc := 52) F dX8_flag_52 rfl ?_
      refine go_iloadn (pc := 55) F dX8_flag_55 1 rfl ?_
      obtain ⟨y2, hy2, h⟩ := ob_ h
      refine cv_X8_94 (pc := 56) F dX8_flag_56 rfl (ct_X1_atHoist (enL E) G 2 rfl V x1 y2 hy2) (by decide) (by decide) (Nat.le_of_ble_eq_true rfl) ?_
      exact go_iretR (pc := 59) F dX8_flag_59 h
    · refine go_sw h (fun c3 h => ?_) (fun c3 h => ?_)
      · refine go_tabI (pc := 12) 60 F dX8_flag_12 c3 (by decide) (by decide) rfl (by decide) ?_
        refine go_aloadn (pc := 60) F dX8_flag_60 0 rfl ?_
        refine gf_X8_10 (pc := 61) F dX8_flag_61 rfl ?_
        refine gf_X8_56 (pc := 64) F dX8_flag_64 rfl ?_
        refine go_iloadn (pc := 67) F dX8_flag_67 1 rfl ?_
        obtain ⟨y4, hy4, h⟩ := ob_ h
        refine cv_X8_98 (pc := 68) F dX8_flag_68 rfl (ct_X1_atFly (enL E) G 2 rfl V x1 y4 hy4) (by decide) (by decide) (Nat.le_of_ble_eq_true rfl) ?_
        exact go_iretR (pc := 71) F dX8_flag_71 h
      · refine go_sw h (fun c5 h => ?_) (fun c5 h => ?_)
        · refine go_tabI (pc := 12) 72 F dX8_flag_12 c5 (by decide) (by decide) rfl (by decide) ?_
          refine go_aloadn (pc := 72) F dX8_flag_72 0 rfl ?_
          refine gf_X8_10 (pc := 73) F dX8_flag_73 rfl ?_
          refine gf_X8_56 (pc := 76) F dX8_flag_76 rfl ?_
          refine go_iloadn (pc := 79) F dX8_flag_79 1 rfl ?_
          obtain ⟨y6, hy6, h⟩ := ob_ h
          refine cv_X8_101 (pc := 80) F dX8_flag_80 rfl (ct_X1_weightOf (enL E) G 2 rfl V x1 y6 hy6) (by decide) (by decide) (Nat.le_of_ble_eq_true rfl) ?_
          exact go_iretR (pc := 83) F dX8_flag_83 h
        · refine go_sw h (fun c7 h => ?_) (fun c7 h => ?_)
          · refine go_tabI (pc := 12) 84 F dX8_flag_12 c7 (by decide) (by decide) rfl (by decide) ?_
            refine go_aloadn (pc := 84) F dX8_flag_84 0 rfl ?_
            refine gf_X8_10 (pc := 85) F dX8_flag_85 rfl ?_
            refine gf_X8_84 (pc := 88) F dX8_flag_88 rfl ?_
            refine go_aloadn (pc := 91) F dX8_flag_91 0 rfl ?_
            refine gf_X8_10 (pc := 92) F dX8_flag_92 rfl ?_
            refine gf_X8_70 (pc := 95) F dX8_flag_95 rfl ?_
            refine go_iloadn (pc := 98) F dX8_flag_98 1 rfl ?_
            obtain ⟨y8, hy8, h⟩ := ob_ h
            refine cv_X8_104 (pc := 99) F dX8_flag_99 rfl (ct_X3_countOf (enL E) G 6 rfl V x1 y8 hy8) (by decide) (by decide) (Nat.le_of_ble_eq_true rfl) ?_
            refine go_isub (pc := 102) F dX8_flag_102 ?_
            exact go_iretR (pc := 103) F dX8_flag_103 h
          · refine go_sw h (fun c9 h => ?_) (fun c9 h => ?_)
            · refine go_tabI (pc := 12) 104 F dX8_flag_12 c9 (by decide) (by decide) rfl (by decide) ?_
              refine go_aloadn (pc := 104) F dX8_flag_104 0 rfl ?_
              refine gf_X8_10 (pc := 105) F dX8_flag_105 rfl ?_
              refine gf_X8_56 (pc := 108) F dX8_flag_108 rfl ?_
              refine go_aloadn (pc := 111) F dX8_flag_111 0 rfl ?_
              refine gf_X8_10 (pc := 112) F dX8_flag_112 rfl ?_
              refine gf_X8_56 (pc := 115) F dX8_flag_115 rfl ?_
              refine go_iloadn (pc := 118) F dX8_flag_118 1 rfl ?_
              obtain ⟨y10, hy10, h⟩ := ob_ h
              refine cv_X8_98 (pc := 119) F dX8_flag_119 rfl (ct_X1_atFly (enL E) G 2 rfl V x1 y10 hy10) (by decide) (by decide) (Nat.le_of_ble_eq_true rfl) ?_
              refine go_aloadn (pc := 122) F dX8_flag_122 0 rfl ?_
              refine gf_X8_10 (pc := 123) F dX8_flag_123 rfl ?_
              refine gf_X8_56 (pc := 126) F dX8_flag_126 rfl ?_
              refine go_iloadn (pc := 129) F dX8_flag_129 1 rfl ?_
              obtain ⟨y11, hy11, h⟩ := ob_ h
              refine cv_X8_94 (pc := 130) F dX8_flag_130 rfl (ct_X1_atHoist (enL E) G 2 rfl V x1 y11 hy11) (by decide) (by decide) (Nat.le_of_ble_eq_true rfl) ?_
              obtain ⟨y12, hy12, h⟩ := ob_ h
              refine cv_X8_107 (pc := 133) F dX8_flag_133 rfl (ct_X1_firstWith (enL E) G 2 rfl V y10 y11 y12 hy12) (by decide) (by decide) (Nat.le_of_ble_eq_true rfl) ?_
              exact go_iretR (pc := 136) F dX8_flag_136 h
            · refine go_tabO (pc := 12) 137 F dX8_flag_12 (tab_o 5 (by decide) (by decide) (fun j hj => by rcases (show j = 0 ∨ j = 1 ∨ j = 2 ∨ j = 3 ∨ j = 4 by omega) with rfl | rfl | rfl | rfl | rfl <;> first | exact c1 | exact c3 | exact c5 | exact c7 | exact c9)) (by decide) ?_
              refine go_bipush (pc := 137) (-2) F dX8_flag_137 (by decide) ?_
              exact go_iretR (pc := 139) F dX8_flag_139 h
  · refine go_iconst (pc := 9) (-1) F dX8_flag_9 (by decide) ?_
    exact go_iretR (pc := 10) F dX8_flag_10 h
set_option maxRecDepth 100000 in
set_option maxHeartbeats 4000000 in
theorem ct_X8_isSign (l : Launch) (G : Gm) (V : Wd) (x0 : Int32) : Ct l G yX8_isSign cX8_isSign 1 (some .boolean) 1 21 [.int x0] V (some (.int (f_X8_isSign x0))) V := by
  generalize h : f_X8_isSign x0 = z
  refine Ct.of (own := RX8) (by decide +kernel) rfl (Nat.le_of_ble_eq_true rfl) (fun E F he => ?_)
  clear he
  refine go_sub (lv' := [(0, .int x0)]) [0] rfl ?_
  unfold f_X8_isSign at h
  refine go_iloadn (pc := 0) F dX8_isSign_0 0 rfl ?_
  refine go_bipush (pc := 1) 10 F dX8_isSign_1 (by decide) ?_
  refine cv_X8_49 (pc := 3) F dX8_isSign_3 (ct_X8_isBelow (enL E) G V x0 10) (by decide) (by decide) (Nat.le_of_ble_eq_true rfl) ?_
  refine go_if_ne (pc := 6) 21 F dX8_isSign_6 (by decide) h (fun c3 h => ?_) (fun c3 h => ?_)
  · refine go_iconst (pc := 21) 1 F dX8_isSign_21 (by decide) ?_
    refine go_goto (pc := 22) 26 F dX8_isSign_22 (by decide) ?_
    exact go_zretT (pc := 26) F dX8_isSign_26 rfl h
  · refine go_iloadn (pc := 9) F dX8_isSign_9 0 rfl ?_
    refine go_bipush (pc := 10) 10 F dX8_isSign_10 (by decide) ?_
    refine go_icmp_le (pc := 12) 25 F dX8_isSign_12 (by decide) h (fun c2 h => ?_) (fun c2 h => ?_)
    · refine go_iconst (pc := 25) 0 F dX8_isSign_25 (by decide) ?_
      exact go_zretT (pc := 26) F dX8_isSign_26 rfl h
    · refine go_iloadn (pc := 15) F dX8_isSign_15 0 rfl ?_
      refine go_bipush (pc := 16) 13 F dX8_isSign_16 (by decide) ?_
      refine go_icmp_gt (pc := 18) 25 F dX8_isSign_18 (by decide) h (fun c1 h => ?_) (fun c1 h => ?_)
      · refine go_iconst (pc := 25) 0 F dX8_isSign_25 (by decide) ?_
        exact go_zretT (pc := 26) F dX8_isSign_26 rfl h
      · refine go_iconst (pc := 21) 1 F dX8_isSign_21 (by decide) ?_
        refine go_goto (pc := 22) 26 F dX8_isSign_22 (by decide) ?_
        exact go_zretT (pc := 26) F dX8_isSign_26 rfl h
set_option maxRecDepth 100000 in
set_option maxHeartbeats 4000000 in
theorem lb_X8_bend_46 {E : En} {G : Gm} (F : Fx E G (AG G) RX8 cX8_bend 4 (some .int) 5 110 0 0) {x1 : Int32} {x2 : Int32} {z : Int32 × Wd} (V : Wd) (x3 : Int32) (h : f_X8_bend_46 x1 x2 V x3 = some z) : Go E G (AG G) 0 0 (MQq E G (some (.int z.1)) z.2) 4 V 46 [(0, .ref (AD G 0)), (1, .int x1), (2, .int x2), (3, .int x3)] [] := by
  unfold f_X8_bend_46 at h
  refine go_iloadn (pc := 46) F dX8_bend_46 3 rfl ?_
  refine go_iconst (pc := 47) 4 F dX8_bend_47 (by decide) ?_
  refine go_icmp_ge (pc := 48) 72 F dX8_bend_48 (by decide) h (fun c10 h => ?_) (fun c10 h => ?_)
  · refine go_bipush (pc := 72) (-4) F dX8_bend_72 (by decide) ?_
    exact go_iretW (pc := 74) F dX8_bend_74 h
  · refine go_aloadn (pc := 51) F dX8_bend_51 0 rfl ?_
    refine gf_X8_10 (pc := 52) F dX8_bend_52 rfl ?_
    refine gf_X8_70 (pc := 55) F dX8_bend_55 rfl ?_
    refine go_iloadn (pc := 58) F dX8_bend_58 2 rfl ?_
    obtain ⟨y6, hy6, h⟩ := ob_ h
    refine cv_X8_104 (pc := 59) F dX8_bend_59 rfl (ct_X3_countOf (enL E) G 6 rfl V x2 y6 hy6) (by decide) (by decide) (Nat.le_of_ble_eq_true rfl) ?_
    refine go_aloadn (pc := 62) F dX8_bend_62 0 rfl ?_
    refine gf_X8_10 (pc := 63) F dX8_bend_63 rfl ?_
    refine gf_X8_84 (pc := 66) F dX8_bend_66 rfl ?_
    refine go_icmp_lt (pc := 69) 75 F dX8_bend_69 (by decide) h (fun c9 h => ?_) (fun c9 h => ?_)
    · refine go_aloadn (pc := 75) F dX8_bend_75 0 rfl ?_
      obtain ⟨V7, hV7, h⟩ := ob_ h
      refine cv_X8_53 (pc := 76) F dX8_bend_76 rfl (ct_X8_recordAndBringPennantDown (enL E) G V V7 hV7) (by decide) (by decide) (Nat.le_of_ble_eq_true rfl) ?_
      refine go_aloadn (pc := 79) F dX8_bend_79 0 rfl ?_
      refine gf_X8_10 (pc := 80) F dX8_bend_80 rfl ?_
      refine gf_X8_70 (pc := 83) F dX8_bend_83 rfl ?_
      refine go_iloadn (pc := 86) F dX8_bend_86 1 rfl ?_
      refine go_iloadn (pc := 87) F dX8_bend_87 2 rfl ?_
      obtain ⟨V8, hV8, h⟩ := ob_ h
      refine cv_X8_117 (pc := 88) F dX8_bend_88 rfl (ct_X3_add (enL E) G 6 rfl V7 x1 x2 V8 hV8) (by decide) (by decide) (Nat.le_of_ble_eq_true rfl) ?_
      refine go_iloadn (pc := 91) F dX8_bend_91 3 rfl ?_
      refine go_iconst (pc := 92) 1 F dX8_bend_92 (by decide) ?_
      refine go_iadd (pc := 93) F dX8_bend_93 ?_
      exact go_iretW (pc := 94) F dX8_bend_94 h
    · refine go_bipush (pc := 72) (-4) F dX8_bend_72 (by decide) ?_
      exact go_iretW (pc := 74) F dX8_bend_74 h
set_option maxRecDepth 100000 in
set_option maxHeartbeats 4000000 in
theorem ct_X8_bend (l : Launch) (G : Gm) (V : Wd) (x1 : Int32) (x2 : Int32) (z : Int32 × Wd) (h : f_X8_bend V x1 x2 = some z) : Ct l G yX8_bend cX8_bend 4 (some .int) 5 110 [.ref (AD G 0), .int x1, .int x2] V (some (.int z.1)) z.2 := by
  refine Ct.of (own := RX8) (by decide +kernel) rfl (Nat.le_of_ble_eq_true rfl) (fun E F he => ?_)
  clear he
  refine go_sub (lv' := [(0, .ref (AD G 0)), (1, .int x1), (2, .int x2)]) [0, 1, 2] rfl ?_
  unfold f_X8_bend at h
  refine go_iloadn (pc := 0) F dX8_bend_0 1 rfl ?_
  refine go_iconst (pc := 1) 5 F dX8_bend_1 (by decide) ?_
  refine cv_X8_49 (pc := 2) F dX8_bend_2 (ct_X8_isBelow (enL E) G V x1 5) (by decide) (by decide) (Nat.le_of_ble_eq_true rfl) ?_
  refine go_if_eq (pc := 5) 15 F dX8_bend_5 (by decide) h (fun c5 h => ?_) (fun c5 h => ?_)
  · refine go_iconst (pc := 15) (-1) F dX8_bend_15 (by decide) ?_
    exact go_iretW (pc := 16) F dX8_bend_16 h
  · refine go_iloadn (pc := 8) F dX8_bend_8 2 rfl ?_
    refine cv_X8_110 (pc := 9) F dX8_bend_9 (ct_X8_isSign (enL E) G V x2) (by decide) (by decide) (Nat.le_of_ble_eq_true rfl) ?_
    refine go_if_ne (pc := 12) 17 F dX8_bend_12 (by decide) h (fun c4 h => ?_) (fun c4 h => ?_)
    · refine go_aloadn (pc := 17) F dX8_bend_17 0 rfl ?_
      refine gf_X8_10 (pc := 18) F dX8_bend_18 rfl ?_
      refine gf_X8_70 (pc := 21) F dX8_bend_21 rfl ?_
      refine go_iloadn (pc := 24) F dX8_bend_24 1 rfl ?_
      obtain ⟨y1, hy1, h⟩ := ob_ h
      refine cv_X8_114 (pc := 25) F dX8_bend_25 rfl (ct_X3_sizeOf (enL E) G 6 rfl V x1 y1 hy1) (by decide) (by decide) (Nat.le_of_ble_eq_true rfl) ?_
      refine go_istoren (pc := 28) (lv' := [(3, .int y1), (0, .ref (AD G 0)), (1, .int x1), (2, .int x2)]) F dX8_bend_28 (by decide) rfl ?_
      refine go_iloadn (pc := 29) F dX8_bend_29 3 rfl ?_
      refine go_bipush (pc := 30) 10 F dX8_bend_30 (by decide) ?_
      refine go_icmp_le (pc := 32) 46 F dX8_bend_32 (by decide) h (fun c3 h => ?_) (fun c3 h => ?_)
      · exact go_sub [1, 2, 3, 0] rfl (lb_X8_bend_46 F V y1 h)
      · refine go_iloadn (pc := 35) F dX8_bend_35 3 rfl ?_
        refine go_bipush (pc := 36) 10 F dX8_bend_36 (by decide) ?_
        refine go_isub (pc := 38) F dX8_bend_38 ?_
        refine go_iloadn (pc := 39) F dX8_bend_39 0 rfl ?_
        refine go_icmp_le (pc := 40) 46 F dX8_bend_40 (by decide) h (fun c2 h => ?_) (fun c2 h => ?_)
        · exact go_sub [1, 2, 3, 0] rfl (lb_X8_bend_46 F V y1 h)
        · refine go_bipush (pc := 43) (-3) F dX8_bend_43 (by decide) ?_
          exact go_iretW (pc := 45) F dX8_bend_45 h
    · refine go_iconst (pc := 15) (-1) F dX8_bend_15 (by decide) ?_
      exact go_iretW (pc := 16) F dX8_bend_16 h
set_option maxRecDepth 100000 in
set_option maxHeartbeats 4000000 in
theorem ct_X8_unbend (l : Launch) (G : Gm) (V : Wd) (x1 : Int32) (z : Int32 × Wd) (h : f_X8_unbend V x1 = some z) : Ct l G yX8_unbend cX8_unbend 2 (some .int) 5 110 [.ref (AD G 0), .int x1] V (some (.int z.1)) z.2 := by
  refine Ct.of (own := RX8) (by decide +kernel) rfl (Nat.le_of_ble_eq_true rfl) (fun E F he => ?_)
  clear he
  refine go_sub (lv' := [(0, .ref (AD G 0)), (1, .int x1)]) [0, 1] rfl ?_
  unfold f_X8_unbend at h
  refine go_iloadn (pc := 0) F dX8_unbend_0 1 rfl ?_
  refine go_iconst (pc := 1) 5 F dX8_unbend_1 (by decide) ?_
  refine cv_X8_49 (pc := 2) F dX8_unbend_2 (ct_X8_isBelow (enL E) G V x1 5) (by decide) (by decide) (Nat.le_of_ble_eq_true rfl) ?_
  refine go_if_ne (pc := 5) 10 F dX8_unbend_5 (by decide) h (fun c5 h => ?_) (fun c5 h => ?_)
  · refine go_aloadn (pc := 10) F dX8_unbend_10 0 rfl ?_
    refine gf_X8_10 (pc := 11) F dX8_unbend_11 rfl ?_
    refine gf_X8_70 (pc := 14) F dX8_unbend_14 rfl ?_
    refine go_iloadn (pc := 17) F dX8_unbend_17 1 rfl ?_
    obtain ⟨y1, hy1, h⟩ := ob_ h
    refine cv_X8_114 (pc := 18) F dX8_unbend_18 rfl (ct_X3_sizeOf (enL E) G 6 rfl V x1 y1 hy1) (by decide) (by decide) (Nat.le_of_ble_eq_true rfl) ?_
    refine go_if_ne (pc := 21) 27 F dX8_unbend_21 (by decide) h (fun c4 h => ?_) (fun c4 h => ?_)
    · refine go_aloadn (pc := 27) F dX8_unbend_27 0 rfl ?_
      obtain ⟨V2, hV2, h⟩ := ob_ h
      refine cv_X8_53 (pc := 28) F dX8_unbend_28 rfl (ct_X8_recordAndBringPennantDown (enL E) G V V2 hV2) (by decide) (by decide) (Nat.le_of_ble_eq_true rfl) ?_
      refine go_aloadn (pc := 31) F dX8_unbend_31 0 rfl ?_
      refine gf_X8_10 (pc := 32) F dX8_unbend_32 rfl ?_
      refine gf_X8_70 (pc := 35) F dX8_unbend_35 rfl ?_
      refine go_iloadn (pc := 38) F dX8_unbend_38 1 rfl ?_
      obtain ⟨q3, hq3, h⟩ := ob_ h
      refine cv_X8_121 (pc := 39) F dX8_unbend_39 rfl (ct_X3_removeLowest (enL E) G 6 rfl V2 x1 q3 hq3) (by decide) (by decide) (Nat.le_of_ble_eq_true rfl) ?_
      exact go_iretW (pc := 42) F dX8_unbend_42 h
    · refine go_bipush (pc := 24) (-3) F dX8_unbend_24 (by decide) ?_
      exact go_iretW (pc := 26) F dX8_unbend_26 h
  · refine go_iconst (pc := 8) (-1) F dX8_unbend_8 (by decide) ?_
    exact go_iretW (pc := 9) F dX8_unbend_9 h
set_option maxRecDepth 100000 in
set_option maxHeartbeats 4000000 in
theorem ct_X8_exchange (l : Launch) (G : Gm) (V : Wd) (x1 : Int32) (x2 : Int32) (z : Int32 × Wd) (h : f_X8_exchange V x1 x2 = some z) : Ct l G yX8_exchange cX8_exchange 3 (some .int) 5 110 [.ref (AD G 0), .int x1, .int x2] V (some (.int z.1)) z.2 := by
  refine Ct.of (own := RX8) (by decide +kernel) rfl (Nat.le_of_ble_eq_true rfl) (fun E F he => ?_)
  clear he
  refine go_sub (lv' := [(0, .ref (AD G 0)), (1, .int x1), (2, .int x2)]) [0, 1, 2] rfl ?_
  unfold f_X8_exchange at h
  refine go_iloadn (pc := 0) F dX8_exchange_0 1 rfl ?_
  refine go_iconst (pc := 1) 5 F dX8_exchange_1 (by decide) ?_
  refine cv_X8_49 (pc := 2) F dX8_exchange_2 (ct_X8_isBelow (enL E) G V x1 5) (by decide) (by decide) (Nat.le_of_ble_eq_true rfl) ?_
  refine go_if_eq (pc := 5) 16 F dX8_exchange_5 (by decide) h (fun c7 h => ?_) (fun c7 h => ?_)
  · refine go_iconst (pc := 16) (-1) F dX8_exchange_16 (by decide) ?_
    exact go_iretW (pc := 17) F dX8_exchange_17 h
  · refine go_iloadn (pc := 8) F dX8_exchange_8 2 rfl ?_
    refine go_iconst (pc := 9) 5 F dX8_exchange_9 (by decide) ?_
    refine cv_X8_49 (pc := 10) F dX8_exchange_10 (ct_X8_isBelow (enL E) G V x2 5) (by decide) (by decide) (Nat.le_of_ble_eq_true rfl) ?_
    refine go_if_ne (pc := 13) 18 F dX8_exchange_13 (by decide) h (fun c6 h => ?_) (fun c6 h => ?_)
    · refine go_iloadn (pc := 18) F dX8_exchange_18 1 rfl ?_
      refine go_iloadn (pc := 19) F dX8_exchange_19 2 rfl ?_
      refine go_icmp_ne (pc := 20) 26 F dX8_exchange_20 (by decide) h (fun c5 h => ?_) (fun c5 h => ?_)
      · refine go_aloadn (pc := 26) F dX8_exchange_26 0 rfl ?_
        obtain ⟨V1, hV1, h⟩ := ob_ h
        refine cv_X8_53 (pc := 27) F dX8_exchange_27 rfl (ct_X8_recordAndBringPennantDown (enL E) G V V1 hV1) (by decide) (by decide) (Nat.le_of_ble_eq_true rfl) ?_
        refine go_aloadn (pc := 30) F dX8_exchange_30 0 rfl ?_
        refine gf_X8_10 (pc := 31) F dX8_exchange_31 rfl ?_
        refine gf_X8_70 (pc := 34) F dX8_exchange_34 rfl ?_
        refine go_iloadn (pc := 37) F dX8_exchange_37 1 rfl ?_
        refine go_iloadn (pc := 38) F dX8_exchange_38 2 rfl ?_
        obtain ⟨V2, hV2, h⟩ := ob_ h
        refine cv_X8_124 (pc := 39) F dX8_exchange_39 rfl (ct_X3_swap (enL E) G 6 rfl V1 x1 x2 V2 hV2) (by decide) (by decide) (Nat.le_of_ble_eq_true rfl) ?_
        refine go_aloadn (pc := 42) F dX8_exchange_42 0 rfl ?_
        refine gf_X8_10 (pc := 43) F dX8_exchange_43 rfl ?_
        refine gf_X8_70 (pc := 46) F dX8_exchange_46 rfl ?_
        refine go_iloadn (pc := 49) F dX8_exchange_49 1 rfl ?_
        obtain ⟨y3, hy3, h⟩ := ob_ h
        refine cv_X8_114 (pc := 50) F dX8_exchange_50 rfl (ct_X3_sizeOf (enL E) G 6 rfl V2 x1 y3 hy3) (by decide) (by decide) (Nat.le_of_ble_eq_true rfl) ?_
        refine go_aloadn (pc := 53) F dX8_exchange_53 0 rfl ?_
        refine gf_X8_10 (pc := 54) F dX8_exchange_54 rfl ?_
        refine gf_X8_70 (pc := 57) F dX8_exchange_57 rfl ?_
        refine go_iloadn (pc := 60) F dX8_exchange_60 2 rfl ?_
        obtain ⟨y4, hy4, h⟩ := ob_ h
        refine cv_X8_114 (pc := 61) F dX8_exchange_61 rfl (ct_X3_sizeOf (enL E) G 6 rfl V2 x2 y4 hy4) (by decide) (by decide) (Nat.le_of_ble_eq_true rfl) ?_
        refine go_iadd (pc := 64) F dX8_exchange_64 ?_
        exact go_iretW (pc := 65) F dX8_exchange_65 h
      · refine go_bipush (pc := 23) (-2) F dX8_exchange_23 (by decide) ?_
        exact go_iretW (pc := 25) F dX8_exchange_25 h
    · refine go_iconst (pc := 16) (-1) F dX8_exchange_16 (by decide) ?_
      exact go_iretW (pc := 17) F dX8_exchange_17 h
set_option maxRecDepth 100000 in
set_option maxHeartbeats 4000000 in
theorem ct_X8_readingOf (l : Launch) (G : Gm) (V : Wd) (x1 : Int32) : Ct l G yX8_readingOf cX8_readingOf 2 (some (.object "MastFlags$Reading")) 0 0 [.ref (AD G 0), .int x1] V (some (.ref (AD G (f_X8_readingOf V x1)))) V := by
  generalize h : f_X8_readingOf V x1 = z
  refine Ct.of (own := RX8) (by decide +kernel) rfl (Nat.le_of_ble_eq_true rfl) (fun E F he => ?_)
  clear he
  refine go_sub (lv' := [(0, .ref (AD G 0)), (1, .int x1)]) [0, 1] rfl ?_
  unfold f_X8_readingOf at h
  refine go_iloadn (pc := 0) F dX8_readingOf_0 1 rfl ?_
  refine go_if_ne (pc := 1) 11 F dX8_readingOf_1 (by decide) h (fun c1 h => ?_) (fun c1 h => ?_)
  · refine go_aloadn (pc := 11) F dX8_readingOf_11 0 rfl ?_
    refine gf_X8_46 (pc := 12) F dX8_readingOf_12 rfl ?_
    exact go_aretT (pc := 15) F dX8_readingOf_15 h
  · refine go_aloadn (pc := 4) F dX8_readingOf_4 0 rfl ?_
    refine gf_X8_42 (pc := 5) F dX8_readingOf_5 rfl ?_
    refine go_goto (pc := 8) 15 F dX8_readingOf_8 (by decide) ?_
    exact go_aretT (pc := 15) F dX8_readingOf_15 h
set_option maxRecDepth 100000 in
set_option maxHeartbeats 4000000 in
theorem ct_X8_read (l : Launch) (G : Gm) (V : Wd) (x1 : Int32) (z : Nat × Wd) (h : f_X8_read V x1 = some z) : Ct l G yX8_read cX8_read 3 (some (.object "MastFlags$Reading")) 5 120 [.ref (AD G 0), .int x1] V (some (.ref (AD G z.1))) z.2 := by
  refine Ct.of (own := RX8) (by decide +kernel) rfl (Nat.le_of_ble_eq_true rfl) (fun E F he => ?_)
  clear he
  refine go_sub (lv' := [(0, .ref (AD G 0)), (1, .int x1)]) [0, 1] rfl ?_
  unfold f_X8_read at h
  refine go_aloadn (pc := 0) F dX8_read_0 0 rfl ?_
  refine go_iloadn (pc := 1) F dX8_read_1 1 rfl ?_
  refine cv_X8_217 (pc := 2) F dX8_read_2 rfl (ct_X8_readingOf (enL E) G V x1) (by decide) (by decide) (Nat.le_of_ble_eq_true rfl) ?_
  refine go_topr h (fun r2 h => ?_)
  refine go_gd h (fun hr1 h => ?_)
  refine go_astoren (pc := 5) (lv' := [(2, .ref (AD G r2)), (0, .ref (AD G 0)), (1, .int x1)]) F dX8_read_5 (by decide) rfl ?_
  refine go_aloadn (pc := 6) F dX8_read_6 0 rfl ?_
  refine go_aloadn (pc := 7) F dX8_read_7 1 rfl ?_
  refine gf_X8_10 (pc := 8) F dX8_read_8 rfl ?_
  refine go_aloadn (pc := 11) F dX8_read_11 1 rfl ?_
  refine gf_X8_10 (pc := 12) F dX8_read_12 rfl ?_
  refine gf_X8_88 (pc := 15) F dX8_read_15 rfl ?_
  refine go_aloadn (pc := 18) F dX8_read_18 1 rfl ?_
  refine gf_X8_10 (pc := 19) F dX8_read_19 rfl ?_
  refine gf_X8_91 (pc := 22) F dX8_read_22 rfl ?_
  obtain ⟨V3, hV3, h⟩ := ob_ h
  refine cv_X8_220 (pc := 25) F dX8_read_25 hr1 (ct_X5_look (enL E) G r2 1 hr1 rfl V (V 1 5) (V 1 6) V3 hV3) (by decide) (by decide) (Nat.le_of_ble_eq_true rfl) ?_
  refine go_aloadn (pc := 28) F dX8_read_28 0 rfl ?_
  exact go_aretW (pc := 29) F dX8_read_29 h
set_option maxRecDepth 100000 in
set_option maxHeartbeats 4000000 in
theorem lb_X8_lower_16 {E : En} {G : Gm} (F : Fx E G (AG G) RX8 cX8_lower 4 (some .int) 6 142 0 0) {z : Int32 × Wd} (V : Wd) (s0 : Int32) (h : f_X8_lower_16 V s0 = some z) : Go E G (AG G) 0 0 (MQq E G (some (.int z.1)) z.2) 4 V 16 [(0, .ref (AD G 0))] [.int s0] := by
  unfold f_X8_lower_16 at h
  refine go_istoren (pc := 16) (lv' := [(1, .int s0), (0, .ref (AD G 0))]) F dX8_lower_16 (by decide) rfl ?_
  refine go_aloadn (pc := 17) F dX8_lower_17 1 rfl ?_
  obtain ⟨V2, hV2, h⟩ := ob_ h
  refine cv_X8_53 (pc := 18) F dX8_lower_18 rfl (ct_X8_recordAndBringPennantDown (enL E) G V V2 hV2) (by decide) (by decide) (Nat.le_of_ble_eq_true rfl) ?_
  refine go_iconst (pc := 21) 0 F dX8_lower_21 (by decide) ?_
  refine go_istoren (pc := 22) (lv' := [(2, .int 0), (1, .int s0), (0, .ref (AD G 0))]) F dX8_lower_22 (by decide) rfl ?_
  refine go_iloadn (pc := 23) F dX8_lower_23 1 rfl ?_
  refine go_if_eq (pc := 24) 59 F dX8_lower_24 (by decide) h (fun c9 h => ?_) (fun c9 h => ?_)
  · refine go_aloadn (pc := 59) F dX8_lower_59 2 rfl ?_
    refine gf_X8_10 (pc := 60) F dX8_lower_60 rfl ?_
    refine gf_X8_70 (pc := 63) F dX8_lower_63 rfl ?_
    obtain ⟨V3, hV3, h⟩ := ob_ h
    refine cv_X8_153 (pc := 66) F dX8_lower_66 rfl (ct_X3_clear (enL E) G 6 rfl V2 V3 hV3) (by decide) (by decide) (Nat.le_of_ble_eq_true rfl) ?_
    refine go_iloadn (pc := 69) F dX8_lower_69 0 rfl ?_
    exact go_iretW (pc := 70) F dX8_lower_70 h
  · refine go_aloadn (pc := 27) F dX8_lower_27 2 rfl ?_
    refine go_aloadn (pc := 28) F dX8_lower_28 2 rfl ?_
    refine gf_X8_10 (pc := 29) F dX8_lower_29 rfl ?_
    refine gf_X8_130 (pc := 32) F dX8_lower_32 rfl ?_
    obtain ⟨q4, hq4, h⟩ := ob_ h
    refine cv_X8_133 (pc := 35) F dX8_lower_35 rfl (ct_X8_read (enL E) G V2 (V2 1 7) q4 hq4) (by decide) (by decide) (Nat.le_of_ble_eq_true rfl) ?_
    refine go_gd h (fun hr5 h => ?_)
    refine go_astoren (pc := 38) (lv' := [(3, .ref (AD G q4.1)), (2, .int 0), (1, .int s0), (0, .ref (AD G 0))]) F dX8_lower_38 (by decide) rfl ?_
    refine go_aloadn (pc := 39) F dX8_lower_39 0 rfl ?_
    refine cv_X8_137 (pc := 40) F dX8_lower_40 hr5 (ct_X5_size (enL E) G q4.1 hr5 q4.2) (by decide) (by decide) (Nat.le_of_ble_eq_true rfl) ?_
    refine go_topi h (fun y6 h => ?_)
    refine go_istoren (pc := 43) (lv' := [(2, .int y6), (3, .ref (AD G q4.1)), (1, .int s0), (0, .ref (AD G 0))]) F dX8_lower_43 (by decide) rfl ?_
    refine go_aloadn (pc := 44) F dX8_lower_44 3 rfl ?_
    refine gf_X8_10 (pc := 45) F dX8_lower_45 rfl ?_
    refine gf_X8_140 (pc := 48) F dX8_lower_48 rfl ?_
    refine go_aloadn (pc := 51) F dX8_lower_51 1 rfl ?_
    refine gf_X8_144 (pc := 52) F dX8_lower_52 hr5 ?_
    refine go_iloadn (pc := 55) F dX8_lower_55 0 rfl ?_
    obtain ⟨V7, hV7, h⟩ := ob_ h
    refine cv_X8_148 (pc := 56) F dX8_lower_56 rfl (ct_X4_add (enL E) G 12 (q4.1 + 2) rfl (kf_8_2 hr5) q4.2 y6 V7 hV7) (by decide) (by decide) (Nat.le_of_ble_eq_true rfl) ?_
    refine go_aloadn (pc := 59) F dX8_lower_59 3 rfl ?_
    refine gf_X8_10 (pc := 60) F dX8_lower_60 rfl ?_
    refine gf_X8_70 (pc := 63) F dX8_lower_63 rfl ?_
    obtain ⟨V8, hV8, h⟩ := ob_ h
    refine cv_X8_153 (pc := 66) F dX8_lower_66 rfl (ct_X3_clear (enL E) G 6 rfl V7 V8 hV8) (by decide) (by decide) (Nat.le_of_ble_eq_true rfl) ?_
    refine go_iloadn (pc := 69) F dX8_lower_69 0 rfl ?_
    exact go_iretW (pc := 70) F dX8_lower_70 h
set_option maxRecDepth 100000 in
set_option maxHeartbeats 4000000 in
theorem ct_X8_lower (l : Launch) (G : Gm) (V : Wd) (z : Int32 × Wd) (h : f_X8_lower V = some z) : Ct l G yX8_lower cX8_lower 4 (some .int) 6 142 [.ref (AD G 0)] V (some (.int z.1)) z.2 := by
  refine Ct.of (own := RX8) (by decide +kernel) rfl (Nat.le_of_ble_eq_true rfl) (fun E F he => ?_)
  clear he
  refine go_sub (lv' := [(0, .ref (AD G 0))]) [0] rfl ?_
  unfold f_X8_lower at h
  refine go_aloadn (pc := 0) F dX8_lower_0 0 rfl ?_
  refine gf_X8_10 (pc := 1) F dX8_lower_1 rfl ?_
  refine gf_X8_127 (pc := 4) F dX8_lower_4 rfl ?_
  refine go_iconst (pc := 7) 2 F dX8_lower_7 (by decide) ?_
  refine go_icmp_ne (pc := 8) 15 F dX8_lower_8 (by decide) h (fun c1 h => ?_) (fun c1 h => ?_)
  · refine go_iconst (pc := 15) 0 F dX8_lower_15 (by decide) ?_
    exact go_sub [0] rfl (lb_X8_lower_16 F V 0 h)
  · refine go_iconst (pc := 11) 1 F dX8_lower_11 (by decide) ?_
    refine go_goto (pc := 12) 16 F dX8_lower_12 (by decide) ?_
    exact go_sub [0] rfl (lb_X8_lower_16 F V 1 h)
set_option maxRecDepth 100000 in
set_option maxHeartbeats 4000000 in
theorem ct_X8_sign (l : Launch) (G : Gm) (V : Wd) (x1 : Int32) (x2 : Int32) (x3 : Int32) (z : Int32) (h : f_X8_sign V x1 x2 x3 = some z) : Ct l G yX8_sign cX8_sign 4 (some .int) 3 68 [.ref (AD G 0), .int x1, .int x2, .int x3] V (some (.int z)) V := by
  refine Ct.of (own := RX8) (by decide +kernel) rfl (Nat.le_of_ble_eq_true rfl) (fun E F he => ?_)
  clear he
  refine go_sub (lv' := [(0, .ref (AD G 0)), (1, .int x1), (2, .int x2), (3, .int x3)]) [0, 1, 2, 3] rfl ?_
  unfold f_X8_sign at h
  refine go_aloadn (pc := 0) F dX8_sign_0 0 rfl ?_
  refine gf_X8_10 (pc := 1) F dX8_sign_1 rfl ?_
  refine gf_X8_70 (pc := 4) F dX8_sign_4 rfl ?_
  refine go_iloadn (pc := 7) F dX8_sign_7 1 rfl ?_
  refine go_iloadn (pc := 8) F dX8_sign_8 2 rfl ?_
  obtain ⟨y1, hy1, h⟩ := ob_ h
  refine cv_X8_156 (pc := 9) F dX8_sign_9 rfl (ct_X3_has (enL E) G 6 rfl V x1 x2 y1 hy1) (by decide) (by decide) (Nat.le_of_ble_eq_true rfl) ?_
  refine go_if_ne (pc := 12) 17 F dX8_sign_12 (by decide) h (fun c10 h => ?_) (fun c10 h => ?_)
  · refine go_iloadn (pc := 17) F dX8_sign_17 3 rfl ?_
    refine go_sw h (fun c2 h => ?_) (fun c2 h => ?_)
    · refine go_tabI (pc := 18) 44 F dX8_sign_18 c2 (by decide) (by decide) rfl (by decide) ?_
      refine go_aloadn (pc := 44) F dX8_sign_44 0 rfl ?_
      refine gf_X8_10 (pc := 45) F dX8_sign_45 rfl ?_
      refine gf_X8_70 (pc := 48) F dX8_sign_48 rfl ?_
      refine go_iloadn (pc := 51) F dX8_sign_51 1 rfl ?_
      refine go_iloadn (pc := 52) F dX8_sign_52 2 rfl ?_
      obtain ⟨y3, hy3, h⟩ := ob_ h
      refine cv_X8_159 (pc := 53) F dX8_sign_53 rfl (ct_X3_signAt (enL E) G 6 rfl V x1 x2 y3 hy3) (by decide) (by decide) (Nat.le_of_ble_eq_true rfl) ?_
      exact go_iretR (pc := 56) F dX8_sign_56 h
    · refine go_sw h (fun c4 h => ?_) (fun c4 h => ?_)
      · refine go_tabI (pc := 18) 57 F dX8_sign_18 c4 (by decide) (by decide) rfl (by decide) ?_
        refine go_aloadn (pc := 57) F dX8_sign_57 0 rfl ?_
        refine gf_X8_10 (pc := 58) F dX8_sign_58 rfl ?_
        refine gf_X8_70 (pc := 61) F dX8_sign_61 rfl ?_
        refine go_iloadn (pc := 64) F dX8_sign_64 1 rfl ?_
        refine go_iloadn (pc := 65) F dX8_sign_65 2 rfl ?_
        obtain ⟨y5, hy5, h⟩ := ob_ h
        refine cv_X8_162 (pc := 66) F dX8_sign_66 rfl (ct_X3_flagAt (enL E) G 6 rfl V x1 x2 y5 hy5) (by decide) (by decide) (Nat.le_of_ble_eq_true rfl) ?_
        exact go_iretR (pc := 69) F dX8_sign_69 h
      · refine go_sw h (fun c6 h => ?_) (fun c6 h => ?_)
        · refine go_tabI (pc := 18) 70 F dX8_sign_18 c6 (by decide) (by decide) rfl (by decide) ?_
          refine go_aloadn (pc := 70) F dX8_sign_70 0 rfl ?_
          refine gf_X8_10 (pc := 71) F dX8_sign_71 rfl ?_
          refine gf_X8_56 (pc := 74) F dX8_sign_74 rfl ?_
          refine go_aloadn (pc := 77) F dX8_sign_77 0 rfl ?_
          refine gf_X8_10 (pc := 78) F dX8_sign_78 rfl ?_
          refine gf_X8_70 (pc := 81) F dX8_sign_81 rfl ?_
          refine go_iloadn (pc := 84) F dX8_sign_84 1 rfl ?_
          refine go_iloadn (pc := 85) F dX8_sign_85 2 rfl ?_
          obtain ⟨y7, hy7, h⟩ := ob_ h
          refine cv_X8_162 (pc := 86) F dX8_sign_86 rfl (ct_X3_flagAt (enL E) G 6 rfl V x1 x2 y7 hy7) (by decide) (by decide) (Nat.le_of_ble_eq_true rfl) ?_
          obtain ⟨y8, hy8, h⟩ := ob_ h
          refine cv_X8_101 (pc := 89) F dX8_sign_89 rfl (ct_X1_weightOf (enL E) G 2 rfl V y7 y8 hy8) (by decide) (by decide) (Nat.le_of_ble_eq_true rfl) ?_
          refine go_aloadn (pc := 92) F dX8_sign_92 0 rfl ?_
          refine gf_X8_10 (pc := 93) F dX8_sign_93 rfl ?_
          refine gf_X8_88 (pc := 96) F dX8_sign_96 rfl ?_
          refine go_icmp_le (pc := 99) 106 F dX8_sign_99 (by decide) h (fun c9 h => ?_) (fun c9 h => ?_)
          · refine go_iconst (pc := 106) 0 F dX8_sign_106 (by decide) ?_
            exact go_iretR (pc := 107) F dX8_sign_107 h
          · refine go_iconst (pc := 102) 1 F dX8_sign_102 (by decide) ?_
            refine go_goto (pc := 103) 107 F dX8_sign_103 (by decide) ?_
            exact go_iretR (pc := 107) F dX8_sign_107 h
        · refine go_tabO (pc := 18) 108 F dX8_sign_18 (tab_o 3 (by decide) (by decide) (fun j hj => by rcases (show j = 0 ∨ j = 1 ∨ j = 2 by omega) with rfl | rfl | rfl <;> first | exact c2 | exact c4 | exact c6)) (by decide) ?_
          refine go_bipush (pc := 108) (-2) F dX8_sign_108 (by decide) ?_
          exact go_iretR (pc := 110) F dX8_sign_110 h
  · refine go_iconst (pc := 15) (-1) F dX8_sign_15 (by decide) ?_
    exact go_iretR (pc := 16) F dX8_sign_16 h
set_option maxRecDepth 100000 in
set_option maxHeartbeats 4000000 in
theorem lb_X8_isFlagsNumber_5 {E : En} {G : Gm} (F : Fx E G (AG G) RX8 cX8_isFlagsNumber 3 (some .boolean) 0 0 0 0) {V : Wd} {x0 : Int32} {z : Int32} : ∀ (n : Nat) (x1 : Int32) (x2 : Int32), f_X8_isFlagsNumber_5 x0 n x1 x2 = some z → Go E G (AG G) 0 0 (MQq E G (some (.int z)) V) 3 V 5 [(0, .int x0), (1, .int x1), (2, .int x2)] [] := by
  intro n
  induction n with
  | zero => intro x1 x2 h; cases h
  | succ n ih =>
    intro x1 x2 h
    rw [f_X8_isFlagsNumber_5] at h
    refine go_iloadn (pc := 5) F dX8_isFlagsNumber_5 2 rfl ?_
    refine go_iconst (pc := 6) 4 F dX8_isFlagsNumber_6 (by decide) ?_
    refine go_icmp_gt (pc := 7) 35 F dX8_isFlagsNumber_7 (by decide) h (fun c5 h => ?_) (fun c5 h => ?_)
    · refine go_iconst (pc := 35) 0 F dX8_isFlagsNumber_35 (by decide) ?_
      exact go_zretR (pc := 36) F dX8_isFlagsNumber_36 rfl h
    · refine go_iloadn (pc := 10) F dX8_isFlagsNumber_10 0 rfl ?_
      refine go_iloadn (pc := 11) F dX8_isFlagsNumber_11 1 rfl ?_
      refine go_icmp_lt (pc := 12) 24 F dX8_isFlagsNumber_12 (by decide) h (fun c4 h => ?_) (fun c4 h => ?_)
      · refine go_iloadn (pc := 24) F dX8_isFlagsNumber_24 1 rfl ?_
        refine go_bipush (pc := 25) 10 F dX8_isFlagsNumber_25 (by decide) ?_
        refine go_imul (pc := 27) F dX8_isFlagsNumber_27 ?_
        refine go_topi h (fun y1 h => ?_)
        refine go_istoren (pc := 28) (lv' := [(1, .int y1), (0, .int x0), (2, .int x2)]) F dX8_isFlagsNumber_28 (by decide) rfl ?_
        refine go_iinc (pc := 29) (x2 + 1) (lv' := [(2, .int (x2 + 1)), (1, .int y1), (0, .int x0)]) F dX8_isFlagsNumber_29 (k := 2) rfl rfl (by decide) rfl ?_
        refine go_goto (pc := 32) 5 F dX8_isFlagsNumber_32 (by decide) ?_
        exact go_sub [2, 1, 0] rfl (ih y1 (x2 + 1) h)
      · refine go_iloadn (pc := 15) F dX8_isFlagsNumber_15 0 rfl ?_
        refine go_iconst (pc := 16) 2 F dX8_isFlagsNumber_16 (by decide) ?_
        refine go_iloadn (pc := 17) F dX8_isFlagsNumber_17 1 rfl ?_
        refine go_imul (pc := 18) F dX8_isFlagsNumber_18 ?_
        refine go_icmp_ge (pc := 19) 24 F dX8_isFlagsNumber_19 (by decide) h (fun c3 h => ?_) (fun c3 h => ?_)
        · refine go_iloadn (pc := 24) F dX8_isFlagsNumber_24 1 rfl ?_
          refine go_bipush (pc := 25) 10 F dX8_isFlagsNumber_25 (by decide) ?_
          refine go_imul (pc := 27) F dX8_isFlagsNumber_27 ?_
          refine go_topi h (fun y2 h => ?_)
          refine go_istoren (pc := 28) (lv' := [(1, .int y2), (0, .int x0), (2, .int x2)]) F dX8_isFlagsNumber_28 (by decide) rfl ?_
          refine go_iinc (pc := 29) (x2 + 1) (lv' := [(2, .int (x2 + 1)), (1, .int y2), (0, .int x0)]) F dX8_isFlagsNumber_29 (k := 2) rfl rfl (by decide) rfl ?_
          refine go_goto (pc := 32) 5 F dX8_isFlagsNumber_32 (by decide) ?_
          exact go_sub [2, 1, 0] rfl (ih y2 (x2 + 1) h)
        · refine go_iconst (pc := 22) 1 F dX8_isFlagsNumber_22 (by decide) ?_
          exact go_zretR (pc := 23) F dX8_isFlagsNumber_23 rfl h
set_option maxRecDepth 100000 in
set_option maxHeartbeats 4000000 in
theorem ct_X8_isFlagsNumber (l : Launch) (G : Gm) (V : Wd) (x0 : Int32) (z : Int32) (h : f_X8_isFlagsNumber x0 = some z) : Ct l G yX8_isFlagsNumber cX8_isFlagsNumber 3 (some .boolean) 0 0 [.int x0] V (some (.int z)) V := by
  refine Ct.of (own := RX8) (by decide +kernel) rfl (Nat.le_of_ble_eq_true rfl) (fun E F he => ?_)
  clear he
  refine go_sub (lv' := [(0, .int x0)]) [0] rfl ?_
  unfold f_X8_isFlagsNumber at h
  refine go_bipush (pc := 0) 10 F dX8_isFlagsNumber_0 (by decide) ?_
  refine go_istoren (pc := 2) (lv' := [(1, .int 10), (0, .int x0)]) F dX8_isFlagsNumber_2 (by decide) rfl ?_
  refine go_iconst (pc := 3) 1 F dX8_isFlagsNumber_3 (by decide) ?_
  refine go_istoren (pc := 4) (lv' := [(2, .int 1), (1, .int 10), (0, .int x0)]) F dX8_isFlagsNumber_4 (by decide) rfl ?_
  exact go_sub [2, 1, 0] rfl (lb_X8_isFlagsNumber_5 F FU_ 10 1 h)
set_option maxRecDepth 100000 in
set_option maxHeartbeats 4000000 in
theorem ct_X8_enter (l : Launch) (G : Gm) (V : Wd) (x1 : Int32) (x2 : Int32) (z : Int32 × Wd) (h : f_X8_enter V x1 x2 = some z) : Ct l G yX8_enter cX8_enter 3 (some .int) 5 110 [.ref (AD G 0), .int x1, .int x2] V (some (.int z.1)) z.2 := by
  refine Ct.of (own := RX8) (by decide +kernel) rfl (Nat.le_of_ble_eq_true rfl) (fun E F he => ?_)
  clear he
  refine go_sub (lv' := [(0, .ref (AD G 0)), (1, .int x1), (2, .int x2)]) [0, 1, 2] rfl ?_
  unfold f_X8_enter at h
  refine go_iloadn (pc := 0) F dX8_enter_0 1 rfl ?_
  obtain ⟨y1, hy1, h⟩ := ob_ h
  refine cv_X8_165 (pc := 1) F dX8_enter_1 (ct_X8_isFlagsNumber (enL E) G V x1 y1 hy1) (by decide) (by decide) (Nat.le_of_ble_eq_true rfl) ?_
  refine go_if_eq (pc := 4) 16 F dX8_enter_4 (by decide) h (fun c6 h => ?_) (fun c6 h => ?_)
  · refine go_bipush (pc := 16) (-2) F dX8_enter_16 (by decide) ?_
    exact go_iretW (pc := 18) F dX8_enter_18 h
  · refine go_iloadn (pc := 7) F dX8_enter_7 2 rfl ?_
    refine go_bipush (pc := 8) 100 F dX8_enter_8 (by decide) ?_
    refine cv_X8_49 (pc := 10) F dX8_enter_10 (ct_X8_isBelow (enL E) G V x2 100) (by decide) (by decide) (Nat.le_of_ble_eq_true rfl) ?_
    refine go_if_ne (pc := 13) 19 F dX8_enter_13 (by decide) h (fun c5 h => ?_) (fun c5 h => ?_)
    · refine go_aloadn (pc := 19) F dX8_enter_19 0 rfl ?_
      refine gf_X8_10 (pc := 20) F dX8_enter_20 rfl ?_
      refine gf_X8_168 (pc := 23) F dX8_enter_23 rfl ?_
      refine cv_X8_172 (pc := 26) F dX8_enter_26 rfl (ct_X0_size (enL E) G 9 rfl V) (by decide) (by decide) (Nat.le_of_ble_eq_true rfl) ?_
      refine go_bipush (pc := 29) 12 F dX8_enter_29 (by decide) ?_
      refine go_icmp_lt (pc := 31) 37 F dX8_enter_31 (by decide) h (fun c4 h => ?_) (fun c4 h => ?_)
      · refine go_aloadn (pc := 37) F dX8_enter_37 0 rfl ?_
        obtain ⟨V2, hV2, h⟩ := ob_ h
        refine cv_X8_53 (pc := 38) F dX8_enter_38 rfl (ct_X8_recordAndBringPennantDown (enL E) G V V2 hV2) (by decide) (by decide) (Nat.le_of_ble_eq_true rfl) ?_
        refine go_aloadn (pc := 41) F dX8_enter_41 0 rfl ?_
        refine gf_X8_10 (pc := 42) F dX8_enter_42 rfl ?_
        refine gf_X8_168 (pc := 45) F dX8_enter_45 rfl ?_
        refine go_iloadn (pc := 48) F dX8_enter_48 1 rfl ?_
        refine go_iloadn (pc := 49) F dX8_enter_49 2 rfl ?_
        obtain ⟨V3, hV3, h⟩ := ob_ h
        refine cv_X8_175 (pc := 50) F dX8_enter_50 rfl (ct_X0_add (enL E) G 9 rfl V2 x1 x2 V3 hV3) (by decide) (by decide) (Nat.le_of_ble_eq_true rfl) ?_
        refine go_aloadn (pc := 53) F dX8_enter_53 0 rfl ?_
        refine gf_X8_10 (pc := 54) F dX8_enter_54 rfl ?_
        refine gf_X8_168 (pc := 57) F dX8_enter_57 rfl ?_
        refine cv_X8_172 (pc := 60) F dX8_enter_60 rfl (ct_X0_size (enL E) G 9 rfl V3) (by decide) (by decide) (Nat.le_of_ble_eq_true rfl) ?_
        exact go_iretW (pc := 63) F dX8_enter_63 h
      · refine go_bipush (pc := 34) (-4) F dX8_enter_34 (by decide) ?_
        exact go_iretW (pc := 36) F dX8_enter_36 h
    · refine go_bipush (pc := 16) (-2) F dX8_enter_16 (by decide) ?_
      exact go_iretW (pc := 18) F dX8_enter_18 h

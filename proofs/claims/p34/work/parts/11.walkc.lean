set_option maxRecDepth 100000 in
set_option maxHeartbeats 4000000 in
theorem ct_X8_strike (l : Launch) (G : Gm) (V : Wd) (x1 : Int32) (z : Int32 × Wd) (h : f_X8_strike V x1 = some z) : Ct l G yX8_strike cX8_strike 2 (some .int) 5 110 [.ref (AD G 0), .int x1] V (some (.int z.1)) z.2 := by
  refine Ct.of (own := RX8) (by decide +kernel) rfl (Nat.le_of_ble_eq_true rfl) (fun E F he => ?_)
  clear he
  refine go_sub (lv' := [(0, .ref (AD G 0)), (1, .int x1)]) [0, 1] rfl ?_
  unfold f_X8_strike at h
  refine go_iloadn (pc := 0) F dX8_strike_0 1 rfl ?_
  refine go_aloadn (pc := 1) F dX8_strike_1 0 rfl ?_
  refine gf_X8_10 (pc := 2) F dX8_strike_2 rfl ?_
  refine gf_X8_168 (pc := 5) F dX8_strike_5 rfl ?_
  refine cv_X8_172 (pc := 8) F dX8_strike_8 rfl (ct_X0_size (enL E) G 9 rfl V) (by decide) (by decide) (Nat.le_of_ble_eq_true rfl) ?_
  refine cv_X8_49 (pc := 11) F dX8_strike_11 (ct_X8_isBelow (enL E) G V x1 (f_X0_size 9 V)) (by decide) (by decide) (Nat.le_of_ble_eq_true rfl) ?_
  refine go_if_ne (pc := 14) 19 F dX8_strike_14 (by decide) h (fun c3 h => ?_) (fun c3 h => ?_)
  · refine go_aloadn (pc := 19) F dX8_strike_19 0 rfl ?_
    obtain ⟨V1, hV1, h⟩ := ob_ h
    refine cv_X8_53 (pc := 20) F dX8_strike_20 rfl (ct_X8_recordAndBringPennantDown (enL E) G V V1 hV1) (by decide) (by decide) (Nat.le_of_ble_eq_true rfl) ?_
    refine go_aloadn (pc := 23) F dX8_strike_23 0 rfl ?_
    refine gf_X8_10 (pc := 24) F dX8_strike_24 rfl ?_
    refine gf_X8_168 (pc := 27) F dX8_strike_27 rfl ?_
    refine go_iloadn (pc := 30) F dX8_strike_30 1 rfl ?_
    obtain ⟨q2, hq2, h⟩ := ob_ h
    refine cv_X8_176 (pc := 31) F dX8_strike_31 rfl (ct_X0_remove (enL E) G 9 rfl V1 x1 q2 hq2) (by decide) (by decide) (Nat.le_of_ble_eq_true rfl) ?_
    exact go_iretW (pc := 34) F dX8_strike_34 h
  · refine go_iconst (pc := 17) (-1) F dX8_strike_17 (by decide) ?_
    exact go_iretW (pc := 18) F dX8_strike_18 h
set_option maxRecDepth 100000 in
set_option maxHeartbeats 4000000 in
theorem ct_X8_entry (l : Launch) (G : Gm) (V : Wd) (x1 : Int32) (x2 : Int32) (z : Int32) (h : f_X8_entry V x1 x2 = some z) : Ct l G yX8_entry cX8_entry 3 (some .int) 2 42 [.ref (AD G 0), .int x1, .int x2] V (some (.int z)) V := by
  refine Ct.of (own := RX8) (by decide +kernel) rfl (Nat.le_of_ble_eq_true rfl) (fun E F he => ?_)
  clear he
  refine go_sub (lv' := [(0, .ref (AD G 0)), (1, .int x1), (2, .int x2)]) [0, 1, 2] rfl ?_
  unfold f_X8_entry at h
  refine go_iloadn (pc := 0) F dX8_entry_0 1 rfl ?_
  refine go_aloadn (pc := 1) F dX8_entry_1 0 rfl ?_
  refine gf_X8_10 (pc := 2) F dX8_entry_2 rfl ?_
  refine gf_X8_168 (pc := 5) F dX8_entry_5 rfl ?_
  refine cv_X8_172 (pc := 8) F dX8_entry_8 rfl (ct_X0_size (enL E) G 9 rfl V) (by decide) (by decide) (Nat.le_of_ble_eq_true rfl) ?_
  refine cv_X8_49 (pc := 11) F dX8_entry_11 (ct_X8_isBelow (enL E) G V x1 (f_X0_size 9 V)) (by decide) (by decide) (Nat.le_of_ble_eq_true rfl) ?_
  refine go_if_ne (pc := 14) 19 F dX8_entry_14 (by decide) h (fun c5 h => ?_) (fun c5 h => ?_)
  · refine go_iloadn (pc := 19) F dX8_entry_19 2 rfl ?_
    refine go_sw h (fun c3 h => ?_) (fun c3 h => ?_)
    · refine go_lkp (pc := 20) 48 F dX8_entry_20 rfl (lk_0 c3) (by decide) ?_
      refine go_aloadn (pc := 48) F dX8_entry_48 0 rfl ?_
      refine gf_X8_10 (pc := 49) F dX8_entry_49 rfl ?_
      refine gf_X8_168 (pc := 52) F dX8_entry_52 rfl ?_
      refine go_iloadn (pc := 55) F dX8_entry_55 1 rfl ?_
      obtain ⟨y1, hy1, h⟩ := ob_ h
      refine cv_X8_179 (pc := 56) F dX8_entry_56 rfl (ct_X0_flagsAt (enL E) G 9 rfl V x1 y1 hy1) (by decide) (by decide) (Nat.le_of_ble_eq_true rfl) ?_
      exact go_iretR (pc := 59) F dX8_entry_59 h
    · refine go_sw h (fun c4 h => ?_) (fun c4 h => ?_)
      · refine go_lkp (pc := 20) 60 F dX8_entry_20 rfl (lk_1 c4) (by decide) ?_
        refine go_aloadn (pc := 60) F dX8_entry_60 0 rfl ?_
        refine gf_X8_10 (pc := 61) F dX8_entry_61 rfl ?_
        refine gf_X8_168 (pc := 64) F dX8_entry_64 rfl ?_
        refine go_iloadn (pc := 67) F dX8_entry_67 1 rfl ?_
        obtain ⟨y2, hy2, h⟩ := ob_ h
        refine cv_X8_182 (pc := 68) F dX8_entry_68 rfl (ct_X0_wordAt (enL E) G 9 rfl V x1 y2 hy2) (by decide) (by decide) (Nat.le_of_ble_eq_true rfl) ?_
        exact go_iretR (pc := 71) F dX8_entry_71 h
      · refine go_lkp (pc := 20) 72 F dX8_entry_20 rfl (lk_d c3 c4) (by decide) ?_
        refine go_bipush (pc := 72) (-2) F dX8_entry_72 (by decide) ?_
        exact go_iretR (pc := 74) F dX8_entry_74 h
  · refine go_iconst (pc := 17) (-1) F dX8_entry_17 (by decide) ?_
    exact go_iretR (pc := 18) F dX8_entry_18 h
set_option maxRecDepth 100000 in
set_option maxHeartbeats 4000000 in
theorem ct_X8_seen (l : Launch) (G : Gm) (V : Wd) (x1 : Int32) (x2 : Int32) (x3 : Int32) (z : Int32) (h : f_X8_seen V x1 x2 x3 = some z) : Ct l G yX8_seen cX8_seen 5 (some .int) 3 68 [.ref (AD G 0), .int x1, .int x2, .int x3] V (some (.int z)) V := by
  refine Ct.of (own := RX8) (by decide +kernel) rfl (Nat.le_of_ble_eq_true rfl) (fun E F he => ?_)
  clear he
  refine go_sub (lv' := [(0, .ref (AD G 0)), (1, .int x1), (2, .int x2), (3, .int x3)]) [0, 1, 2, 3] rfl ?_
  unfold f_X8_seen at h
  refine go_iloadn (pc := 0) F dX8_seen_0 1 rfl ?_
  refine go_iconst (pc := 1) 2 F dX8_seen_1 (by decide) ?_
  refine cv_X8_49 (pc := 2) F dX8_seen_2 (ct_X8_isBelow (enL E) G V x1 2) (by decide) (by decide) (Nat.le_of_ble_eq_true rfl) ?_
  refine go_if_ne (pc := 5) 11 F dX8_seen_5 (by decide) h (fun c5 h => ?_) (fun c5 h => ?_)
  · refine go_aloadn (pc := 11) F dX8_seen_11 0 rfl ?_
    refine gf_X8_10 (pc := 12) F dX8_seen_12 rfl ?_
    refine gf_X8_70 (pc := 15) F dX8_seen_15 rfl ?_
    refine go_iloadn (pc := 18) F dX8_seen_18 2 rfl ?_
    refine go_iloadn (pc := 19) F dX8_seen_19 3 rfl ?_
    obtain ⟨y1, hy1, h⟩ := ob_ h
    refine cv_X8_156 (pc := 20) F dX8_seen_20 rfl (ct_X3_has (enL E) G 6 rfl V x2 x3 y1 hy1) (by decide) (by decide) (Nat.le_of_ble_eq_true rfl) ?_
    refine go_if_ne (pc := 23) 28 F dX8_seen_23 (by decide) h (fun c4 h => ?_) (fun c4 h => ?_)
    · refine go_aloadn (pc := 28) F dX8_seen_28 0 rfl ?_
      refine gf_X8_10 (pc := 29) F dX8_seen_29 rfl ?_
      refine gf_X8_70 (pc := 32) F dX8_seen_32 rfl ?_
      refine go_iloadn (pc := 35) F dX8_seen_35 2 rfl ?_
      refine go_iloadn (pc := 36) F dX8_seen_36 3 rfl ?_
      obtain ⟨y2, hy2, h⟩ := ob_ h
      refine cv_X8_162 (pc := 37) F dX8_seen_37 rfl (ct_X3_flagAt (enL E) G 6 rfl V x2 x3 y2 hy2) (by decide) (by decide) (Nat.le_of_ble_eq_true rfl) ?_
      refine go_istore (pc := 40) (lv' := [(4, .int y2), (0, .ref (AD G 0)), (1, .int x1), (2, .int x2), (3, .int x3)]) F dX8_seen_40 (by decide) rfl ?_
      refine go_aloadn (pc := 42) F dX8_seen_42 1 rfl ?_
      refine gf_X8_10 (pc := 43) F dX8_seen_43 rfl ?_
      refine gf_X8_56 (pc := 46) F dX8_seen_46 rfl ?_
      refine go_iload (pc := 49) F dX8_seen_49 0 rfl ?_
      refine go_iloadn (pc := 51) F dX8_seen_51 2 rfl ?_
      refine go_aloadn (pc := 52) F dX8_seen_52 1 rfl ?_
      refine gf_X8_10 (pc := 53) F dX8_seen_53 rfl ?_
      refine gf_X8_91 (pc := 56) F dX8_seen_56 rfl ?_
      refine cv_X8_185 (pc := 59) F dX8_seen_59 (ct_X8_isHoistFirst (enL E) G V x1 (V 1 6)) (by decide) (by decide) (Nat.le_of_ble_eq_true rfl) ?_
      refine go_aloadn (pc := 62) F dX8_seen_62 1 rfl ?_
      refine gf_X8_10 (pc := 63) F dX8_seen_63 rfl ?_
      refine gf_X8_88 (pc := 66) F dX8_seen_66 rfl ?_
      obtain ⟨y3, hy3, h⟩ := ob_ h
      refine cv_X8_188 (pc := 69) F dX8_seen_69 rfl (ct_X1_takenFor (enL E) G 2 rfl V y2 (f_X8_isHoistFirst x1 (V 1 6)) (V 1 5) y3 hy3) (by decide) (by decide) (Nat.le_of_ble_eq_true rfl) ?_
      exact go_iretR (pc := 72) F dX8_seen_72 h
    · refine go_iconst (pc := 26) (-1) F dX8_seen_26 (by decide) ?_
      exact go_iretR (pc := 27) F dX8_seen_27 h
  · refine go_bipush (pc := 8) (-2) F dX8_seen_8 (by decide) ?_
    exact go_iretR (pc := 10) F dX8_seen_10 h
set_option maxRecDepth 100000 in
set_option maxHeartbeats 4000000 in
theorem ct_X8_word (l : Launch) (G : Gm) (V : Wd) (x1 : Int32) (x2 : Int32) (z : Int32 × Wd) (h : f_X8_word V x1 x2 = some z) : Ct l G yX8_word cX8_word 4 (some .int) 6 142 [.ref (AD G 0), .int x1, .int x2] V (some (.int z.1)) z.2 := by
  refine Ct.of (own := RX8) (by decide +kernel) rfl (Nat.le_of_ble_eq_true rfl) (fun E F he => ?_)
  clear he
  refine go_sub (lv' := [(0, .ref (AD G 0)), (1, .int x1), (2, .int x2)]) [0, 1, 2] rfl ?_
  unfold f_X8_word at h
  refine go_iloadn (pc := 0) F dX8_word_0 1 rfl ?_
  refine go_iconst (pc := 1) 2 F dX8_word_1 (by decide) ?_
  refine cv_X8_49 (pc := 2) F dX8_word_2 (ct_X8_isBelow (enL E) G V x1 2) (by decide) (by decide) (Nat.le_of_ble_eq_true rfl) ?_
  refine go_if_ne (pc := 5) 11 F dX8_word_5 (by decide) h (fun c5 h => ?_) (fun c5 h => ?_)
  · refine go_aloadn (pc := 11) F dX8_word_11 0 rfl ?_
    refine go_iloadn (pc := 12) F dX8_word_12 1 rfl ?_
    obtain ⟨q1, hq1, h⟩ := ob_ h
    refine cv_X8_133 (pc := 13) F dX8_word_13 rfl (ct_X8_read (enL E) G V x1 q1 hq1) (by decide) (by decide) (Nat.le_of_ble_eq_true rfl) ?_
    refine go_gd h (fun hr2 h => ?_)
    refine go_astoren (pc := 16) (lv' := [(3, .ref (AD G q1.1)), (0, .ref (AD G 0)), (1, .int x1), (2, .int x2)]) F dX8_word_16 (by decide) rfl ?_
    refine go_iloadn (pc := 17) F dX8_word_17 3 rfl ?_
    refine go_aloadn (pc := 18) F dX8_word_18 0 rfl ?_
    refine cv_X8_137 (pc := 19) F dX8_word_19 hr2 (ct_X5_size (enL E) G q1.1 hr2 q1.2) (by decide) (by decide) (Nat.le_of_ble_eq_true rfl) ?_
    refine cv_X8_49 (pc := 22) F dX8_word_22 (ct_X8_isBelow (enL E) G q1.2 x2 (f_X5_size q1.1 q1.2)) (by decide) (by decide) (Nat.le_of_ble_eq_true rfl) ?_
    refine go_if_eq (pc := 25) 36 F dX8_word_25 (by decide) h (fun c4 h => ?_) (fun c4 h => ?_)
    · refine go_iconst (pc := 36) (-1) F dX8_word_36 (by decide) ?_
      exact go_iretW (pc := 37) F dX8_word_37 h
    · refine go_aloadn (pc := 28) F dX8_word_28 0 rfl ?_
      refine go_iloadn (pc := 29) F dX8_word_29 3 rfl ?_
      obtain ⟨y3, hy3, h⟩ := ob_ h
      refine cv_X8_192 (pc := 30) F dX8_word_30 hr2 (ct_X5_wordAt (enL E) G q1.1 hr2 q1.2 x2 y3 hy3) (by decide) (by decide) (Nat.le_of_ble_eq_true rfl) ?_
      refine go_goto (pc := 33) 37 F dX8_word_33 (by decide) ?_
      exact go_iretW (pc := 37) F dX8_word_37 h
  · refine go_bipush (pc := 8) (-2) F dX8_word_8 (by decide) ?_
    exact go_iretW (pc := 10) F dX8_word_10 h
set_option maxRecDepth 100000 in
set_option maxHeartbeats 4000000 in
theorem ct_X8_known (l : Launch) (G : Gm) (V : Wd) (x1 : Int32) (z : Int32 × Wd) (h : f_X8_known V x1 = some z) : Ct l G yX8_known cX8_known 2 (some .int) 6 142 [.ref (AD G 0), .int x1] V (some (.int z.1)) z.2 := by
  refine Ct.of (own := RX8) (by decide +kernel) rfl (Nat.le_of_ble_eq_true rfl) (fun E F he => ?_)
  clear he
  refine go_sub (lv' := [(0, .ref (AD G 0)), (1, .int x1)]) [0, 1] rfl ?_
  unfold f_X8_known at h
  refine go_iloadn (pc := 0) F dX8_known_0 1 rfl ?_
  refine go_iconst (pc := 1) 2 F dX8_known_1 (by decide) ?_
  refine cv_X8_49 (pc := 2) F dX8_known_2 (ct_X8_isBelow (enL E) G V x1 2) (by decide) (by decide) (Nat.le_of_ble_eq_true rfl) ?_
  refine go_if_ne (pc := 5) 11 F dX8_known_5 (by decide) h (fun c4 h => ?_) (fun c4 h => ?_)
  · refine go_aloadn (pc := 11) F dX8_known_11 0 rfl ?_
    refine go_iloadn (pc := 12) F dX8_known_12 1 rfl ?_
    obtain ⟨q1, hq1, h⟩ := ob_ h
    refine cv_X8_133 (pc := 13) F dX8_known_13 rfl (ct_X8_read (enL E) G V x1 q1 hq1) (by decide) (by decide) (Nat.le_of_ble_eq_true rfl) ?_
    refine go_gd h (fun hr2 h => ?_)
    obtain ⟨y3, hy3, h⟩ := ob_ h
    refine cv_X8_193 (pc := 16) F dX8_known_16 hr2 (ct_X5_countKnown (enL E) G q1.1 hr2 q1.2 y3 hy3) (by decide) (by decide) (Nat.le_of_ble_eq_true rfl) ?_
    exact go_iretW (pc := 19) F dX8_known_19 h
  · refine go_bipush (pc := 8) (-2) F dX8_known_8 (by decide) ?_
    exact go_iretW (pc := 10) F dX8_known_10 h
set_option maxRecDepth 100000 in
set_option maxHeartbeats 4000000 in
theorem ct_X8_isSame (l : Launch) (G : Gm) (V : Wd) (z : Int32 × Wd) (h : f_X8_isSame V = some z) : Ct l G yX8_isSame cX8_isSame 1 (some .int) 6 142 [.ref (AD G 0)] V (some (.int z.1)) z.2 := by
  refine Ct.of (own := RX8) (by decide +kernel) rfl (Nat.le_of_ble_eq_true rfl) (fun E F he => ?_)
  clear he
  refine go_sub (lv' := [(0, .ref (AD G 0))]) [0] rfl ?_
  unfold f_X8_isSame at h
  refine go_aloadn (pc := 0) F dX8_isSame_0 0 rfl ?_
  refine go_iconst (pc := 1) 0 F dX8_isSame_1 (by decide) ?_
  obtain ⟨q1, hq1, h⟩ := ob_ h
  refine cv_X8_133 (pc := 2) F dX8_isSame_2 rfl (ct_X8_read (enL E) G V 0 q1 hq1) (by decide) (by decide) (Nat.le_of_ble_eq_true rfl) ?_
  refine go_gd h (fun hr2 h => ?_)
  refine go_aloadn (pc := 5) F dX8_isSame_5 0 rfl ?_
  refine go_iconst (pc := 6) 1 F dX8_isSame_6 (by decide) ?_
  obtain ⟨q3, hq3, h⟩ := ob_ h
  refine cv_X8_133 (pc := 7) F dX8_isSame_7 rfl (ct_X8_read (enL E) G q1.2 1 q3 hq3) (by decide) (by decide) (Nat.le_of_ble_eq_true rfl) ?_
  refine go_gd h (fun hr4 h => ?_)
  obtain ⟨y5, hy5, h⟩ := ob_ h
  refine cv_X8_196 (pc := 10) F dX8_isSame_10 hr2 (ct_X5_agreesWith (enL E) G q1.1 q3.1 hr2 hr4 q3.2 y5 hy5) (by decide) (by decide) (Nat.le_of_ble_eq_true rfl) ?_
  refine go_if_eq (pc := 13) 20 F dX8_isSame_13 (by decide) h (fun c6 h => ?_) (fun c6 h => ?_)
  · refine go_iconst (pc := 20) 0 F dX8_isSame_20 (by decide) ?_
    exact go_iretW (pc := 21) F dX8_isSame_21 h
  · refine go_iconst (pc := 16) 1 F dX8_isSame_16 (by decide) ?_
    refine go_goto (pc := 17) 21 F dX8_isSame_17 (by decide) ?_
    exact go_iretW (pc := 21) F dX8_isSame_21 h
set_option maxRecDepth 100000 in
set_option maxHeartbeats 4000000 in
theorem ct_X8_sail (l : Launch) (G : Gm) (V : Wd) (x1 : Int32) (z : Int32 × Wd) (h : f_X8_sail V x1 = some z) : Ct l G yX8_sail cX8_sail 3 (some .int) 5 110 [.ref (AD G 0), .int x1] V (some (.int z.1)) z.2 := by
  refine Ct.of (own := RX8) (by decide +kernel) rfl (Nat.le_of_ble_eq_true rfl) (fun E F he => ?_)
  clear he
  refine go_sub (lv' := [(0, .ref (AD G 0)), (1, .int x1)]) [0, 1] rfl ?_
  unfold f_X8_sail at h
  refine go_iloadn (pc := 0) F dX8_sail_0 1 rfl ?_
  refine go_iconst (pc := 1) 2 F dX8_sail_1 (by decide) ?_
  refine cv_X8_49 (pc := 2) F dX8_sail_2 (ct_X8_isBelow (enL E) G V x1 2) (by decide) (by decide) (Nat.le_of_ble_eq_true rfl) ?_
  refine go_if_ne (pc := 5) 11 F dX8_sail_5 (by decide) h (fun c4 h => ?_) (fun c4 h => ?_)
  · refine go_aloadn (pc := 11) F dX8_sail_11 0 rfl ?_
    obtain ⟨V1, hV1, h⟩ := ob_ h
    refine cv_X8_53 (pc := 12) F dX8_sail_12 rfl (ct_X8_recordAndBringPennantDown (enL E) G V V1 hV1) (by decide) (by decide) (Nat.le_of_ble_eq_true rfl) ?_
    refine go_aloadn (pc := 15) F dX8_sail_15 0 rfl ?_
    refine gf_X8_10 (pc := 16) F dX8_sail_16 rfl ?_
    refine gf_X8_130 (pc := 19) F dX8_sail_19 rfl ?_
    refine go_topi h (fun y2 h => ?_)
    refine go_istoren (pc := 22) (lv' := [(2, .int y2), (0, .ref (AD G 0)), (1, .int x1)]) F dX8_sail_22 (by decide) rfl ?_
    refine go_aloadn (pc := 23) F dX8_sail_23 1 rfl ?_
    refine gf_X8_10 (pc := 24) F dX8_sail_24 rfl ?_
    refine go_iloadn (pc := 27) F dX8_sail_27 2 rfl ?_
    refine pf_X8_130 (pc := 28) F dX8_sail_28 rfl h (fun V3 h => ?_)
    refine go_iloadn (pc := 31) F dX8_sail_31 0 rfl ?_
    exact go_iretW (pc := 32) F dX8_sail_32 h
  · refine go_bipush (pc := 8) (-2) F dX8_sail_8 (by decide) ?_
    exact go_iretW (pc := 10) F dX8_sail_10 h
set_option maxRecDepth 100000 in
set_option maxHeartbeats 4000000 in
theorem lb_X8_answer_58 {E : En} {G : Gm} (F : Fx E G (AG G) RX8 cX8_answer 1 (some .int) 6 142 0 0) {z : Int32 × Wd} (V : Wd) (h : f_X8_answer_58 V = some z) : Go E G (AG G) 0 0 (MQq E G (some (.int z.1)) z.2) 1 V 58 [(0, .ref (AD G 0))] [] := by
  unfold f_X8_answer_58 at h
  refine go_aloadn (pc := 58) F dX8_answer_58 0 rfl ?_
  refine gf_X8_26 (pc := 59) F dX8_answer_59 rfl ?_
  refine go_aloadn (pc := 62) F dX8_answer_62 0 rfl ?_
  refine gf_X8_10 (pc := 63) F dX8_answer_63 rfl ?_
  obtain ⟨V9, hV9, h⟩ := ob_ h
  refine cv_X8_80 (pc := 66) F dX8_answer_66 rfl (ct_X2_record (enL E) G 1 rfl V V9 hV9) (by decide) (by decide) (Nat.le_of_ble_eq_true rfl) ?_
  refine go_aloadn (pc := 69) F dX8_answer_69 0 rfl ?_
  refine gf_X8_10 (pc := 70) F dX8_answer_70 rfl ?_
  refine go_aloadn (pc := 73) F dX8_answer_73 0 rfl ?_
  refine gf_X8_10 (pc := 74) F dX8_answer_74 rfl ?_
  refine gf_X8_127 (pc := 77) F dX8_answer_77 rfl ?_
  refine go_if_ne (pc := 80) 87 F dX8_answer_80 (by decide) h (fun c12 h => ?_) (fun c12 h => ?_)
  · refine go_iconst (pc := 87) 2 F dX8_answer_87 (by decide) ?_
    refine pf_X8_127 (pc := 88) F dX8_answer_88 rfl h (fun V10 h => ?_)
    refine go_aloadn (pc := 91) F dX8_answer_91 0 rfl ?_
    refine gf_X8_10 (pc := 92) F dX8_answer_92 rfl ?_
    refine gf_X8_127 (pc := 95) F dX8_answer_95 rfl ?_
    exact go_iretW (pc := 98) F dX8_answer_98 h
  · refine go_iconst (pc := 83) 1 F dX8_answer_83 (by decide) ?_
    refine go_goto (pc := 84) 88 F dX8_answer_84 (by decide) ?_
    refine pf_X8_127 (pc := 88) F dX8_answer_88 rfl h (fun V11 h => ?_)
    refine go_aloadn (pc := 91) F dX8_answer_91 0 rfl ?_
    refine gf_X8_10 (pc := 92) F dX8_answer_92 rfl ?_
    refine gf_X8_127 (pc := 95) F dX8_answer_95 rfl ?_
    exact go_iretW (pc := 98) F dX8_answer_98 h
set_option maxRecDepth 100000 in
set_option maxHeartbeats 4000000 in
theorem ct_X8_answer (l : Launch) (G : Gm) (V : Wd) (z : Int32 × Wd) (h : f_X8_answer V = some z) : Ct l G yX8_answer cX8_answer 1 (some .int) 6 142 [.ref (AD G 0)] V (some (.int z.1)) z.2 := by
  refine Ct.of (own := RX8) (by decide +kernel) rfl (Nat.le_of_ble_eq_true rfl) (fun E F he => ?_)
  clear he
  refine go_sub (lv' := [(0, .ref (AD G 0))]) [0] rfl ?_
  unfold f_X8_answer at h
  refine go_aloadn (pc := 0) F dX8_answer_0 0 rfl ?_
  refine gf_X8_10 (pc := 1) F dX8_answer_1 rfl ?_
  refine gf_X8_70 (pc := 4) F dX8_answer_4 rfl ?_
  obtain ⟨y1, hy1, h⟩ := ob_ h
  refine cv_X8_200 (pc := 7) F dX8_answer_7 rfl (ct_X3_countAll (enL E) G 6 rfl V y1 hy1) (by decide) (by decide) (Nat.le_of_ble_eq_true rfl) ?_
  refine go_if_eq (pc := 10) 24 F dX8_answer_10 (by decide) h (fun c8 h => ?_) (fun c8 h => ?_)
  · refine go_bipush (pc := 24) (-3) F dX8_answer_24 (by decide) ?_
    exact go_iretW (pc := 26) F dX8_answer_26 h
  · refine go_aloadn (pc := 13) F dX8_answer_13 0 rfl ?_
    refine gf_X8_10 (pc := 14) F dX8_answer_14 rfl ?_
    refine gf_X8_127 (pc := 17) F dX8_answer_17 rfl ?_
    refine go_iconst (pc := 20) 2 F dX8_answer_20 (by decide) ?_
    refine go_icmp_ne (pc := 21) 27 F dX8_answer_21 (by decide) h (fun c7 h => ?_) (fun c7 h => ?_)
    · refine go_aloadn (pc := 27) F dX8_answer_27 0 rfl ?_
      refine gf_X8_10 (pc := 28) F dX8_answer_28 rfl ?_
      refine gf_X8_127 (pc := 31) F dX8_answer_31 rfl ?_
      refine go_iconst (pc := 34) 1 F dX8_answer_34 (by decide) ?_
      refine go_icmp_ne (pc := 35) 58 F dX8_answer_35 (by decide) h (fun c6 h => ?_) (fun c6 h => ?_)
      · exact go_sub [0] rfl (lb_X8_answer_58 F V h)
      · refine go_aloadn (pc := 38) F dX8_answer_38 0 rfl ?_
        refine go_aloadn (pc := 39) F dX8_answer_39 0 rfl ?_
        refine gf_X8_10 (pc := 40) F dX8_answer_40 rfl ?_
        refine gf_X8_130 (pc := 43) F dX8_answer_43 rfl ?_
        obtain ⟨q2, hq2, h⟩ := ob_ h
        refine cv_X8_133 (pc := 46) F dX8_answer_46 rfl (ct_X8_read (enL E) G V (V 1 7) q2 hq2) (by decide) (by decide) (Nat.le_of_ble_eq_true rfl) ?_
        refine go_gd h (fun hr3 h => ?_)
        obtain ⟨y4, hy4, h⟩ := ob_ h
        refine cv_X8_203 (pc := 49) F dX8_answer_49 hr3 (ct_X5_knowsAll (enL E) G q2.1 hr3 q2.2 y4 hy4) (by decide) (by decide) (Nat.le_of_ble_eq_true rfl) ?_
        refine go_if_ne (pc := 52) 58 F dX8_answer_52 (by decide) h (fun c5 h => ?_) (fun c5 h => ?_)
        · exact go_sub [0] rfl (lb_X8_answer_58 F q2.2 h)
        · refine go_bipush (pc := 55) (-3) F dX8_answer_55 (by decide) ?_
          exact go_iretW (pc := 57) F dX8_answer_57 h
    · refine go_bipush (pc := 24) (-3) F dX8_answer_24 (by decide) ?_
      exact go_iretW (pc := 26) F dX8_answer_26 h
set_option maxRecDepth 100000 in
set_option maxHeartbeats 4000000 in
theorem ct_X8_logged (l : Launch) (G : Gm) (V : Wd) (x1 : Int32) (x2 : Int32) (z : Int32) (h : f_X8_logged V x1 x2 = some z) : Ct l G yX8_logged cX8_logged 3 (some .int) 2 43 [.ref (AD G 0), .int x1, .int x2] V (some (.int z)) V := by
  refine Ct.of (own := RX8) (by decide +kernel) rfl (Nat.le_of_ble_eq_true rfl) (fun E F he => ?_)
  clear he
  refine go_sub (lv' := [(0, .ref (AD G 0)), (1, .int x1), (2, .int x2)]) [0, 1, 2] rfl ?_
  unfold f_X8_logged at h
  refine go_iloadn (pc := 0) F dX8_logged_0 1 rfl ?_
  refine go_aloadn (pc := 1) F dX8_logged_1 0 rfl ?_
  refine gf_X8_10 (pc := 2) F dX8_logged_2 rfl ?_
  refine gf_X8_140 (pc := 5) F dX8_logged_5 rfl ?_
  refine cv_X8_207 (pc := 8) F dX8_logged_8 rfl (ct_X4_size (enL E) G 12 rfl V) (by decide) (by decide) (Nat.le_of_ble_eq_true rfl) ?_
  refine cv_X8_49 (pc := 11) F dX8_logged_11 (ct_X8_isBelow (enL E) G V x1 (f_X4_size 12 V)) (by decide) (by decide) (Nat.le_of_ble_eq_true rfl) ?_
  refine go_if_ne (pc := 14) 19 F dX8_logged_14 (by decide) h (fun c8 h => ?_) (fun c8 h => ?_)
  · refine go_iloadn (pc := 19) F dX8_logged_19 2 rfl ?_
    refine go_if_lt (pc := 20) 28 F dX8_logged_20 (by decide) h (fun c7 h => ?_) (fun c7 h => ?_)
    · refine go_bipush (pc := 28) (-2) F dX8_logged_28 (by decide) ?_
      exact go_iretR (pc := 30) F dX8_logged_30 h
    · refine go_iloadn (pc := 23) F dX8_logged_23 2 rfl ?_
      refine go_iconst (pc := 24) 5 F dX8_logged_24 (by decide) ?_
      refine go_icmp_le (pc := 25) 31 F dX8_logged_25 (by decide) h (fun c6 h => ?_) (fun c6 h => ?_)
      · refine go_iloadn (pc := 31) F dX8_logged_31 2 rfl ?_
        refine go_aloadn (pc := 32) F dX8_logged_32 0 rfl ?_
        refine gf_X8_10 (pc := 33) F dX8_logged_33 rfl ?_
        refine gf_X8_140 (pc := 36) F dX8_logged_36 rfl ?_
        refine go_iloadn (pc := 39) F dX8_logged_39 1 rfl ?_
        obtain ⟨y1, hy1, h⟩ := ob_ h
        refine cv_X8_208 (pc := 40) F dX8_logged_40 rfl (ct_X4_wordsOf (enL E) G 12 rfl V x1 y1 hy1) (by decide) (by decide) (Nat.le_of_ble_eq_true rfl) ?_
        refine go_icmp_le (pc := 43) 48 F dX8_logged_43 (by decide) h (fun c5 h => ?_) (fun c5 h => ?_)
        · refine go_iloadn (pc := 48) F dX8_logged_48 2 rfl ?_
          refine go_if_ne (pc := 49) 66 F dX8_logged_49 (by decide) h (fun c4 h => ?_) (fun c4 h => ?_)
          · refine go_aloadn (pc := 66) F dX8_logged_66 0 rfl ?_
            refine gf_X8_10 (pc := 67) F dX8_logged_67 rfl ?_
            refine gf_X8_140 (pc := 70) F dX8_logged_70 rfl ?_
            refine go_iloadn (pc := 73) F dX8_logged_73 1 rfl ?_
            refine go_iloadn (pc := 74) F dX8_logged_74 2 rfl ?_
            refine go_iconst (pc := 75) 1 F dX8_logged_75 (by decide) ?_
            refine go_isub (pc := 76) F dX8_logged_76 ?_
            obtain ⟨y2, hy2, h⟩ := ob_ h
            refine cv_X8_211 (pc := 77) F dX8_logged_77 rfl (ct_X4_wordAt (enL E) G 12 rfl V x1 (x2 - 1) y2 hy2) (by decide) (by decide) (Nat.le_of_ble_eq_true rfl) ?_
            exact go_iretR (pc := 80) F dX8_logged_80 h
          · refine go_aloadn (pc := 52) F dX8_logged_52 0 rfl ?_
            refine gf_X8_10 (pc := 53) F dX8_logged_53 rfl ?_
            refine gf_X8_140 (pc := 56) F dX8_logged_56 rfl ?_
            refine go_iloadn (pc := 59) F dX8_logged_59 1 rfl ?_
            obtain ⟨y3, hy3, h⟩ := ob_ h
            refine cv_X8_208 (pc := 60) F dX8_logged_60 rfl (ct_X4_wordsOf (enL E) G 12 rfl V x1 y3 hy3) (by decide) (by decide) (Nat.le_of_ble_eq_true rfl) ?_
            refine go_goto (pc := 63) 80 F dX8_logged_63 (by decide) ?_
            exact go_iretR (pc := 80) F dX8_logged_80 h
        · refine go_iconst (pc := 46) (-1) F dX8_logged_46 (by decide) ?_
          exact go_iretR (pc := 47) F dX8_logged_47 h
      · refine go_bipush (pc := 28) (-2) F dX8_logged_28 (by decide) ?_
        exact go_iretR (pc := 30) F dX8_logged_30 h
  · refine go_iconst (pc := 17) (-1) F dX8_logged_17 (by decide) ?_
    exact go_iretR (pc := 18) F dX8_logged_18 h
set_option maxRecDepth 100000 in
set_option maxHeartbeats 4000000 in
theorem ct_X8_total (l : Launch) (G : Gm) (V : Wd) (x1 : Int32) (z : Int32) (h : f_X8_total V x1 = some z) : Ct l G yX8_total cX8_total 2 (some .int) 1 22 [.ref (AD G 0), .int x1] V (some (.int z)) V := by
  refine Ct.of (own := RX8) (by decide +kernel) rfl (Nat.le_of_ble_eq_true rfl) (fun E F he => ?_)
  clear he
  refine go_sub (lv' := [(0, .ref (AD G 0)), (1, .int x1)]) [0, 1] rfl ?_
  unfold f_X8_total at h
  refine go_iloadn (pc := 0) F dX8_total_0 1 rfl ?_
  refine go_sw h (fun c1 h => ?_) (fun c1 h => ?_)
  · refine go_tabI (pc := 1) 56 F dX8_total_1 c1 (by decide) (by decide) rfl (by decide) ?_
    refine go_aloadn (pc := 56) F dX8_total_56 0 rfl ?_
    refine gf_X8_10 (pc := 57) F dX8_total_57 rfl ?_
    refine gf_X8_88 (pc := 60) F dX8_total_60 rfl ?_
    exact go_iretR (pc := 63) F dX8_total_63 h
  · refine go_sw h (fun c2 h => ?_) (fun c2 h => ?_)
    · refine go_tabI (pc := 1) 64 F dX8_total_1 c2 (by decide) (by decide) rfl (by decide) ?_
      refine go_aloadn (pc := 64) F dX8_total_64 0 rfl ?_
      refine gf_X8_10 (pc := 65) F dX8_total_65 rfl ?_
      refine gf_X8_91 (pc := 68) F dX8_total_68 rfl ?_
      exact go_iretR (pc := 71) F dX8_total_71 h
    · refine go_sw h (fun c3 h => ?_) (fun c3 h => ?_)
      · refine go_tabI (pc := 1) 72 F dX8_total_1 c3 (by decide) (by decide) rfl (by decide) ?_
        refine go_aloadn (pc := 72) F dX8_total_72 0 rfl ?_
        refine gf_X8_10 (pc := 73) F dX8_total_73 rfl ?_
        refine gf_X8_84 (pc := 76) F dX8_total_76 rfl ?_
        exact go_iretR (pc := 79) F dX8_total_79 h
      · refine go_sw h (fun c4 h => ?_) (fun c4 h => ?_)
        · refine go_tabI (pc := 1) 80 F dX8_total_1 c4 (by decide) (by decide) rfl (by decide) ?_
          refine go_aloadn (pc := 80) F dX8_total_80 0 rfl ?_
          refine gf_X8_10 (pc := 81) F dX8_total_81 rfl ?_
          refine gf_X8_70 (pc := 84) F dX8_total_84 rfl ?_
          obtain ⟨y5, hy5, h⟩ := ob_ h
          refine cv_X8_200 (pc := 87) F dX8_total_87 rfl (ct_X3_countAll (enL E) G 6 rfl V y5 hy5) (by decide) (by decide) (Nat.le_of_ble_eq_true rfl) ?_
          exact go_iretR (pc := 90) F dX8_total_90 h
        · refine go_sw h (fun c6 h => ?_) (fun c6 h => ?_)
          · refine go_tabI (pc := 1) 91 F dX8_total_1 c6 (by decide) (by decide) rfl (by decide) ?_
            refine go_aloadn (pc := 91) F dX8_total_91 0 rfl ?_
            refine gf_X8_10 (pc := 92) F dX8_total_92 rfl ?_
            refine gf_X8_70 (pc := 95) F dX8_total_95 rfl ?_
            obtain ⟨y7, hy7, h⟩ := ob_ h
            refine cv_X8_213 (pc := 98) F dX8_total_98 rfl (ct_X3_countNotEmpty (enL E) G 6 rfl V y7 hy7) (by decide) (by decide) (Nat.le_of_ble_eq_true rfl) ?_
            exact go_iretR (pc := 101) F dX8_total_101 h
          · refine go_sw h (fun c8 h => ?_) (fun c8 h => ?_)
            · refine go_tabI (pc := 1) 102 F dX8_total_1 c8 (by decide) (by decide) rfl (by decide) ?_
              refine go_aloadn (pc := 102) F dX8_total_102 0 rfl ?_
              refine gf_X8_10 (pc := 103) F dX8_total_103 rfl ?_
              refine gf_X8_168 (pc := 106) F dX8_total_106 rfl ?_
              refine cv_X8_172 (pc := 109) F dX8_total_109 rfl (ct_X0_size (enL E) G 9 rfl V) (by decide) (by decide) (Nat.le_of_ble_eq_true rfl) ?_
              exact go_iretR (pc := 112) F dX8_total_112 h
            · refine go_sw h (fun c9 h => ?_) (fun c9 h => ?_)
              · refine go_tabI (pc := 1) 113 F dX8_total_1 c9 (by decide) (by decide) rfl (by decide) ?_
                refine go_aloadn (pc := 113) F dX8_total_113 0 rfl ?_
                refine gf_X8_10 (pc := 114) F dX8_total_114 rfl ?_
                refine gf_X8_130 (pc := 117) F dX8_total_117 rfl ?_
                exact go_iretR (pc := 120) F dX8_total_120 h
              · refine go_sw h (fun c10 h => ?_) (fun c10 h => ?_)
                · refine go_tabI (pc := 1) 121 F dX8_total_1 c10 (by decide) (by decide) rfl (by decide) ?_
                  refine go_aloadn (pc := 121) F dX8_total_121 0 rfl ?_
                  refine gf_X8_10 (pc := 122) F dX8_total_122 rfl ?_
                  refine gf_X8_127 (pc := 125) F dX8_total_125 rfl ?_
                  exact go_iretR (pc := 128) F dX8_total_128 h
                · refine go_sw h (fun c11 h => ?_) (fun c11 h => ?_)
                  · refine go_tabI (pc := 1) 129 F dX8_total_1 c11 (by decide) (by decide) rfl (by decide) ?_
                    refine go_aloadn (pc := 129) F dX8_total_129 0 rfl ?_
                    refine gf_X8_10 (pc := 130) F dX8_total_130 rfl ?_
                    refine gf_X8_140 (pc := 133) F dX8_total_133 rfl ?_
                    refine cv_X8_207 (pc := 136) F dX8_total_136 rfl (ct_X4_size (enL E) G 12 rfl V) (by decide) (by decide) (Nat.le_of_ble_eq_true rfl) ?_
                    exact go_iretR (pc := 139) F dX8_total_139 h
                  · refine go_sw h (fun c12 h => ?_) (fun c12 h => ?_)
                    · refine go_tabI (pc := 1) 140 F dX8_total_1 c12 (by decide) (by decide) rfl (by decide) ?_
                      refine go_aloadn (pc := 140) F dX8_total_140 0 rfl ?_
                      refine gf_X8_10 (pc := 141) F dX8_total_141 rfl ?_
                      refine gf_X8_140 (pc := 144) F dX8_total_144 rfl ?_
                      refine cv_X8_216 (pc := 147) F dX8_total_147 rfl (ct_X4_countAll (enL E) G 12 rfl V) (by decide) (by decide) (Nat.le_of_ble_eq_true rfl) ?_
                      exact go_iretR (pc := 150) F dX8_total_150 h
                    · refine go_tabO (pc := 1) 151 F dX8_total_1 (tab_o 10 (by decide) (by decide) (fun j hj => by rcases (show j = 0 ∨ j = 1 ∨ j = 2 ∨ j = 3 ∨ j = 4 ∨ j = 5 ∨ j = 6 ∨ j = 7 ∨ j = 8 ∨ j = 9 by omega) with rfl | rfl | rfl | rfl | rfl | rfl | rfl | rfl | rfl | rfl <;> first | exact c1 | exact c2 | exact c3 | exact c4 | exact c6 | exact c8 | exact c9 | exact c10 | exact c11 | exact c12)) (by decide) ?_
                      refine go_bipush (pc := 151) (-2) F dX8_total_151 (by decide) ?_
                      exact go_iretR (pc := 153) F dX8_total_153 h
set_option maxRecDepth 100000 in
set_option maxHeartbeats 4000000 in
theorem lb_X8_leastWind_19 {E : En} {G : Gm} (F : Fx E G (AG G) RX8 cX8_leastWind 4 (some .int) 5 120 0 0) {r2 : Nat} (hr2 : kd r2 = 8) {x1 : Int32} {z : Int32 × Wd} : ∀ (n : Nat) (V : Wd) (x3 : Int32), f_X8_leastWind_19 x1 n V r2 x3 = some z → Go E G (AG G) 0 0 (MQq E G (some (.int z.1)) z.2) 4 V 19 [(0, .ref (AD G 0)), (2, .ref (AD G r2)), (3, .int x3)] [] := by
  intro n
  induction n with
  | zero => intro V x3 h; cases h
  | succ n ih =>
    intro V x3 h
    rw [f_X8_leastWind_19] at h
    refine go_iloadn (pc := 19) F dX8_leastWind_19 2 rfl ?_
    refine go_bipush (pc := 20) 10 F dX8_leastWind_20 (by decide) ?_
    refine go_icmp_ge (pc := 22) 56 F dX8_leastWind_22 (by decide) h (fun c7 h => ?_) (fun c7 h => ?_)
    · refine go_bipush (pc := 56) (-6) F dX8_leastWind_56 (by decide) ?_
      exact go_iretW (pc := 58) F dX8_leastWind_58 h
    · refine go_aloadn (pc := 25) F dX8_leastWind_25 1 rfl ?_
      refine go_aloadn (pc := 26) F dX8_leastWind_26 0 rfl ?_
      refine gf_X8_10 (pc := 27) F dX8_leastWind_27 rfl ?_
      refine go_iloadn (pc := 30) F dX8_leastWind_30 2 rfl ?_
      refine go_aloadn (pc := 31) F dX8_leastWind_31 0 rfl ?_
      refine gf_X8_10 (pc := 32) F dX8_leastWind_32 rfl ?_
      refine gf_X8_91 (pc := 35) F dX8_leastWind_35 rfl ?_
      obtain ⟨V4, hV4, h⟩ := ob_ h
      refine cv_X8_220 (pc := 38) F dX8_leastWind_38 hr2 (ct_X5_look (enL E) G r2 1 hr2 rfl V x3 (V 1 6) V4 hV4) (by decide) (by decide) (Nat.le_of_ble_eq_true rfl) ?_
      refine go_aloadn (pc := 41) F dX8_leastWind_41 1 rfl ?_
      obtain ⟨y5, hy5, h⟩ := ob_ h
      refine cv_X8_203 (pc := 42) F dX8_leastWind_42 hr2 (ct_X5_knowsAll (enL E) G r2 hr2 V4 y5 hy5) (by decide) (by decide) (Nat.le_of_ble_eq_true rfl) ?_
      refine go_if_eq (pc := 45) 50 F dX8_leastWind_45 (by decide) h (fun c6 h => ?_) (fun c6 h => ?_)
      · refine go_iinc (pc := 50) (x3 + 1) (lv' := [(3, .int (x3 + 1)), (0, .ref (AD G 0)), (2, .ref (AD G r2))]) F dX8_leastWind_50 (k := 2) rfl rfl (by decide) rfl ?_
        refine go_goto (pc := 53) 19 F dX8_leastWind_53 (by decide) ?_
        exact go_sub [1, 2, 0] rfl (ih V4 (x3 + 1) h)
      · refine go_iloadn (pc := 48) F dX8_leastWind_48 2 rfl ?_
        exact go_iretW (pc := 49) F dX8_leastWind_49 h
set_option maxRecDepth 100000 in
set_option maxHeartbeats 4000000 in
theorem ct_X8_leastWind (l : Launch) (G : Gm) (V : Wd) (x1 : Int32) (z : Int32 × Wd) (h : f_X8_leastWind V x1 = some z) : Ct l G yX8_leastWind cX8_leastWind 4 (some .int) 5 120 [.ref (AD G 0), .int x1] V (some (.int z.1)) z.2 := by
  refine Ct.of (own := RX8) (by decide +kernel) rfl (Nat.le_of_ble_eq_true rfl) (fun E F he => ?_)
  clear he
  refine go_sub (lv' := [(0, .ref (AD G 0)), (1, .int x1)]) [0, 1] rfl ?_
  unfold f_X8_leastWind at h
  refine go_iloadn (pc := 0) F dX8_leastWind_0 1 rfl ?_
  refine go_iconst (pc := 1) 2 F dX8_leastWind_1 (by decide) ?_
  refine cv_X8_49 (pc := 2) F dX8_leastWind_2 (ct_X8_isBelow (enL E) G V x1 2) (by decide) (by decide) (Nat.le_of_ble_eq_true rfl) ?_
  refine go_if_ne (pc := 5) 11 F dX8_leastWind_5 (by decide) h (fun c3 h => ?_) (fun c3 h => ?_)
  · refine go_aloadn (pc := 11) F dX8_leastWind_11 0 rfl ?_
    refine go_iloadn (pc := 12) F dX8_leastWind_12 1 rfl ?_
    refine cv_X8_217 (pc := 13) F dX8_leastWind_13 rfl (ct_X8_readingOf (enL E) G V x1) (by decide) (by decide) (Nat.le_of_ble_eq_true rfl) ?_
    refine go_topr h (fun r2 h => ?_)
    refine go_gd h (fun hr1 h => ?_)
    refine go_astoren (pc := 16) (lv' := [(2, .ref (AD G r2)), (0, .ref (AD G 0)), (1, .int x1)]) F dX8_leastWind_16 (by decide) rfl ?_
    refine go_iconst (pc := 17) 0 F dX8_leastWind_17 (by decide) ?_
    refine go_istoren (pc := 18) (lv' := [(3, .int 0), (2, .ref (AD G r2)), (0, .ref (AD G 0)), (1, .int x1)]) F dX8_leastWind_18 (by decide) rfl ?_
    exact go_sub [2, 1, 0] rfl (lb_X8_leastWind_19 F hr1 FU_ V 0 h)
  · refine go_bipush (pc := 8) (-2) F dX8_leastWind_8 (by decide) ?_
    exact go_iretW (pc := 10) F dX8_leastWind_10 h
set_option maxRecDepth 100000 in
set_option maxHeartbeats 4000000 in
theorem ct_X8_ifTurned (l : Launch) (G : Gm) (V : Wd) (x1 : Int32) (z : Int32 × Wd) (h : f_X8_ifTurned V x1 = some z) : Ct l G yX8_ifTurned cX8_ifTurned 3 (some .int) 5 120 [.ref (AD G 0), .int x1] V (some (.int z.1)) z.2 := by
  refine Ct.of (own := RX8) (by decide +kernel) rfl (Nat.le_of_ble_eq_true rfl) (fun E F he => ?_)
  clear he
  refine go_sub (lv' := [(0, .ref (AD G 0)), (1, .int x1)]) [0, 1] rfl ?_
  unfold f_X8_ifTurned at h
  refine go_iloadn (pc := 0) F dX8_ifTurned_0 1 rfl ?_
  refine go_iconst (pc := 1) 2 F dX8_ifTurned_1 (by decide) ?_
  refine cv_X8_49 (pc := 2) F dX8_ifTurned_2 (ct_X8_isBelow (enL E) G V x1 2) (by decide) (by decide) (Nat.le_of_ble_eq_true rfl) ?_
  refine go_if_ne (pc := 5) 11 F dX8_ifTurned_5 (by decide) h (fun c5 h => ?_) (fun c5 h => ?_)
  · refine go_aloadn (pc := 11) F dX8_ifTurned_11 0 rfl ?_
    refine go_iloadn (pc := 12) F dX8_ifTurned_12 1 rfl ?_
    refine cv_X8_217 (pc := 13) F dX8_ifTurned_13 rfl (ct_X8_readingOf (enL E) G V x1) (by decide) (by decide) (Nat.le_of_ble_eq_true rfl) ?_
    refine go_topr h (fun r2 h => ?_)
    refine go_gd h (fun hr1 h => ?_)
    refine go_astoren (pc := 16) (lv' := [(2, .ref (AD G r2)), (0, .ref (AD G 0)), (1, .int x1)]) F dX8_ifTurned_16 (by decide) rfl ?_
    refine go_aloadn (pc := 17) F dX8_ifTurned_17 0 rfl ?_
    refine go_aloadn (pc := 18) F dX8_ifTurned_18 1 rfl ?_
    refine gf_X8_10 (pc := 19) F dX8_ifTurned_19 rfl ?_
    refine go_aloadn (pc := 22) F dX8_ifTurned_22 1 rfl ?_
    refine gf_X8_10 (pc := 23) F dX8_ifTurned_23 rfl ?_
    refine gf_X8_88 (pc := 26) F dX8_ifTurned_26 rfl ?_
    refine go_iconst (pc := 29) 1 F dX8_ifTurned_29 (by decide) ?_
    refine go_aloadn (pc := 30) F dX8_ifTurned_30 1 rfl ?_
    refine gf_X8_10 (pc := 31) F dX8_ifTurned_31 rfl ?_
    refine gf_X8_91 (pc := 34) F dX8_ifTurned_34 rfl ?_
    refine go_isub (pc := 37) F dX8_ifTurned_37 ?_
    obtain ⟨V3, hV3, h⟩ := ob_ h
    refine cv_X8_220 (pc := 38) F dX8_ifTurned_38 hr1 (ct_X5_look (enL E) G r2 1 hr1 rfl V (V 1 5) (1 - (V 1 6)) V3 hV3) (by decide) (by decide) (Nat.le_of_ble_eq_true rfl) ?_
    refine go_aloadn (pc := 41) F dX8_ifTurned_41 0 rfl ?_
    obtain ⟨y4, hy4, h⟩ := ob_ h
    refine cv_X8_193 (pc := 42) F dX8_ifTurned_42 hr1 (ct_X5_countKnown (enL E) G r2 hr1 V3 y4 hy4) (by decide) (by decide) (Nat.le_of_ble_eq_true rfl) ?_
    exact go_iretW (pc := 45) F dX8_ifTurned_45 h
  · refine go_bipush (pc := 8) (-2) F dX8_ifTurned_8 (by decide) ?_
    exact go_iretW (pc := 10) F dX8_ifTurned_10 h
set_option maxRecDepth 100000 in
set_option maxHeartbeats 4000000 in
theorem lb_X8_mendingExchange_29 {E : En} {G : Gm} (F : Fx E G (AG G) RX8 cX8_mendingExchange 3 (some .int) 6 142 0 0) {K20 : Wd → Int32 → Option (Int32 × Wd)} {z : Int32 × Wd} (hK20 : ∀ (V1 : Wd) (a1 : Int32), K20 V1 a1 = some z → Go E G (AG G) 0 0 (MQq E G (some (.int z.1)) z.2) 3 V1 20 [(0, .ref (AD G 0)), (1, .int a1)] []) : ∀ (n : Nat) (V : Wd) (x1 : Int32) (x2 : Int32), f_X8_mendingExchange_29 K20 n V x1 x2 = some z → Go E G (AG G) 0 0 (MQq E G (some (.int z.1)) z.2) 3 V 29 [(0, .ref (AD G 0)), (1, .int x1), (2, .int x2)] [] := by
  intro n
  induction n with
  | zero => intro V x1 x2 h; cases h
  | succ n ih =>
    intro V x1 x2 h
    rw [f_X8_mendingExchange_29] at h
    refine go_iloadn (pc := 29) F dX8_mendingExchange_29 2 rfl ?_
    refine go_iconst (pc := 30) 5 F dX8_mendingExchange_30 (by decide) ?_
    refine go_icmp_ge (pc := 31) 79 F dX8_mendingExchange_31 (by decide) h (fun c13 h => ?_) (fun c13 h => ?_)
    · refine go_iinc (pc := 79) (x1 + 1) (lv' := [(1, .int (x1 + 1)), (0, .ref (AD G 0)), (2, .int x2)]) F dX8_mendingExchange_79 (k := 1) rfl rfl (by decide) rfl ?_
      refine go_goto (pc := 82) 20 F dX8_mendingExchange_82 (by decide) ?_
      exact go_sub [1, 0] rfl (hK20 V (x1 + 1) h)
    · refine go_aloadn (pc := 34) F dX8_mendingExchange_34 0 rfl ?_
      refine gf_X8_42 (pc := 35) F dX8_mendingExchange_35 rfl ?_
      refine go_iloadn (pc := 38) F dX8_mendingExchange_38 1 rfl ?_
      refine go_iloadn (pc := 39) F dX8_mendingExchange_39 2 rfl ?_
      obtain ⟨V9, hV9, h⟩ := ob_ h
      refine cv_X8_224 (pc := 40) F dX8_mendingExchange_40 rfl (ct_X5_arrange (enL E) G 106 rfl V x1 x2 V9 hV9) (by decide) (by decide) (Nat.le_of_ble_eq_true rfl) ?_
      refine go_aloadn (pc := 43) F dX8_mendingExchange_43 0 rfl ?_
      refine gf_X8_46 (pc := 44) F dX8_mendingExchange_44 rfl ?_
      refine go_iloadn (pc := 47) F dX8_mendingExchange_47 1 rfl ?_
      refine go_iloadn (pc := 48) F dX8_mendingExchange_48 2 rfl ?_
      obtain ⟨V10, hV10, h⟩ := ob_ h
      refine cv_X8_224 (pc := 49) F dX8_mendingExchange_49 rfl (ct_X5_arrange (enL E) G 109 rfl V9 x1 x2 V10 hV10) (by decide) (by decide) (Nat.le_of_ble_eq_true rfl) ?_
      refine go_aloadn (pc := 52) F dX8_mendingExchange_52 0 rfl ?_
      refine gf_X8_42 (pc := 53) F dX8_mendingExchange_53 rfl ?_
      refine go_aloadn (pc := 56) F dX8_mendingExchange_56 0 rfl ?_
      refine gf_X8_46 (pc := 57) F dX8_mendingExchange_57 rfl ?_
      obtain ⟨y11, hy11, h⟩ := ob_ h
      refine cv_X8_196 (pc := 60) F dX8_mendingExchange_60 rfl (ct_X5_agreesWith (enL E) G 106 109 rfl rfl V10 y11 hy11) (by decide) (by decide) (Nat.le_of_ble_eq_true rfl) ?_
      refine go_if_eq (pc := 63) 73 F dX8_mendingExchange_63 (by decide) h (fun c12 h => ?_) (fun c12 h => ?_)
      · refine go_iinc (pc := 73) (x2 + 1) (lv' := [(2, .int (x2 + 1)), (0, .ref (AD G 0)), (1, .int x1)]) F dX8_mendingExchange_73 (k := 2) rfl rfl (by decide) rfl ?_
        refine go_goto (pc := 76) 29 F dX8_mendingExchange_76 (by decide) ?_
        exact go_sub [1, 2, 0] rfl (ih V10 x1 (x2 + 1) h)
      · refine go_bipush (pc := 66) 10 F dX8_mendingExchange_66 (by decide) ?_
        refine go_iloadn (pc := 68) F dX8_mendingExchange_68 1 rfl ?_
        refine go_imul (pc := 69) F dX8_mendingExchange_69 ?_
        refine go_iloadn (pc := 70) F dX8_mendingExchange_70 2 rfl ?_
        refine go_iadd (pc := 71) F dX8_mendingExchange_71 ?_
        exact go_iretW (pc := 72) F dX8_mendingExchange_72 h
set_option maxRecDepth 100000 in
set_option maxHeartbeats 4000000 in
theorem lb_X8_mendingExchange_20 {E : En} {G : Gm} (F : Fx E G (AG G) RX8 cX8_mendingExchange 3 (some .int) 6 142 0 0) {z : Int32 × Wd} : ∀ (n : Nat) (V : Wd) (x1 : Int32), f_X8_mendingExchange_20 n V x1 = some z → Go E G (AG G) 0 0 (MQq E G (some (.int z.1)) z.2) 3 V 20 [(0, .ref (AD G 0)), (1, .int x1)] [] := by
  intro n
  induction n with
  | zero => intro V x1 h; cases h
  | succ n ih =>
    intro V x1 h
    rw [f_X8_mendingExchange_20] at h
    refine go_iloadn (pc := 20) F dX8_mendingExchange_20 1 rfl ?_
    refine go_iconst (pc := 21) 5 F dX8_mendingExchange_21 (by decide) ?_
    refine go_icmp_ge (pc := 22) 85 F dX8_mendingExchange_22 (by decide) h (fun c8 h => ?_) (fun c8 h => ?_)
    · refine go_bipush (pc := 85) (-6) F dX8_mendingExchange_85 (by decide) ?_
      exact go_iretW (pc := 87) F dX8_mendingExchange_87 h
    · refine go_iloadn (pc := 25) F dX8_mendingExchange_25 1 rfl ?_
      refine go_iconst (pc := 26) 1 F dX8_mendingExchange_26 (by decide) ?_
      refine go_iadd (pc := 27) F dX8_mendingExchange_27 ?_
      refine go_topi h (fun y7 h => ?_)
      refine go_istoren (pc := 28) (lv' := [(2, .int y7), (0, .ref (AD G 0)), (1, .int x1)]) F dX8_mendingExchange_28 (by decide) rfl ?_
      exact go_sub [1, 2, 0] rfl (lb_X8_mendingExchange_29 F (fun V1 a1 h => ih V1 a1 h) FU_ V x1 y7 h)
set_option maxRecDepth 100000 in
set_option maxHeartbeats 4000000 in
theorem ct_X8_mendingExchange (l : Launch) (G : Gm) (V : Wd) (z : Int32 × Wd) (h : f_X8_mendingExchange V = some z) : Ct l G yX8_mendingExchange cX8_mendingExchange 3 (some .int) 6 142 [.ref (AD G 0)] V (some (.int z.1)) z.2 := by
  refine Ct.of (own := RX8) (by decide +kernel) rfl (Nat.le_of_ble_eq_true rfl) (fun E F he => ?_)
  clear he
  refine go_sub (lv' := [(0, .ref (AD G 0))]) [0] rfl ?_
  unfold f_X8_mendingExchange at h
  refine go_aloadn (pc := 0) F dX8_mendingExchange_0 0 rfl ?_
  refine go_iconst (pc := 1) 0 F dX8_mendingExchange_1 (by decide) ?_
  obtain ⟨q1, hq1, h⟩ := ob_ h
  refine cv_X8_133 (pc := 2) F dX8_mendingExchange_2 rfl (ct_X8_read (enL E) G V 0 q1 hq1) (by decide) (by decide) (Nat.le_of_ble_eq_true rfl) ?_
  refine go_gd h (fun hr2 h => ?_)
  refine go_aloadn (pc := 5) F dX8_mendingExchange_5 0 rfl ?_
  refine go_iconst (pc := 6) 1 F dX8_mendingExchange_6 (by decide) ?_
  obtain ⟨q3, hq3, h⟩ := ob_ h
  refine cv_X8_133 (pc := 7) F dX8_mendingExchange_7 rfl (ct_X8_read (enL E) G q1.2 1 q3 hq3) (by decide) (by decide) (Nat.le_of_ble_eq_true rfl) ?_
  refine go_gd h (fun hr4 h => ?_)
  obtain ⟨y5, hy5, h⟩ := ob_ h
  refine cv_X8_196 (pc := 10) F dX8_mendingExchange_10 hr2 (ct_X5_agreesWith (enL E) G q1.1 q3.1 hr2 hr4 q3.2 y5 hy5) (by decide) (by decide) (Nat.le_of_ble_eq_true rfl) ?_
  refine go_if_eq (pc := 13) 18 F dX8_mendingExchange_13 (by decide) h (fun c6 h => ?_) (fun c6 h => ?_)
  · refine go_iconst (pc := 18) 0 F dX8_mendingExchange_18 (by decide) ?_
    refine go_istoren (pc := 19) (lv' := [(1, .int 0), (0, .ref (AD G 0))]) F dX8_mendingExchange_19 (by decide) rfl ?_
    exact go_sub [1, 0] rfl (lb_X8_mendingExchange_20 F FU_ q3.2 0 h)
  · refine go_iconst (pc := 16) 0 F dX8_mendingExchange_16 (by decide) ?_
    exact go_iretW (pc := 17) F dX8_mendingExchange_17 h
set_option maxRecDepth 100000 in
set_option maxHeartbeats 4000000 in
theorem lb_X8_isKnownAsItself_17 {E : En} {G : Gm} (F : Fx E G (AG G) RX8 cX8_isKnownAsItself 6 (some .boolean) 2 46 0 0) {V : Wd} {x1 : Int32} {z : Int32} : ∀ (n : Nat) (x2 : Int32) (x3 : Int32) (x4 : Int32), f_X8_isKnownAsItself_17 V x1 n x2 x3 x4 = some z → Go E G (AG G) 0 0 (MQq E G (some (.int z)) V) 6 V 17 [(0, .ref (AD G 0)), (2, .int x2), (3, .int x3), (4, .int x4)] [] := by
  intro n
  induction n with
  | zero => intro x2 x3 x4 h; cases h
  | succ n ih =>
    intro x2 x3 x4 h
    rw [f_X8_isKnownAsItself_17] at h
    refine go_iload (pc := 17) F dX8_isKnownAsItself_17 3 rfl ?_
    refine go_iconst (pc := 19) 4 F dX8_isKnownAsItself_19 (by decide) ?_
    refine go_icmp_ge (pc := 20) 73 F dX8_isKnownAsItself_20 (by decide) h (fun c7 h => ?_) (fun c7 h => ?_)
    · refine go_iconst (pc := 73) 1 F dX8_isKnownAsItself_73 (by decide) ?_
      exact go_zretR (pc := 74) F dX8_isKnownAsItself_74 rfl h
    · refine go_iloadn (pc := 23) F dX8_isKnownAsItself_23 2 rfl ?_
      refine go_bipush (pc := 24) 10 F dX8_isKnownAsItself_24 (by decide) ?_
      refine go_icmp_lt (pc := 26) 73 F dX8_isKnownAsItself_26 (by decide) h (fun c6 h => ?_) (fun c6 h => ?_)
      · refine go_iconst (pc := 73) 1 F dX8_isKnownAsItself_73 (by decide) ?_
        exact go_zretR (pc := 74) F dX8_isKnownAsItself_74 rfl h
      · refine go_iloadn (pc := 29) F dX8_isKnownAsItself_29 2 rfl ?_
        refine go_bipush (pc := 30) 10 F dX8_isKnownAsItself_30 (by decide) ?_
        refine go_irem (pc := 32) F dX8_isKnownAsItself_32 (by decide) ?_
        refine go_topi h (fun y2 h => ?_)
        refine go_istore (pc := 33) (lv' := [(5, .int y2), (0, .ref (AD G 0)), (2, .int x2), (3, .int x3), (4, .int x4)]) F dX8_isKnownAsItself_33 (by decide) rfl ?_
        refine go_aloadn (pc := 35) F dX8_isKnownAsItself_35 1 rfl ?_
        refine gf_X8_10 (pc := 36) F dX8_isKnownAsItself_36 rfl ?_
        refine gf_X8_56 (pc := 39) F dX8_isKnownAsItself_39 rfl ?_
        refine go_iload (pc := 42) F dX8_isKnownAsItself_42 0 rfl ?_
        refine go_iloadn (pc := 44) F dX8_isKnownAsItself_44 2 rfl ?_
        refine go_aloadn (pc := 45) F dX8_isKnownAsItself_45 1 rfl ?_
        refine gf_X8_10 (pc := 46) F dX8_isKnownAsItself_46 rfl ?_
        refine gf_X8_88 (pc := 49) F dX8_isKnownAsItself_49 rfl ?_
        obtain ⟨y3, hy3, h⟩ := ob_ h
        refine cv_X8_188 (pc := 52) F dX8_isKnownAsItself_52 rfl (ct_X1_takenFor (enL E) G 2 rfl V y2 x2 (V 1 5) y3 hy3) (by decide) (by decide) (Nat.le_of_ble_eq_true rfl) ?_
        refine go_iload (pc := 55) F dX8_isKnownAsItself_55 0 rfl ?_
        refine go_icmp_eq (pc := 57) 62 F dX8_isKnownAsItself_57 (by decide) h (fun c5 h => ?_) (fun c5 h => ?_)
        · refine go_iloadn (pc := 62) F dX8_isKnownAsItself_62 3 rfl ?_
          refine go_bipush (pc := 63) 10 F dX8_isKnownAsItself_63 (by decide) ?_
          refine go_idiv (pc := 65) F dX8_isKnownAsItself_65 (by decide) ?_
          refine go_topi h (fun y4 h => ?_)
          refine go_istoren (pc := 66) (lv' := [(3, .int y4), (5, .int y2), (0, .ref (AD G 0)), (2, .int x2), (4, .int x4)]) F dX8_isKnownAsItself_66 (by decide) rfl ?_
          refine go_iinc (pc := 67) (x4 + 1) (lv' := [(4, .int (x4 + 1)), (3, .int y4), (5, .int y2), (0, .ref (AD G 0)), (2, .int x2)]) F dX8_isKnownAsItself_67 (k := 4) rfl rfl (by decide) rfl ?_
          refine go_goto (pc := 70) 17 F dX8_isKnownAsItself_70 (by decide) ?_
          exact go_sub [3, 4, 1, 0] rfl (ih x2 y4 (x4 + 1) h)
        · refine go_iconst (pc := 60) 0 F dX8_isKnownAsItself_60 (by decide) ?_
          exact go_zretR (pc := 61) F dX8_isKnownAsItself_61 rfl h
set_option maxRecDepth 100000 in
set_option maxHeartbeats 4000000 in
theorem ct_X8_isKnownAsItself (l : Launch) (G : Gm) (V : Wd) (x1 : Int32) (z : Int32) (h : f_X8_isKnownAsItself V x1 = some z) : Ct l G yX8_isKnownAsItself cX8_isKnownAsItself 6 (some .boolean) 2 46 [.ref (AD G 0), .int x1] V (some (.int z)) V := by
  refine Ct.of (own := RX8) (by decide +kernel) rfl (Nat.le_of_ble_eq_true rfl) (fun E F he => ?_)
  clear he
  refine go_sub (lv' := [(0, .ref (AD G 0)), (1, .int x1)]) [0, 1] rfl ?_
  unfold f_X8_isKnownAsItself at h
  refine go_iconst (pc := 0) 0 F dX8_isKnownAsItself_0 (by decide) ?_
  refine go_aloadn (pc := 1) F dX8_isKnownAsItself_1 0 rfl ?_
  refine gf_X8_10 (pc := 2) F dX8_isKnownAsItself_2 rfl ?_
  refine gf_X8_91 (pc := 5) F dX8_isKnownAsItself_5 rfl ?_
  refine cv_X8_185 (pc := 8) F dX8_isKnownAsItself_8 (ct_X8_isHoistFirst (enL E) G V 0 (V 1 6)) (by decide) (by decide) (Nat.le_of_ble_eq_true rfl) ?_
  refine go_topi h (fun y1 h => ?_)
  refine go_istoren (pc := 11) (lv' := [(2, .int y1), (0, .ref (AD G 0)), (1, .int x1)]) F dX8_isKnownAsItself_11 (by decide) rfl ?_
  refine go_iloadn (pc := 12) F dX8_isKnownAsItself_12 2 rfl ?_
  refine go_istoren (pc := 13) (lv' := [(3, .int x1), (2, .int y1), (0, .ref (AD G 0)), (1, .int x1)]) F dX8_isKnownAsItself_13 (by decide) rfl ?_
  refine go_iconst (pc := 14) 0 F dX8_isKnownAsItself_14 (by decide) ?_
  refine go_istore (pc := 15) (lv' := [(4, .int 0), (3, .int x1), (2, .int y1), (0, .ref (AD G 0)), (1, .int x1)]) F dX8_isKnownAsItself_15 (by decide) rfl ?_
  exact go_sub [3, 2, 1, 0] rfl (lb_X8_isKnownAsItself_17 F FU_ y1 x1 0 h)
set_option maxRecDepth 100000 in
set_option maxHeartbeats 4000000 in
theorem lb_X8_lengthOf_4 {E : En} {G : Gm} (F : Fx E G (AG G) RX8 cX8_lengthOf 3 (some .int) 0 0 0 0) {V : Wd} {x0 : Int32} {z : Int32} : ∀ (n : Nat) (x1 : Int32) (x2 : Int32), f_X8_lengthOf_4 x0 n x1 x2 = some z → Go E G (AG G) 0 0 (MQq E G (some (.int z)) V) 3 V 4 [(1, .int x1), (2, .int x2)] [] := by
  intro n
  induction n with
  | zero => intro x1 x2 h; cases h
  | succ n ih =>
    intro x1 x2 h
    rw [f_X8_lengthOf_4] at h
    refine go_iloadn (pc := 4) F dX8_lengthOf_4 0 rfl ?_
    refine go_iconst (pc := 5) 4 F dX8_lengthOf_5 (by decide) ?_
    refine go_icmp_ge (pc := 6) 26 F dX8_lengthOf_6 (by decide) h (fun c3 h => ?_) (fun c3 h => ?_)
    · refine go_iloadn (pc := 26) F dX8_lengthOf_26 0 rfl ?_
      exact go_iretR (pc := 27) F dX8_lengthOf_27 h
    · refine go_iloadn (pc := 9) F dX8_lengthOf_9 1 rfl ?_
      refine go_bipush (pc := 10) 10 F dX8_lengthOf_10 (by decide) ?_
      refine go_icmp_lt (pc := 12) 26 F dX8_lengthOf_12 (by decide) h (fun c2 h => ?_) (fun c2 h => ?_)
      · refine go_iloadn (pc := 26) F dX8_lengthOf_26 0 rfl ?_
        exact go_iretR (pc := 27) F dX8_lengthOf_27 h
      · refine go_iloadn (pc := 15) F dX8_lengthOf_15 1 rfl ?_
        refine go_bipush (pc := 16) 10 F dX8_lengthOf_16 (by decide) ?_
        refine go_idiv (pc := 18) F dX8_lengthOf_18 (by decide) ?_
        refine go_topi h (fun y1 h => ?_)
        refine go_istoren (pc := 19) (lv' := [(2, .int y1), (1, .int x1)]) F dX8_lengthOf_19 (by decide) rfl ?_
        refine go_iinc (pc := 20) (x1 + 1) (lv' := [(1, .int (x1 + 1)), (2, .int y1)]) F dX8_lengthOf_20 (k := 1) rfl rfl (by decide) rfl ?_
        refine go_goto (pc := 23) 4 F dX8_lengthOf_23 (by decide) ?_
        exact go_sub [0, 1] rfl (ih (x1 + 1) y1 h)
set_option maxRecDepth 100000 in
set_option maxHeartbeats 4000000 in
theorem ct_X8_lengthOf (l : Launch) (G : Gm) (V : Wd) (x0 : Int32) (z : Int32) (h : f_X8_lengthOf x0 = some z) : Ct l G yX8_lengthOf cX8_lengthOf 3 (some .int) 0 0 [.int x0] V (some (.int z)) V := by
  refine Ct.of (own := RX8) (by decide +kernel) rfl (Nat.le_of_ble_eq_true rfl) (fun E F he => ?_)
  clear he
  refine go_sub (lv' := [(0, .int x0)]) [0] rfl ?_
  unfold f_X8_lengthOf at h
  refine go_iconst (pc := 0) 0 F dX8_lengthOf_0 (by decide) ?_
  refine go_istoren (pc := 1) (lv' := [(1, .int 0), (0, .int x0)]) F dX8_lengthOf_1 (by decide) rfl ?_
  refine go_iloadn (pc := 2) F dX8_lengthOf_2 1 rfl ?_
  refine go_istoren (pc := 3) (lv' := [(2, .int x0), (1, .int 0), (0, .int x0)]) F dX8_lengthOf_3 (by decide) rfl ?_
  exact go_sub [1, 0] rfl (lb_X8_lengthOf_4 F FU_ 0 x0 h)
set_option maxRecDepth 100000 in
set_option maxHeartbeats 4000000 in
theorem lb_X8_bestEntry_20 {E : En} {G : Gm} (F : Fx E G (AG G) RX8 cX8_bestEntry 7 (some .int) 3 71 0 0) {V : Wd} {x1 : Int32} {z : Int32} : ∀ (n : Nat) (x2 : Int32) (x3 : Int32) (x4 : Int32), f_X8_bestEntry_20 V x1 n x2 x3 x4 = some z → Go E G (AG G) 0 0 (MQq E G (some (.int z)) V) 7 V 20 [(0, .ref (AD G 0)), (1, .int x1), (2, .int x2), (3, .int x3), (4, .int x4)] [] := by
  intro n
  induction n with
  | zero => intro x2 x3 x4 h; cases h
  | succ n ih =>
    intro x2 x3 x4 h
    rw [f_X8_bestEntry_20] at h
    refine go_iload (pc := 20) F dX8_bestEntry_20 4 rfl ?_
    refine go_aloadn (pc := 22) F dX8_bestEntry_22 0 rfl ?_
    refine gf_X8_10 (pc := 23) F dX8_bestEntry_23 rfl ?_
    refine gf_X8_168 (pc := 26) F dX8_bestEntry_26 rfl ?_
    refine cv_X8_172 (pc := 29) F dX8_bestEntry_29 rfl (ct_X0_size (enL E) G 9 rfl V) (by decide) (by decide) (Nat.le_of_ble_eq_true rfl) ?_
    refine go_icmp_ge (pc := 32) 99 F dX8_bestEntry_32 (by decide) h (fun c9 h => ?_) (fun c9 h => ?_)
    · refine go_iloadn (pc := 99) F dX8_bestEntry_99 2 rfl ?_
      exact go_iretR (pc := 100) F dX8_bestEntry_100 h
    · refine go_aloadn (pc := 35) F dX8_bestEntry_35 0 rfl ?_
      refine gf_X8_10 (pc := 36) F dX8_bestEntry_36 rfl ?_
      refine gf_X8_168 (pc := 39) F dX8_bestEntry_39 rfl ?_
      refine go_iload (pc := 42) F dX8_bestEntry_42 4 rfl ?_
      obtain ⟨y2, hy2, h⟩ := ob_ h
      refine cv_X8_179 (pc := 44) F dX8_bestEntry_44 rfl (ct_X0_flagsAt (enL E) G 9 rfl V x4 y2 hy2) (by decide) (by decide) (Nat.le_of_ble_eq_true rfl) ?_
      refine go_istore (pc := 47) (lv' := [(5, .int y2), (0, .ref (AD G 0)), (1, .int x1), (2, .int x2), (3, .int x3), (4, .int x4)]) F dX8_bestEntry_47 (by decide) rfl ?_
      refine go_iload (pc := 49) F dX8_bestEntry_49 0 rfl ?_
      obtain ⟨y3, hy3, h⟩ := ob_ h
      refine cv_X8_227 (pc := 51) F dX8_bestEntry_51 (ct_X8_lengthOf (enL E) G V y2 y3 hy3) (by decide) (by decide) (Nat.le_of_ble_eq_true rfl) ?_
      refine go_istore (pc := 54) (lv' := [(6, .int y3), (5, .int y2), (0, .ref (AD G 0)), (1, .int x1), (2, .int x2), (3, .int x3), (4, .int x4)]) F dX8_bestEntry_54 (by decide) rfl ?_
      refine go_aloadn (pc := 56) F dX8_bestEntry_56 2 rfl ?_
      refine gf_X8_10 (pc := 57) F dX8_bestEntry_57 rfl ?_
      refine gf_X8_168 (pc := 60) F dX8_bestEntry_60 rfl ?_
      refine go_iload (pc := 63) F dX8_bestEntry_63 6 rfl ?_
      obtain ⟨y4, hy4, h⟩ := ob_ h
      refine cv_X8_182 (pc := 65) F dX8_bestEntry_65 rfl (ct_X0_wordAt (enL E) G 9 rfl V x4 y4 hy4) (by decide) (by decide) (Nat.le_of_ble_eq_true rfl) ?_
      refine go_iloadn (pc := 68) F dX8_bestEntry_68 3 rfl ?_
      refine go_icmp_ne (pc := 69) 93 F dX8_bestEntry_69 (by decide) h (fun c8 h => ?_) (fun c8 h => ?_)
      · refine go_iinc (pc := 93) (x4 + 1) (lv' := [(4, .int (x4 + 1)), (6, .int y3), (5, .int y2), (0, .ref (AD G 0)), (1, .int x1), (2, .int x2), (3, .int x3)]) F dX8_bestEntry_93 (k := 6) rfl rfl (by decide) rfl ?_
        refine go_goto (pc := 96) 20 F dX8_bestEntry_96 (by decide) ?_
        exact go_sub [3, 4, 5, 6, 0] rfl (ih x2 x3 (x4 + 1) h)
      · refine go_iload (pc := 72) F dX8_bestEntry_72 0 rfl ?_
        refine go_iloadn (pc := 74) F dX8_bestEntry_74 5 rfl ?_
        refine go_icmp_ge (pc := 75) 93 F dX8_bestEntry_75 (by decide) h (fun c7 h => ?_) (fun c7 h => ?_)
        · refine go_iinc (pc := 93) (x4 + 1) (lv' := [(4, .int (x4 + 1)), (6, .int y3), (5, .int y2), (0, .ref (AD G 0)), (1, .int x1), (2, .int x2), (3, .int x3)]) F dX8_bestEntry_93 (k := 6) rfl rfl (by decide) rfl ?_
          refine go_goto (pc := 96) 20 F dX8_bestEntry_96 (by decide) ?_
          exact go_sub [3, 4, 5, 6, 0] rfl (ih x2 x3 (x4 + 1) h)
        · refine go_aloadn (pc := 78) F dX8_bestEntry_78 2 rfl ?_
          refine go_iload (pc := 79) F dX8_bestEntry_79 1 rfl ?_
          obtain ⟨y5, hy5, h⟩ := ob_ h
          refine cv_X8_230 (pc := 81) F dX8_bestEntry_81 rfl (ct_X8_isKnownAsItself (enL E) G V y2 y5 hy5) (by decide) (by decide) (Nat.le_of_ble_eq_true rfl) ?_
          refine go_if_eq (pc := 84) 93 F dX8_bestEntry_84 (by decide) h (fun c6 h => ?_) (fun c6 h => ?_)
          · refine go_iinc (pc := 93) (x4 + 1) (lv' := [(4, .int (x4 + 1)), (6, .int y3), (5, .int y2), (0, .ref (AD G 0)), (1, .int x1), (2, .int x2), (3, .int x3)]) F dX8_bestEntry_93 (k := 6) rfl rfl (by decide) rfl ?_
            refine go_goto (pc := 96) 20 F dX8_bestEntry_96 (by decide) ?_
            exact go_sub [3, 4, 5, 6, 0] rfl (ih x2 x3 (x4 + 1) h)
          · refine go_iload (pc := 87) F dX8_bestEntry_87 6 rfl ?_
            refine go_istoren (pc := 89) (lv' := [(2, .int x4), (6, .int y3), (5, .int y2), (0, .ref (AD G 0)), (1, .int x1), (3, .int x3), (4, .int x4)]) F dX8_bestEntry_89 (by decide) rfl ?_
            refine go_iload (pc := 90) F dX8_bestEntry_90 1 rfl ?_
            refine go_istoren (pc := 92) (lv' := [(3, .int y3), (2, .int x4), (6, .int y3), (5, .int y2), (0, .ref (AD G 0)), (1, .int x1), (4, .int x4)]) F dX8_bestEntry_92 (by decide) rfl ?_
            refine go_iinc (pc := 93) (x4 + 1) (lv' := [(4, .int (x4 + 1)), (3, .int y3), (2, .int x4), (6, .int y3), (5, .int y2), (0, .ref (AD G 0)), (1, .int x1)]) F dX8_bestEntry_93 (k := 6) rfl rfl (by decide) rfl ?_
            refine go_goto (pc := 96) 20 F dX8_bestEntry_96 (by decide) ?_
            exact go_sub [5, 6, 2, 1, 0] rfl (ih x4 y3 (x4 + 1) h)
set_option maxRecDepth 100000 in
set_option maxHeartbeats 4000000 in
theorem ct_X8_bestEntry (l : Launch) (G : Gm) (V : Wd) (x1 : Int32) (z : Int32) (h : f_X8_bestEntry V x1 = some z) : Ct l G yX8_bestEntry cX8_bestEntry 7 (some .int) 3 71 [.ref (AD G 0), .int x1] V (some (.int z)) V := by
  refine Ct.of (own := RX8) (by decide +kernel) rfl (Nat.le_of_ble_eq_true rfl) (fun E F he => ?_)
  clear he
  refine go_sub (lv' := [(0, .ref (AD G 0)), (1, .int x1)]) [0, 1] rfl ?_
  unfold f_X8_bestEntry at h
  refine go_iloadn (pc := 0) F dX8_bestEntry_0 1 rfl ?_
  refine go_bipush (pc := 1) 100 F dX8_bestEntry_1 (by decide) ?_
  refine cv_X8_49 (pc := 3) F dX8_bestEntry_3 (ct_X8_isBelow (enL E) G V x1 100) (by decide) (by decide) (Nat.le_of_ble_eq_true rfl) ?_
  refine go_if_ne (pc := 6) 12 F dX8_bestEntry_6 (by decide) h (fun c1 h => ?_) (fun c1 h => ?_)
  · refine go_bipush (pc := 12) (-6) F dX8_bestEntry_12 (by decide) ?_
    refine go_istoren (pc := 14) (lv' := [(2, .int (-6)), (0, .ref (AD G 0)), (1, .int x1)]) F dX8_bestEntry_14 (by decide) rfl ?_
    refine go_iconst (pc := 15) 5 F dX8_bestEntry_15 (by decide) ?_
    refine go_istoren (pc := 16) (lv' := [(3, .int 5), (2, .int (-6)), (0, .ref (AD G 0)), (1, .int x1)]) F dX8_bestEntry_16 (by decide) rfl ?_
    refine go_iconst (pc := 17) 0 F dX8_bestEntry_17 (by decide) ?_
    refine go_istore (pc := 18) (lv' := [(4, .int 0), (3, .int 5), (2, .int (-6)), (0, .ref (AD G 0)), (1, .int x1)]) F dX8_bestEntry_18 (by decide) rfl ?_
    exact go_sub [3, 4, 2, 1, 0] rfl (lb_X8_bestEntry_20 F FU_ (-6) 5 0 h)
  · refine go_bipush (pc := 9) (-2) F dX8_bestEntry_9 (by decide) ?_
    exact go_iretR (pc := 11) F dX8_bestEntry_11 h

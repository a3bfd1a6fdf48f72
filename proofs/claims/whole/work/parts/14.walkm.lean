set_option maxRecDepth 100000 in
set_option maxHeartbeats 4000000 in
theorem ct_X9_isEntry (l : Launch) (G : Gm) (V : Wd) (x1 : Int32) (z : Int32) (h : f_X9_isEntry V x1 = some z) : Ct l G yX9_isEntry cX9_isEntry 2 (some .boolean) 1 22 [.ref (AD G 112), .int x1] V (some (.int z)) V := by
  refine Ct.of (own := RX9) (by decide +kernel) rfl (Nat.le_of_ble_eq_true rfl) (fun E F he => ?_)
  clear he
  refine go_sub (lv' := [(0, .ref (AD G 112)), (1, .int x1)]) [0, 1] rfl ?_
  unfold f_X9_isEntry at h
  refine go_iloadn (pc := 0) F dX9_isEntry_0 1 rfl ?_
  refine go_iconst (pc := 1) 0 F dX9_isEntry_1 (by decide) ?_
  refine go_aloadn (pc := 2) F dX9_isEntry_2 0 rfl ?_
  refine gf_X9_7 (pc := 3) F dX9_isEntry_3 rfl ?_
  refine go_iconst (pc := 6) 5 F dX9_isEntry_6 (by decide) ?_
  refine go_iald (pc := 7) 136 F dX9_isEntry_7 rfl (by decide) h (fun y1 h => ?_)
  refine go_iconst (pc := 8) 1 F dX9_isEntry_8 (by decide) ?_
  refine go_isub (pc := 9) F dX9_isEntry_9 ?_
  refine cv_X9_26 (pc := 10) F dX9_isEntry_10 (ct_X9_in (enL E) G V x1 0 (y1 - 1)) (by decide) (by decide) (Nat.le_of_ble_eq_true rfl) ?_
  refine go_gd h (fun b2 h => ?_)
  exact go_zretR (pc := 13) F dX9_isEntry_13 (isB_n b2) h
set_option maxRecDepth 100000 in
set_option maxHeartbeats 4000000 in
theorem lb_X9_strike_37 {E : En} {G : Gm} (F : Fx E G (AG G) RX9 cX9_strike 4 (some .int) 2 43 0 0) {x1 : Int32} {z : Int32 × Wd} : ∀ (n : Nat) (V : Wd) (x2 : Int32) (x3 : Int32), f_X9_strike_37 x1 n V x2 x3 = some z → Go E G (AG G) 0 0 (MQq E G (some (.int z.1)) z.2) 4 V 37 [(0, .ref (AD G 112)), (2, .int x2), (3, .int x3)] [] := by
  intro n
  induction n with
  | zero => intro V x2 x3 h; cases h
  | succ n ih =>
    intro V x2 x3 h
    rw [f_X9_strike_37] at h
    refine go_iloadn (pc := 37) F dX9_strike_37 2 rfl ?_
    refine go_bipush (pc := 38) 63 F dX9_strike_38 (by decide) ?_
    refine go_iconst (pc := 40) 2 F dX9_strike_40 (by decide) ?_
    refine go_aloadn (pc := 41) F dX9_strike_41 0 rfl ?_
    refine gf_X9_7 (pc := 42) F dX9_strike_42 rfl ?_
    refine go_iconst (pc := 45) 5 F dX9_strike_45 (by decide) ?_
    refine go_iald (pc := 46) 136 F dX9_strike_46 rfl (by decide) h (fun y8 h => ?_)
    refine go_imul (pc := 47) F dX9_strike_47 ?_
    refine go_iadd (pc := 48) F dX9_strike_48 ?_
    refine go_icmp_ge (pc := 49) 72 F dX9_strike_49 (by decide) h (fun c11 h => ?_) (fun c11 h => ?_)
    · refine go_iloadn (pc := 72) F dX9_strike_72 1 rfl ?_
      exact go_iretW (pc := 73) F dX9_strike_73 h
    · refine go_aloadn (pc := 52) F dX9_strike_52 0 rfl ?_
      refine gf_X9_7 (pc := 53) F dX9_strike_53 rfl ?_
      refine go_iloadn (pc := 56) F dX9_strike_56 2 rfl ?_
      refine go_aloadn (pc := 57) F dX9_strike_57 0 rfl ?_
      refine gf_X9_7 (pc := 58) F dX9_strike_58 rfl ?_
      refine go_iloadn (pc := 61) F dX9_strike_61 2 rfl ?_
      refine go_iconst (pc := 62) 2 F dX9_strike_62 (by decide) ?_
      refine go_iadd (pc := 63) F dX9_strike_63 ?_
      refine go_iald (pc := 64) 136 F dX9_strike_64 rfl (by decide) h (fun y9 h => ?_)
      refine go_iast (pc := 65) 136 F dX9_strike_65 rfl (by decide) h (fun V10 h => ?_)
      refine go_iinc (pc := 66) (x3 + 1) (lv' := [(3, .int (x3 + 1)), (0, .ref (AD G 112)), (2, .int x2)]) F dX9_strike_66 (k := 2) rfl rfl (by decide) rfl ?_
      refine go_goto (pc := 69) 37 F dX9_strike_69 (by decide) ?_
      exact go_sub [1, 2, 0] rfl (ih V10 x2 (x3 + 1) h)
set_option maxRecDepth 100000 in
set_option maxHeartbeats 4000000 in
theorem ct_X9_strike (l : Launch) (G : Gm) (V : Wd) (x1 : Int32) (z : Int32 × Wd) (h : f_X9_strike V x1 = some z) : Ct l G yX9_strike cX9_strike 4 (some .int) 2 43 [.ref (AD G 112), .int x1] V (some (.int z.1)) z.2 := by
  refine Ct.of (own := RX9) (by decide +kernel) rfl (Nat.le_of_ble_eq_true rfl) (fun E F he => ?_)
  clear he
  refine go_sub (lv' := [(0, .ref (AD G 112)), (1, .int x1)]) [0, 1] rfl ?_
  unfold f_X9_strike at h
  refine go_aloadn (pc := 0) F dX9_strike_0 0 rfl ?_
  refine go_iloadn (pc := 1) F dX9_strike_1 1 rfl ?_
  obtain ⟨y1, hy1, h⟩ := ob_ h
  refine cv_X9_113 (pc := 2) F dX9_strike_2 rfl (ct_X9_isEntry (enL E) G V x1 y1 hy1) (by decide) (by decide) (Nat.le_of_ble_eq_true rfl) ?_
  refine go_if_ne (pc := 5) 10 F dX9_strike_5 (by decide) h (fun c7 h => ?_) (fun c7 h => ?_)
  · refine go_aloadn (pc := 10) F dX9_strike_10 0 rfl ?_
    obtain ⟨V2, hV2, h⟩ := ob_ h
    refine cv_X9_57 (pc := 11) F dX9_strike_11 rfl (ct_X9_recordAndDown (enL E) G V V2 hV2) (by decide) (by decide) (Nat.le_of_ble_eq_true rfl) ?_
    refine go_aloadn (pc := 14) F dX9_strike_14 0 rfl ?_
    refine go_iloadn (pc := 15) F dX9_strike_15 1 rfl ?_
    obtain ⟨y3, hy3, h⟩ := ob_ h
    refine cv_X9_116 (pc := 16) F dX9_strike_16 rfl (ct_X9_wordOf (enL E) G V2 x1 y3 hy3) (by decide) (by decide) (Nat.le_of_ble_eq_true rfl) ?_
    refine go_istoren (pc := 19) (lv' := [(2, .int y3), (0, .ref (AD G 112)), (1, .int x1)]) F dX9_strike_19 (by decide) rfl ?_
    refine go_aloadn (pc := 20) F dX9_strike_20 1 rfl ?_
    refine gf_X9_7 (pc := 21) F dX9_strike_21 rfl ?_
    refine go_iconst (pc := 24) 5 F dX9_strike_24 (by decide) ?_
    refine go_dup2 (pc := 25) F dX9_strike_25 rfl rfl ?_
    refine go_iald (pc := 26) 136 F dX9_strike_26 rfl (by decide) h (fun y4 h => ?_)
    refine go_iconst (pc := 27) 1 F dX9_strike_27 (by decide) ?_
    refine go_isub (pc := 28) F dX9_strike_28 ?_
    refine go_iast (pc := 29) 136 F dX9_strike_29 rfl (by decide) h (fun V5 h => ?_)
    refine go_bipush (pc := 30) 63 F dX9_strike_30 (by decide) ?_
    refine go_iconst (pc := 32) 2 F dX9_strike_32 (by decide) ?_
    refine go_iloadn (pc := 33) F dX9_strike_33 2 rfl ?_
    refine go_imul (pc := 34) F dX9_strike_34 ?_
    refine go_iadd (pc := 35) F dX9_strike_35 ?_
    refine go_topi h (fun y6 h => ?_)
    refine go_istoren (pc := 36) (lv' := [(3, .int y6), (2, .int y3), (0, .ref (AD G 112)), (1, .int x1)]) F dX9_strike_36 (by decide) rfl ?_
    exact go_sub [2, 1, 0] rfl (lb_X9_strike_37 F FU_ V5 y3 y6 h)
  · refine go_iconst (pc := 8) (-1) F dX9_strike_8 (by decide) ?_
    exact go_iretW (pc := 9) F dX9_strike_9 h
set_option maxRecDepth 100000 in
set_option maxHeartbeats 4000000 in
theorem ct_X9_entry (l : Launch) (G : Gm) (V : Wd) (x1 : Int32) (x2 : Int32) (z : Int32) (h : f_X9_entry V x1 x2 = some z) : Ct l G yX9_entry cX9_entry 3 (some .int) 2 43 [.ref (AD G 112), .int x1, .int x2] V (some (.int z)) V := by
  refine Ct.of (own := RX9) (by decide +kernel) rfl (Nat.le_of_ble_eq_true rfl) (fun E F he => ?_)
  clear he
  refine go_sub (lv' := [(0, .ref (AD G 112)), (1, .int x1), (2, .int x2)]) [0, 1, 2] rfl ?_
  unfold f_X9_entry at h
  refine go_aloadn (pc := 0) F dX9_entry_0 0 rfl ?_
  refine go_iloadn (pc := 1) F dX9_entry_1 1 rfl ?_
  obtain ⟨y1, hy1, h⟩ := ob_ h
  refine cv_X9_113 (pc := 2) F dX9_entry_2 rfl (ct_X9_isEntry (enL E) G V x1 y1 hy1) (by decide) (by decide) (Nat.le_of_ble_eq_true rfl) ?_
  refine go_if_ne (pc := 5) 10 F dX9_entry_5 (by decide) h (fun c6 h => ?_) (fun c6 h => ?_)
  · refine go_iloadn (pc := 10) F dX9_entry_10 2 rfl ?_
    refine go_if_ne (pc := 11) 22 F dX9_entry_11 (by decide) h (fun c5 h => ?_) (fun c5 h => ?_)
    · refine go_iloadn (pc := 22) F dX9_entry_22 2 rfl ?_
      refine go_iconst (pc := 23) 1 F dX9_entry_23 (by decide) ?_
      refine go_icmp_ne (pc := 24) 35 F dX9_entry_24 (by decide) h (fun c3 h => ?_) (fun c3 h => ?_)
      · refine go_bipush (pc := 35) (-2) F dX9_entry_35 (by decide) ?_
        exact go_iretR (pc := 37) F dX9_entry_37 h
      · refine go_aloadn (pc := 27) F dX9_entry_27 0 rfl ?_
        refine go_iloadn (pc := 28) F dX9_entry_28 1 rfl ?_
        obtain ⟨y2, hy2, h⟩ := ob_ h
        refine cv_X9_116 (pc := 29) F dX9_entry_29 rfl (ct_X9_wordOf (enL E) G V x1 y2 hy2) (by decide) (by decide) (Nat.le_of_ble_eq_true rfl) ?_
        refine go_goto (pc := 32) 37 F dX9_entry_32 (by decide) ?_
        exact go_iretR (pc := 37) F dX9_entry_37 h
    · refine go_aloadn (pc := 14) F dX9_entry_14 0 rfl ?_
      refine go_iloadn (pc := 15) F dX9_entry_15 1 rfl ?_
      obtain ⟨y4, hy4, h⟩ := ob_ h
      refine cv_X9_119 (pc := 16) F dX9_entry_16 rfl (ct_X9_codeOf (enL E) G V x1 y4 hy4) (by decide) (by decide) (Nat.le_of_ble_eq_true rfl) ?_
      refine go_goto (pc := 19) 37 F dX9_entry_19 (by decide) ?_
      exact go_iretR (pc := 37) F dX9_entry_37 h
  · refine go_iconst (pc := 8) (-1) F dX9_entry_8 (by decide) ?_
    exact go_iretR (pc := 9) F dX9_entry_9 h
set_option maxRecDepth 100000 in
set_option maxHeartbeats 4000000 in
theorem ct_X9_seen (l : Launch) (G : Gm) (V : Wd) (x1 : Int32) (x2 : Int32) (x3 : Int32) (z : Int32) (h : f_X9_seen V x1 x2 x3 = some z) : Ct l G yX9_seen cX9_seen 4 (some .int) 3 69 [.ref (AD G 112), .int x1, .int x2, .int x3] V (some (.int z)) V := by
  refine Ct.of (own := RX9) (by decide +kernel) rfl (Nat.le_of_ble_eq_true rfl) (fun E F he => ?_)
  clear he
  refine go_sub (lv' := [(0, .ref (AD G 112)), (1, .int x1), (2, .int x2), (3, .int x3)]) [0, 1, 2, 3] rfl ?_
  unfold f_X9_seen at h
  refine go_iloadn (pc := 0) F dX9_seen_0 1 rfl ?_
  refine cv_X9_69 (pc := 1) F dX9_seen_1 (ct_X9_isSide (enL E) G V x1) (by decide) (by decide) (Nat.le_of_ble_eq_true rfl) ?_
  refine go_if_ne (pc := 4) 10 F dX9_seen_4 (by decide) h (fun c5 h => ?_) (fun c5 h => ?_)
  · refine go_aloadn (pc := 10) F dX9_seen_10 0 rfl ?_
    refine go_iloadn (pc := 11) F dX9_seen_11 2 rfl ?_
    refine go_iloadn (pc := 12) F dX9_seen_12 3 rfl ?_
    obtain ⟨y1, hy1, h⟩ := ob_ h
    refine cv_X9_100 (pc := 13) F dX9_seen_13 rfl (ct_X9_isPlace (enL E) G V x2 x3 y1 hy1) (by decide) (by decide) (Nat.le_of_ble_eq_true rfl) ?_
    refine go_if_eq (pc := 16) 33 F dX9_seen_16 (by decide) h (fun c4 h => ?_) (fun c4 h => ?_)
    · refine go_iconst (pc := 33) (-1) F dX9_seen_33 (by decide) ?_
      exact go_iretR (pc := 34) F dX9_seen_34 h
    · refine go_aloadn (pc := 19) F dX9_seen_19 0 rfl ?_
      refine go_iloadn (pc := 20) F dX9_seen_20 1 rfl ?_
      refine go_aloadn (pc := 21) F dX9_seen_21 0 rfl ?_
      refine go_iloadn (pc := 22) F dX9_seen_22 2 rfl ?_
      refine go_iloadn (pc := 23) F dX9_seen_23 3 rfl ?_
      obtain ⟨y2, hy2, h⟩ := ob_ h
      refine cv_X9_104 (pc := 24) F dX9_seen_24 rfl (ct_X9_flagOn (enL E) G V x2 x3 y2 hy2) (by decide) (by decide) (Nat.le_of_ble_eq_true rfl) ?_
      obtain ⟨y3, hy3, h⟩ := ob_ h
      refine cv_X9_122 (pc := 27) F dX9_seen_27 rfl (ct_X9_taken (enL E) G V x1 y2 y3 hy3) (by decide) (by decide) (Nat.le_of_ble_eq_true rfl) ?_
      refine go_goto (pc := 30) 34 F dX9_seen_30 (by decide) ?_
      exact go_iretR (pc := 34) F dX9_seen_34 h
  · refine go_bipush (pc := 7) (-2) F dX9_seen_7 (by decide) ?_
    exact go_iretR (pc := 9) F dX9_seen_9 h
set_option maxRecDepth 100000 in
set_option maxHeartbeats 4000000 in
theorem ct_X9_word (l : Launch) (G : Gm) (V : Wd) (x1 : Int32) (x2 : Int32) (z : Int32) (h : f_X9_word V x1 x2 = some z) : Ct l G yX9_word cX9_word 3 (some .int) 5 119 [.ref (AD G 112), .int x1, .int x2] V (some (.int z)) V := by
  refine Ct.of (own := RX9) (by decide +kernel) rfl (Nat.le_of_ble_eq_true rfl) (fun E F he => ?_)
  clear he
  refine go_sub (lv' := [(0, .ref (AD G 112)), (1, .int x1), (2, .int x2)]) [0, 1, 2] rfl ?_
  unfold f_X9_word at h
  refine go_iloadn (pc := 0) F dX9_word_0 1 rfl ?_
  refine cv_X9_69 (pc := 1) F dX9_word_1 (ct_X9_isSide (enL E) G V x1) (by decide) (by decide) (Nat.le_of_ble_eq_true rfl) ?_
  refine go_if_ne (pc := 4) 10 F dX9_word_4 (by decide) h (fun c4 h => ?_) (fun c4 h => ?_)
  · refine go_iloadn (pc := 10) F dX9_word_10 2 rfl ?_
    refine go_iconst (pc := 11) 0 F dX9_word_11 (by decide) ?_
    refine go_aloadn (pc := 12) F dX9_word_12 0 rfl ?_
    obtain ⟨y1, hy1, h⟩ := ob_ h
    refine cv_X9_88 (pc := 13) F dX9_word_13 rfl (ct_X9_hoists (enL E) G V y1 hy1) (by decide) (by decide) (Nat.le_of_ble_eq_true rfl) ?_
    refine go_iconst (pc := 16) 1 F dX9_word_16 (by decide) ?_
    refine go_isub (pc := 17) F dX9_word_17 ?_
    refine cv_X9_26 (pc := 18) F dX9_word_18 (ct_X9_in (enL E) G V x2 0 (y1 - 1)) (by decide) (by decide) (Nat.le_of_ble_eq_true rfl) ?_
    refine go_if_eq (pc := 21) 33 F dX9_word_21 (by decide) h (fun c3 h => ?_) (fun c3 h => ?_)
    · refine go_iconst (pc := 33) (-1) F dX9_word_33 (by decide) ?_
      exact go_iretR (pc := 34) F dX9_word_34 h
    · refine go_aloadn (pc := 24) F dX9_word_24 0 rfl ?_
      refine go_iloadn (pc := 25) F dX9_word_25 1 rfl ?_
      refine go_iloadn (pc := 26) F dX9_word_26 2 rfl ?_
      obtain ⟨y2, hy2, h⟩ := ob_ h
      refine cv_X9_91 (pc := 27) F dX9_word_27 rfl (ct_X9_wordAt (enL E) G V x1 x2 y2 hy2) (by decide) (by decide) (Nat.le_of_ble_eq_true rfl) ?_
      refine go_goto (pc := 30) 34 F dX9_word_30 (by decide) ?_
      exact go_iretR (pc := 34) F dX9_word_34 h
  · refine go_bipush (pc := 7) (-2) F dX9_word_7 (by decide) ?_
    exact go_iretR (pc := 9) F dX9_word_9 h
set_option maxRecDepth 100000 in
set_option maxHeartbeats 4000000 in
theorem lb_X9_knownBy_4 {E : En} {G : Gm} (F : Fx E G (AG G) RX9 cX9_knownBy 4 (some .int) 4 94 0 0) {V : Wd} {x1 : Int32} {z : Int32} : ∀ (n : Nat) (x2 : Int32) (x3 : Int32), f_X9_knownBy_4 V x1 n x2 x3 = some z → Go E G (AG G) 0 0 (MQq E G (some (.int z)) V) 4 V 4 [(0, .ref (AD G 112)), (1, .int x1), (2, .int x2), (3, .int x3)] [] := by
  intro n
  induction n with
  | zero => intro x2 x3 h; cases h
  | succ n ih =>
    intro x2 x3 h
    rw [f_X9_knownBy_4] at h
    refine go_iloadn (pc := 4) F dX9_knownBy_4 3 rfl ?_
    refine go_iconst (pc := 5) 5 F dX9_knownBy_5 (by decide) ?_
    refine go_icmp_ge (pc := 6) 42 F dX9_knownBy_6 (by decide) h (fun c8 h => ?_) (fun c8 h => ?_)
    · refine go_iloadn (pc := 42) F dX9_knownBy_42 2 rfl ?_
      exact go_iretR (pc := 43) F dX9_knownBy_43 h
    · refine go_iloadn (pc := 9) F dX9_knownBy_9 2 rfl ?_
      refine go_aloadn (pc := 10) F dX9_knownBy_10 0 rfl ?_
      refine go_iloadn (pc := 11) F dX9_knownBy_11 3 rfl ?_
      obtain ⟨y1, hy1, h⟩ := ob_ h
      refine cv_X9_37 (pc := 12) F dX9_knownBy_12 rfl (ct_X9_many (enL E) G V x3 y1 hy1) (by decide) (by decide) (Nat.le_of_ble_eq_true rfl) ?_
      refine go_if_le (pc := 15) 33 F dX9_knownBy_15 (by decide) h (fun c7 h => ?_) (fun c7 h => ?_)
      · refine go_iconst (pc := 33) 0 F dX9_knownBy_33 (by decide) ?_
        refine go_iadd (pc := 34) F dX9_knownBy_34 ?_
        refine go_topi h (fun y2 h => ?_)
        refine go_istoren (pc := 35) (lv' := [(2, .int y2), (0, .ref (AD G 112)), (1, .int x1), (3, .int x3)]) F dX9_knownBy_35 (by decide) rfl ?_
        refine go_iinc (pc := 36) (x3 + 1) (lv' := [(3, .int (x3 + 1)), (2, .int y2), (0, .ref (AD G 112)), (1, .int x1)]) F dX9_knownBy_36 (k := 3) rfl rfl (by decide) rfl ?_
        refine go_goto (pc := 39) 4 F dX9_knownBy_39 (by decide) ?_
        exact go_sub [2, 3, 1, 0] rfl (ih y2 (x3 + 1) h)
      · refine go_aloadn (pc := 18) F dX9_knownBy_18 0 rfl ?_
        refine go_iloadn (pc := 19) F dX9_knownBy_19 1 rfl ?_
        refine go_iloadn (pc := 20) F dX9_knownBy_20 3 rfl ?_
        obtain ⟨y3, hy3, h⟩ := ob_ h
        refine cv_X9_125 (pc := 21) F dX9_knownBy_21 rfl (ct_X9_read (enL E) G V x1 x3 y3 hy3) (by decide) (by decide) (Nat.le_of_ble_eq_true rfl) ?_
        refine go_bipush (pc := 24) (-6) F dX9_knownBy_24 (by decide) ?_
        refine go_icmp_eq (pc := 26) 33 F dX9_knownBy_26 (by decide) h (fun c6 h => ?_) (fun c6 h => ?_)
        · refine go_iconst (pc := 33) 0 F dX9_knownBy_33 (by decide) ?_
          refine go_iadd (pc := 34) F dX9_knownBy_34 ?_
          refine go_topi h (fun y4 h => ?_)
          refine go_istoren (pc := 35) (lv' := [(2, .int y4), (0, .ref (AD G 112)), (1, .int x1), (3, .int x3)]) F dX9_knownBy_35 (by decide) rfl ?_
          refine go_iinc (pc := 36) (x3 + 1) (lv' := [(3, .int (x3 + 1)), (2, .int y4), (0, .ref (AD G 112)), (1, .int x1)]) F dX9_knownBy_36 (k := 3) rfl rfl (by decide) rfl ?_
          refine go_goto (pc := 39) 4 F dX9_knownBy_39 (by decide) ?_
          exact go_sub [2, 3, 1, 0] rfl (ih y4 (x3 + 1) h)
        · refine go_iconst (pc := 29) 1 F dX9_knownBy_29 (by decide) ?_
          refine go_goto (pc := 30) 34 F dX9_knownBy_30 (by decide) ?_
          refine go_iadd (pc := 34) F dX9_knownBy_34 ?_
          refine go_topi h (fun y5 h => ?_)
          refine go_istoren (pc := 35) (lv' := [(2, .int y5), (0, .ref (AD G 112)), (1, .int x1), (3, .int x3)]) F dX9_knownBy_35 (by decide) rfl ?_
          refine go_iinc (pc := 36) (x3 + 1) (lv' := [(3, .int (x3 + 1)), (2, .int y5), (0, .ref (AD G 112)), (1, .int x1)]) F dX9_knownBy_36 (k := 3) rfl rfl (by decide) rfl ?_
          refine go_goto (pc := 39) 4 F dX9_knownBy_39 (by decide) ?_
          exact go_sub [2, 3, 1, 0] rfl (ih y5 (x3 + 1) h)
set_option maxRecDepth 100000 in
set_option maxHeartbeats 4000000 in
theorem ct_X9_knownBy (l : Launch) (G : Gm) (V : Wd) (x1 : Int32) (z : Int32) (h : f_X9_knownBy V x1 = some z) : Ct l G yX9_knownBy cX9_knownBy 4 (some .int) 4 94 [.ref (AD G 112), .int x1] V (some (.int z)) V := by
  refine Ct.of (own := RX9) (by decide +kernel) rfl (Nat.le_of_ble_eq_true rfl) (fun E F he => ?_)
  clear he
  refine go_sub (lv' := [(0, .ref (AD G 112)), (1, .int x1)]) [0, 1] rfl ?_
  unfold f_X9_knownBy at h
  refine go_iconst (pc := 0) 0 F dX9_knownBy_0 (by decide) ?_
  refine go_istoren (pc := 1) (lv' := [(2, .int 0), (0, .ref (AD G 112)), (1, .int x1)]) F dX9_knownBy_1 (by decide) rfl ?_
  refine go_iconst (pc := 2) 0 F dX9_knownBy_2 (by decide) ?_
  refine go_istoren (pc := 3) (lv' := [(3, .int 0), (2, .int 0), (0, .ref (AD G 112)), (1, .int x1)]) F dX9_knownBy_3 (by decide) rfl ?_
  exact go_sub [2, 3, 1, 0] rfl (lb_X9_knownBy_4 F FU_ 0 0 h)
set_option maxRecDepth 100000 in
set_option maxHeartbeats 4000000 in
theorem ct_X9_known (l : Launch) (G : Gm) (V : Wd) (x1 : Int32) (z : Int32) (h : f_X9_known V x1 = some z) : Ct l G yX9_known cX9_known 2 (some .int) 5 117 [.ref (AD G 112), .int x1] V (some (.int z)) V := by
  refine Ct.of (own := RX9) (by decide +kernel) rfl (Nat.le_of_ble_eq_true rfl) (fun E F he => ?_)
  clear he
  refine go_sub (lv' := [(0, .ref (AD G 112)), (1, .int x1)]) [0, 1] rfl ?_
  unfold f_X9_known at h
  refine go_iloadn (pc := 0) F dX9_known_0 1 rfl ?_
  refine cv_X9_69 (pc := 1) F dX9_known_1 (ct_X9_isSide (enL E) G V x1) (by decide) (by decide) (Nat.le_of_ble_eq_true rfl) ?_
  refine go_if_eq (pc := 4) 15 F dX9_known_4 (by decide) h (fun c2 h => ?_) (fun c2 h => ?_)
  · refine go_bipush (pc := 15) (-2) F dX9_known_15 (by decide) ?_
    exact go_iretR (pc := 17) F dX9_known_17 h
  · refine go_aloadn (pc := 7) F dX9_known_7 0 rfl ?_
    refine go_iloadn (pc := 8) F dX9_known_8 1 rfl ?_
    obtain ⟨y1, hy1, h⟩ := ob_ h
    refine cv_X9_128 (pc := 9) F dX9_known_9 rfl (ct_X9_knownBy (enL E) G V x1 y1 hy1) (by decide) (by decide) (Nat.le_of_ble_eq_true rfl) ?_
    refine go_goto (pc := 12) 17 F dX9_known_12 (by decide) ?_
    exact go_iretR (pc := 17) F dX9_known_17 h
set_option maxRecDepth 100000 in
set_option maxHeartbeats 4000000 in
theorem ct_X9_knowsAll (l : Launch) (G : Gm) (V : Wd) (x1 : Int32) (z : Int32) (h : f_X9_knowsAll V x1 = some z) : Ct l G yX9_knowsAll cX9_knowsAll 2 (some .boolean) 5 117 [.ref (AD G 112), .int x1] V (some (.int z)) V := by
  refine Ct.of (own := RX9) (by decide +kernel) rfl (Nat.le_of_ble_eq_true rfl) (fun E F he => ?_)
  clear he
  refine go_sub (lv' := [(0, .ref (AD G 112)), (1, .int x1)]) [0, 1] rfl ?_
  unfold f_X9_knowsAll at h
  refine go_aloadn (pc := 0) F dX9_knowsAll_0 0 rfl ?_
  obtain ⟨y1, hy1, h⟩ := ob_ h
  refine cv_X9_88 (pc := 1) F dX9_knowsAll_1 rfl (ct_X9_hoists (enL E) G V y1 hy1) (by decide) (by decide) (Nat.le_of_ble_eq_true rfl) ?_
  refine go_if_le (pc := 4) 23 F dX9_knowsAll_4 (by decide) h (fun c5 h => ?_) (fun c5 h => ?_)
  · refine go_iconst (pc := 23) 0 F dX9_knowsAll_23 (by decide) ?_
    exact go_zretR (pc := 24) F dX9_knowsAll_24 rfl h
  · refine go_aloadn (pc := 7) F dX9_knowsAll_7 0 rfl ?_
    refine go_iloadn (pc := 8) F dX9_knowsAll_8 1 rfl ?_
    obtain ⟨y2, hy2, h⟩ := ob_ h
    refine cv_X9_128 (pc := 9) F dX9_knowsAll_9 rfl (ct_X9_knownBy (enL E) G V x1 y2 hy2) (by decide) (by decide) (Nat.le_of_ble_eq_true rfl) ?_
    refine go_aloadn (pc := 12) F dX9_knowsAll_12 0 rfl ?_
    obtain ⟨y3, hy3, h⟩ := ob_ h
    refine cv_X9_88 (pc := 13) F dX9_knowsAll_13 rfl (ct_X9_hoists (enL E) G V y3 hy3) (by decide) (by decide) (Nat.le_of_ble_eq_true rfl) ?_
    refine go_icmp_ne (pc := 16) 23 F dX9_knowsAll_16 (by decide) h (fun c4 h => ?_) (fun c4 h => ?_)
    · refine go_iconst (pc := 23) 0 F dX9_knowsAll_23 (by decide) ?_
      exact go_zretR (pc := 24) F dX9_knowsAll_24 rfl h
    · refine go_iconst (pc := 19) 1 F dX9_knowsAll_19 (by decide) ?_
      refine go_goto (pc := 20) 24 F dX9_knowsAll_20 (by decide) ?_
      exact go_zretR (pc := 24) F dX9_knowsAll_24 rfl h
set_option maxRecDepth 100000 in
set_option maxHeartbeats 4000000 in
theorem lb_X9_isSame_24 {E : En} {G : Gm} (F : Fx E G (AG G) RX9 cX9_isSame 3 (some .int) 6 138 0 0) {V : Wd} {z : Int32} : ∀ (n : Nat) (x1 : Int32) (x2 : Int32), f_X9_isSame_24 V n x1 x2 = some z → Go E G (AG G) 0 0 (MQq E G (some (.int z)) V) 3 V 24 [(0, .ref (AD G 112)), (1, .int x1), (2, .int x2)] [] := by
  intro n
  induction n with
  | zero => intro x1 x2 h; cases h
  | succ n ih =>
    intro x1 x2 h
    rw [f_X9_isSame_24] at h
    refine go_iloadn (pc := 24) F dX9_isSame_24 2 rfl ?_
    refine go_aloadn (pc := 25) F dX9_isSame_25 0 rfl ?_
    obtain ⟨y5, hy5, h⟩ := ob_ h
    refine cv_X9_88 (pc := 26) F dX9_isSame_26 rfl (ct_X9_hoists (enL E) G V y5 hy5) (by decide) (by decide) (Nat.le_of_ble_eq_true rfl) ?_
    refine go_icmp_ge (pc := 29) 63 F dX9_isSame_29 (by decide) h (fun c11 h => ?_) (fun c11 h => ?_)
    · refine go_iloadn (pc := 63) F dX9_isSame_63 1 rfl ?_
      refine go_if_eq (pc := 64) 71 F dX9_isSame_64 (by decide) h (fun c6 h => ?_) (fun c6 h => ?_)
      · refine go_iconst (pc := 71) 0 F dX9_isSame_71 (by decide) ?_
        exact go_iretR (pc := 72) F dX9_isSame_72 h
      · refine go_iconst (pc := 67) 1 F dX9_isSame_67 (by decide) ?_
        refine go_goto (pc := 68) 72 F dX9_isSame_68 (by decide) ?_
        exact go_iretR (pc := 72) F dX9_isSame_72 h
    · refine go_iloadn (pc := 32) F dX9_isSame_32 1 rfl ?_
      refine go_if_eq (pc := 33) 55 F dX9_isSame_33 (by decide) h (fun c10 h => ?_) (fun c10 h => ?_)
      · refine go_iconst (pc := 55) 0 F dX9_isSame_55 (by decide) ?_
        refine go_istoren (pc := 56) (lv' := [(1, .int 0), (0, .ref (AD G 112)), (2, .int x2)]) F dX9_isSame_56 (by decide) rfl ?_
        refine go_iinc (pc := 57) (x2 + 1) (lv' := [(2, .int (x2 + 1)), (1, .int 0), (0, .ref (AD G 112))]) F dX9_isSame_57 (k := 2) rfl rfl (by decide) rfl ?_
        refine go_goto (pc := 60) 24 F dX9_isSame_60 (by decide) ?_
        exact go_sub [2, 1, 0] rfl (ih 0 (x2 + 1) h)
      · refine go_aloadn (pc := 36) F dX9_isSame_36 0 rfl ?_
        refine go_iconst (pc := 37) 0 F dX9_isSame_37 (by decide) ?_
        refine go_iloadn (pc := 38) F dX9_isSame_38 2 rfl ?_
        obtain ⟨y7, hy7, h⟩ := ob_ h
        refine cv_X9_91 (pc := 39) F dX9_isSame_39 rfl (ct_X9_wordAt (enL E) G V 0 x2 y7 hy7) (by decide) (by decide) (Nat.le_of_ble_eq_true rfl) ?_
        refine go_aloadn (pc := 42) F dX9_isSame_42 0 rfl ?_
        refine go_iconst (pc := 43) 1 F dX9_isSame_43 (by decide) ?_
        refine go_iloadn (pc := 44) F dX9_isSame_44 2 rfl ?_
        obtain ⟨y8, hy8, h⟩ := ob_ h
        refine cv_X9_91 (pc := 45) F dX9_isSame_45 rfl (ct_X9_wordAt (enL E) G V 1 x2 y8 hy8) (by decide) (by decide) (Nat.le_of_ble_eq_true rfl) ?_
        refine go_icmp_ne (pc := 48) 55 F dX9_isSame_48 (by decide) h (fun c9 h => ?_) (fun c9 h => ?_)
        · refine go_iconst (pc := 55) 0 F dX9_isSame_55 (by decide) ?_
          refine go_istoren (pc := 56) (lv' := [(1, .int 0), (0, .ref (AD G 112)), (2, .int x2)]) F dX9_isSame_56 (by decide) rfl ?_
          refine go_iinc (pc := 57) (x2 + 1) (lv' := [(2, .int (x2 + 1)), (1, .int 0), (0, .ref (AD G 112))]) F dX9_isSame_57 (k := 2) rfl rfl (by decide) rfl ?_
          refine go_goto (pc := 60) 24 F dX9_isSame_60 (by decide) ?_
          exact go_sub [2, 1, 0] rfl (ih 0 (x2 + 1) h)
        · refine go_iconst (pc := 51) 1 F dX9_isSame_51 (by decide) ?_
          refine go_goto (pc := 52) 56 F dX9_isSame_52 (by decide) ?_
          refine go_istoren (pc := 56) (lv' := [(1, .int 1), (0, .ref (AD G 112)), (2, .int x2)]) F dX9_isSame_56 (by decide) rfl ?_
          refine go_iinc (pc := 57) (x2 + 1) (lv' := [(2, .int (x2 + 1)), (1, .int 1), (0, .ref (AD G 112))]) F dX9_isSame_57 (k := 2) rfl rfl (by decide) rfl ?_
          refine go_goto (pc := 60) 24 F dX9_isSame_60 (by decide) ?_
          exact go_sub [2, 1, 0] rfl (ih 1 (x2 + 1) h)
set_option maxRecDepth 100000 in
set_option maxHeartbeats 4000000 in
theorem ct_X9_isSame (l : Launch) (G : Gm) (V : Wd) (z : Int32) (h : f_X9_isSame V = some z) : Ct l G yX9_isSame cX9_isSame 3 (some .int) 6 138 [.ref (AD G 112)] V (some (.int z)) V := by
  refine Ct.of (own := RX9) (by decide +kernel) rfl (Nat.le_of_ble_eq_true rfl) (fun E F he => ?_)
  clear he
  refine go_sub (lv' := [(0, .ref (AD G 112))]) [0] rfl ?_
  unfold f_X9_isSame at h
  refine go_aloadn (pc := 0) F dX9_isSame_0 0 rfl ?_
  refine go_iconst (pc := 1) 0 F dX9_isSame_1 (by decide) ?_
  obtain ⟨y1, hy1, h⟩ := ob_ h
  refine cv_X9_131 (pc := 2) F dX9_isSame_2 rfl (ct_X9_knowsAll (enL E) G V 0 y1 hy1) (by decide) (by decide) (Nat.le_of_ble_eq_true rfl) ?_
  refine go_if_eq (pc := 5) 20 F dX9_isSame_5 (by decide) h (fun c4 h => ?_) (fun c4 h => ?_)
  · refine go_iconst (pc := 20) 0 F dX9_isSame_20 (by decide) ?_
    refine go_istoren (pc := 21) (lv' := [(1, .int 0), (0, .ref (AD G 112))]) F dX9_isSame_21 (by decide) rfl ?_
    refine go_iconst (pc := 22) 0 F dX9_isSame_22 (by decide) ?_
    refine go_istoren (pc := 23) (lv' := [(2, .int 0), (1, .int 0), (0, .ref (AD G 112))]) F dX9_isSame_23 (by decide) rfl ?_
    exact go_sub [2, 1, 0] rfl (lb_X9_isSame_24 F FU_ 0 0 h)
  · refine go_aloadn (pc := 8) F dX9_isSame_8 0 rfl ?_
    refine go_iconst (pc := 9) 1 F dX9_isSame_9 (by decide) ?_
    obtain ⟨y2, hy2, h⟩ := ob_ h
    refine cv_X9_131 (pc := 10) F dX9_isSame_10 rfl (ct_X9_knowsAll (enL E) G V 1 y2 hy2) (by decide) (by decide) (Nat.le_of_ble_eq_true rfl) ?_
    refine go_if_eq (pc := 13) 20 F dX9_isSame_13 (by decide) h (fun c3 h => ?_) (fun c3 h => ?_)
    · refine go_iconst (pc := 20) 0 F dX9_isSame_20 (by decide) ?_
      refine go_istoren (pc := 21) (lv' := [(1, .int 0), (0, .ref (AD G 112))]) F dX9_isSame_21 (by decide) rfl ?_
      refine go_iconst (pc := 22) 0 F dX9_isSame_22 (by decide) ?_
      refine go_istoren (pc := 23) (lv' := [(2, .int 0), (1, .int 0), (0, .ref (AD G 112))]) F dX9_isSame_23 (by decide) rfl ?_
      exact go_sub [2, 1, 0] rfl (lb_X9_isSame_24 F FU_ 0 0 h)
    · refine go_iconst (pc := 16) 1 F dX9_isSame_16 (by decide) ?_
      refine go_goto (pc := 17) 21 F dX9_isSame_17 (by decide) ?_
      refine go_istoren (pc := 21) (lv' := [(1, .int 1), (0, .ref (AD G 112))]) F dX9_isSame_21 (by decide) rfl ?_
      refine go_iconst (pc := 22) 0 F dX9_isSame_22 (by decide) ?_
      refine go_istoren (pc := 23) (lv' := [(2, .int 0), (1, .int 1), (0, .ref (AD G 112))]) F dX9_isSame_23 (by decide) rfl ?_
      exact go_sub [2, 1, 0] rfl (lb_X9_isSame_24 F FU_ 1 0 h)
set_option maxRecDepth 100000 in
set_option maxHeartbeats 4000000 in
theorem ct_X9_sail (l : Launch) (G : Gm) (V : Wd) (x1 : Int32) (z : Int32 × Wd) (h : f_X9_sail V x1 = some z) : Ct l G yX9_sail cX9_sail 3 (some .int) 2 42 [.ref (AD G 112), .int x1] V (some (.int z.1)) z.2 := by
  refine Ct.of (own := RX9) (by decide +kernel) rfl (Nat.le_of_ble_eq_true rfl) (fun E F he => ?_)
  clear he
  refine go_sub (lv' := [(0, .ref (AD G 112)), (1, .int x1)]) [0, 1] rfl ?_
  unfold f_X9_sail at h
  refine go_iloadn (pc := 0) F dX9_sail_0 1 rfl ?_
  refine cv_X9_69 (pc := 1) F dX9_sail_1 (ct_X9_isSide (enL E) G V x1) (by decide) (by decide) (Nat.le_of_ble_eq_true rfl) ?_
  refine go_if_ne (pc := 4) 10 F dX9_sail_4 (by decide) h (fun c4 h => ?_) (fun c4 h => ?_)
  · refine go_aloadn (pc := 10) F dX9_sail_10 0 rfl ?_
    obtain ⟨V1, hV1, h⟩ := ob_ h
    refine cv_X9_57 (pc := 11) F dX9_sail_11 rfl (ct_X9_recordAndDown (enL E) G V V1 hV1) (by decide) (by decide) (Nat.le_of_ble_eq_true rfl) ?_
    refine go_aloadn (pc := 14) F dX9_sail_14 0 rfl ?_
    refine gf_X9_7 (pc := 15) F dX9_sail_15 rfl ?_
    refine go_iconst (pc := 18) 3 F dX9_sail_18 (by decide) ?_
    refine go_iald (pc := 19) 136 F dX9_sail_19 rfl (by decide) h (fun y2 h => ?_)
    refine go_istoren (pc := 20) (lv' := [(2, .int y2), (0, .ref (AD G 112)), (1, .int x1)]) F dX9_sail_20 (by decide) rfl ?_
    refine go_aloadn (pc := 21) F dX9_sail_21 1 rfl ?_
    refine gf_X9_7 (pc := 22) F dX9_sail_22 rfl ?_
    refine go_iconst (pc := 25) 3 F dX9_sail_25 (by decide) ?_
    refine go_iloadn (pc := 26) F dX9_sail_26 2 rfl ?_
    refine go_iast (pc := 27) 136 F dX9_sail_27 rfl (by decide) h (fun V3 h => ?_)
    refine go_iloadn (pc := 28) F dX9_sail_28 0 rfl ?_
    exact go_iretW (pc := 29) F dX9_sail_29 h
  · refine go_bipush (pc := 7) (-2) F dX9_sail_7 (by decide) ?_
    exact go_iretW (pc := 9) F dX9_sail_9 h
set_option maxRecDepth 100000 in
set_option maxHeartbeats 4000000 in
theorem lb_X9_answer_43 {E : En} {G : Gm} (F : Fx E G (AG G) RX9 cX9_answer 1 (some .int) 6 138 0 0) {z : Int32 × Wd} (V : Wd) (h : f_X9_answer_43 V = some z) : Go E G (AG G) 0 0 (MQq E G (some (.int z.1)) z.2) 1 V 43 [(0, .ref (AD G 112))] [] := by
  unfold f_X9_answer_43 at h
  refine go_aloadn (pc := 43) F dX9_answer_43 0 rfl ?_
  obtain ⟨V10, hV10, h⟩ := ob_ h
  refine cv_X9_34 (pc := 44) F dX9_answer_44 rfl (ct_X9_record (enL E) G V V10 hV10) (by decide) (by decide) (Nat.le_of_ble_eq_true rfl) ?_
  refine go_aloadn (pc := 47) F dX9_answer_47 0 rfl ?_
  refine gf_X9_7 (pc := 48) F dX9_answer_48 rfl ?_
  refine go_iconst (pc := 51) 4 F dX9_answer_51 (by decide) ?_
  refine go_dup2 (pc := 52) F dX9_answer_52 rfl rfl ?_
  refine go_iald (pc := 53) 136 F dX9_answer_53 rfl (by decide) h (fun y11 h => ?_)
  refine go_iconst (pc := 54) 1 F dX9_answer_54 (by decide) ?_
  refine go_iadd (pc := 55) F dX9_answer_55 ?_
  refine go_iast (pc := 56) 136 F dX9_answer_56 rfl (by decide) h (fun V12 h => ?_)
  refine go_aloadn (pc := 57) F dX9_answer_57 0 rfl ?_
  refine gf_X9_7 (pc := 58) F dX9_answer_58 rfl ?_
  refine go_iconst (pc := 61) 4 F dX9_answer_61 (by decide) ?_
  refine go_iald (pc := 62) 136 F dX9_answer_62 rfl (by decide) h (fun y13 h => ?_)
  exact go_iretW (pc := 63) F dX9_answer_63 h
set_option maxRecDepth 100000 in
set_option maxHeartbeats 4000000 in
theorem ct_X9_answer (l : Launch) (G : Gm) (V : Wd) (z : Int32 × Wd) (h : f_X9_answer V = some z) : Ct l G yX9_answer cX9_answer 1 (some .int) 6 138 [.ref (AD G 112)] V (some (.int z.1)) z.2 := by
  refine Ct.of (own := RX9) (by decide +kernel) rfl (Nat.le_of_ble_eq_true rfl) (fun E F he => ?_)
  clear he
  refine go_sub (lv' := [(0, .ref (AD G 112))]) [0] rfl ?_
  unfold f_X9_answer at h
  refine go_aloadn (pc := 0) F dX9_answer_0 0 rfl ?_
  obtain ⟨y1, hy1, h⟩ := ob_ h
  refine cv_X9_88 (pc := 1) F dX9_answer_1 rfl (ct_X9_hoists (enL E) G V y1 hy1) (by decide) (by decide) (Nat.le_of_ble_eq_true rfl) ?_
  refine go_if_eq (pc := 4) 40 F dX9_answer_4 (by decide) h (fun c9 h => ?_) (fun c9 h => ?_)
  · refine go_bipush (pc := 40) (-3) F dX9_answer_40 (by decide) ?_
    exact go_iretW (pc := 42) F dX9_answer_42 h
  · refine go_aloadn (pc := 7) F dX9_answer_7 0 rfl ?_
    refine gf_X9_7 (pc := 8) F dX9_answer_8 rfl ?_
    refine go_iconst (pc := 11) 4 F dX9_answer_11 (by decide) ?_
    refine go_iald (pc := 12) 136 F dX9_answer_12 rfl (by decide) h (fun y2 h => ?_)
    refine go_iconst (pc := 13) 2 F dX9_answer_13 (by decide) ?_
    refine go_icmp_eq (pc := 14) 40 F dX9_answer_14 (by decide) h (fun c8 h => ?_) (fun c8 h => ?_)
    · refine go_bipush (pc := 40) (-3) F dX9_answer_40 (by decide) ?_
      exact go_iretW (pc := 42) F dX9_answer_42 h
    · refine go_aloadn (pc := 17) F dX9_answer_17 0 rfl ?_
      refine gf_X9_7 (pc := 18) F dX9_answer_18 rfl ?_
      refine go_iconst (pc := 21) 4 F dX9_answer_21 (by decide) ?_
      refine go_iald (pc := 22) 136 F dX9_answer_22 rfl (by decide) h (fun y3 h => ?_)
      refine go_iconst (pc := 23) 1 F dX9_answer_23 (by decide) ?_
      refine go_icmp_ne (pc := 24) 43 F dX9_answer_24 (by decide) h (fun c7 h => ?_) (fun c7 h => ?_)
      · exact go_sub [0] rfl (lb_X9_answer_43 F V h)
      · refine go_aloadn (pc := 27) F dX9_answer_27 0 rfl ?_
        refine go_aloadn (pc := 28) F dX9_answer_28 0 rfl ?_
        refine gf_X9_7 (pc := 29) F dX9_answer_29 rfl ?_
        refine go_iconst (pc := 32) 3 F dX9_answer_32 (by decide) ?_
        refine go_iald (pc := 33) 136 F dX9_answer_33 rfl (by decide) h (fun y4 h => ?_)
        obtain ⟨y5, hy5, h⟩ := ob_ h
        refine cv_X9_131 (pc := 34) F dX9_answer_34 rfl (ct_X9_knowsAll (enL E) G V y4 y5 hy5) (by decide) (by decide) (Nat.le_of_ble_eq_true rfl) ?_
        refine go_if_ne (pc := 37) 43 F dX9_answer_37 (by decide) h (fun c6 h => ?_) (fun c6 h => ?_)
        · exact go_sub [0] rfl (lb_X9_answer_43 F V h)
        · refine go_bipush (pc := 40) (-3) F dX9_answer_40 (by decide) ?_
          exact go_iretW (pc := 42) F dX9_answer_42 h
set_option maxRecDepth 100000 in
set_option maxHeartbeats 4000000 in
theorem ct_X9_logged (l : Launch) (G : Gm) (V : Wd) (x1 : Int32) (x2 : Int32) (z : Int32) (h : f_X9_logged V x1 x2 = some z) : Ct l G yX9_logged cX9_logged 4 (some .int) 1 22 [.ref (AD G 112), .int x1, .int x2] V (some (.int z)) V := by
  refine Ct.of (own := RX9) (by decide +kernel) rfl (Nat.le_of_ble_eq_true rfl) (fun E F he => ?_)
  clear he
  refine go_sub (lv' := [(0, .ref (AD G 112)), (1, .int x1), (2, .int x2)]) [0, 1, 2] rfl ?_
  unfold f_X9_logged at h
  refine go_iloadn (pc := 0) F dX9_logged_0 1 rfl ?_
  refine go_iconst (pc := 1) 0 F dX9_logged_1 (by decide) ?_
  refine go_aloadn (pc := 2) F dX9_logged_2 0 rfl ?_
  refine gf_X9_7 (pc := 3) F dX9_logged_3 rfl ?_
  refine go_bipush (pc := 6) 6 F dX9_logged_6 (by decide) ?_
  refine go_iald (pc := 8) 136 F dX9_logged_8 rfl (by decide) h (fun y1 h => ?_)
  refine go_iconst (pc := 9) 1 F dX9_logged_9 (by decide) ?_
  refine go_isub (pc := 10) F dX9_logged_10 ?_
  refine cv_X9_26 (pc := 11) F dX9_logged_11 (ct_X9_in (enL E) G V x1 0 (y1 - 1)) (by decide) (by decide) (Nat.le_of_ble_eq_true rfl) ?_
  refine go_if_ne (pc := 14) 19 F dX9_logged_14 (by decide) h (fun c7 h => ?_) (fun c7 h => ?_)
  · refine go_iloadn (pc := 19) F dX9_logged_19 2 rfl ?_
    refine go_iconst (pc := 20) 0 F dX9_logged_20 (by decide) ?_
    refine go_iconst (pc := 21) 5 F dX9_logged_21 (by decide) ?_
    refine cv_X9_26 (pc := 22) F dX9_logged_22 (ct_X9_in (enL E) G V x2 0 5) (by decide) (by decide) (Nat.le_of_ble_eq_true rfl) ?_
    refine go_if_ne (pc := 25) 31 F dX9_logged_25 (by decide) h (fun c6 h => ?_) (fun c6 h => ?_)
    · refine go_bipush (pc := 31) 87 F dX9_logged_31 (by decide) ?_
      refine go_bipush (pc := 33) 6 F dX9_logged_33 (by decide) ?_
      refine go_iloadn (pc := 35) F dX9_logged_35 1 rfl ?_
      refine go_imul (pc := 36) F dX9_logged_36 ?_
      refine go_iadd (pc := 37) F dX9_logged_37 ?_
      refine go_topi h (fun y2 h => ?_)
      refine go_istoren (pc := 38) (lv' := [(3, .int y2), (0, .ref (AD G 112)), (1, .int x1), (2, .int x2)]) F dX9_logged_38 (by decide) rfl ?_
      refine go_iloadn (pc := 39) F dX9_logged_39 3 rfl ?_
      refine go_aloadn (pc := 40) F dX9_logged_40 1 rfl ?_
      refine gf_X9_7 (pc := 41) F dX9_logged_41 rfl ?_
      refine go_iloadn (pc := 44) F dX9_logged_44 0 rfl ?_
      refine go_iald (pc := 45) 136 F dX9_logged_45 rfl (by decide) h (fun y3 h => ?_)
      refine go_icmp_le (pc := 46) 53 F dX9_logged_46 (by decide) h (fun c5 h => ?_) (fun c5 h => ?_)
      · refine go_aloadn (pc := 53) F dX9_logged_53 1 rfl ?_
        refine gf_X9_7 (pc := 54) F dX9_logged_54 rfl ?_
        refine go_iloadn (pc := 57) F dX9_logged_57 0 rfl ?_
        refine go_iloadn (pc := 58) F dX9_logged_58 3 rfl ?_
        refine go_iadd (pc := 59) F dX9_logged_59 ?_
        refine go_iald (pc := 60) 136 F dX9_logged_60 rfl (by decide) h (fun y4 h => ?_)
        exact go_iretR (pc := 61) F dX9_logged_61 h
      · refine go_iconst (pc := 49) (-1) F dX9_logged_49 (by decide) ?_
        refine go_goto (pc := 50) 61 F dX9_logged_50 (by decide) ?_
        exact go_iretR (pc := 61) F dX9_logged_61 h
    · refine go_bipush (pc := 28) (-2) F dX9_logged_28 (by decide) ?_
      exact go_iretR (pc := 30) F dX9_logged_30 h
  · refine go_iconst (pc := 17) (-1) F dX9_logged_17 (by decide) ?_
    exact go_iretR (pc := 18) F dX9_logged_18 h
set_option maxRecDepth 100000 in
set_option maxHeartbeats 4000000 in
theorem ct_X9_total (l : Launch) (G : Gm) (V : Wd) (x1 : Int32) (z : Int32) (h : f_X9_total V x1 = some z) : Ct l G yX9_total cX9_total 2 (some .int) 2 43 [.ref (AD G 112), .int x1] V (some (.int z)) V := by
  refine Ct.of (own := RX9) (by decide +kernel) rfl (Nat.le_of_ble_eq_true rfl) (fun E F he => ?_)
  clear he
  refine go_sub (lv' := [(0, .ref (AD G 112)), (1, .int x1)]) [0, 1] rfl ?_
  unfold f_X9_total at h
  refine go_iloadn (pc := 0) F dX9_total_0 1 rfl ?_
  refine go_sw h (fun c1 h => ?_) (fun c1 h => ?_)
  · refine go_tabI (pc := 1) 56 F dX9_total_1 c1 (by decide) (by decide) rfl (by decide) ?_
    refine go_aloadn (pc := 56) F dX9_total_56 0 rfl ?_
    refine gf_X9_7 (pc := 57) F dX9_total_57 rfl ?_
    refine go_iconst (pc := 60) 1 F dX9_total_60 (by decide) ?_
    refine go_iald (pc := 61) 136 F dX9_total_61 rfl (by decide) h (fun y2 h => ?_)
    exact go_iretR (pc := 62) F dX9_total_62 h
  · refine go_sw h (fun c3 h => ?_) (fun c3 h => ?_)
    · refine go_tabI (pc := 1) 63 F dX9_total_1 c3 (by decide) (by decide) rfl (by decide) ?_
      refine go_aloadn (pc := 63) F dX9_total_63 0 rfl ?_
      refine gf_X9_7 (pc := 64) F dX9_total_64 rfl ?_
      refine go_iconst (pc := 67) 2 F dX9_total_67 (by decide) ?_
      refine go_iald (pc := 68) 136 F dX9_total_68 rfl (by decide) h (fun y4 h => ?_)
      exact go_iretR (pc := 69) F dX9_total_69 h
    · refine go_sw h (fun c5 h => ?_) (fun c5 h => ?_)
      · refine go_tabI (pc := 1) 70 F dX9_total_1 c5 (by decide) (by decide) rfl (by decide) ?_
        refine go_aloadn (pc := 70) F dX9_total_70 0 rfl ?_
        refine gf_X9_7 (pc := 71) F dX9_total_71 rfl ?_
        refine go_iconst (pc := 74) 0 F dX9_total_74 (by decide) ?_
        refine go_iald (pc := 75) 136 F dX9_total_75 rfl (by decide) h (fun y6 h => ?_)
        exact go_iretR (pc := 76) F dX9_total_76 h
      · refine go_sw h (fun c7 h => ?_) (fun c7 h => ?_)
        · refine go_tabI (pc := 1) 77 F dX9_total_1 c7 (by decide) (by decide) rfl (by decide) ?_
          refine go_aloadn (pc := 77) F dX9_total_77 0 rfl ?_
          obtain ⟨y8, hy8, h⟩ := ob_ h
          refine cv_X9_45 (pc := 78) F dX9_total_78 rfl (ct_X9_allSigns (enL E) G V y8 hy8) (by decide) (by decide) (Nat.le_of_ble_eq_true rfl) ?_
          exact go_iretR (pc := 81) F dX9_total_81 h
        · refine go_sw h (fun c9 h => ?_) (fun c9 h => ?_)
          · refine go_tabI (pc := 1) 82 F dX9_total_1 c9 (by decide) (by decide) rfl (by decide) ?_
            refine go_aloadn (pc := 82) F dX9_total_82 0 rfl ?_
            obtain ⟨y10, hy10, h⟩ := ob_ h
            refine cv_X9_88 (pc := 83) F dX9_total_83 rfl (ct_X9_hoists (enL E) G V y10 hy10) (by decide) (by decide) (Nat.le_of_ble_eq_true rfl) ?_
            exact go_iretR (pc := 86) F dX9_total_86 h
          · refine go_sw h (fun c11 h => ?_) (fun c11 h => ?_)
            · refine go_tabI (pc := 1) 87 F dX9_total_1 c11 (by decide) (by decide) rfl (by decide) ?_
              refine go_aloadn (pc := 87) F dX9_total_87 0 rfl ?_
              refine gf_X9_7 (pc := 88) F dX9_total_88 rfl ?_
              refine go_iconst (pc := 91) 5 F dX9_total_91 (by decide) ?_
              refine go_iald (pc := 92) 136 F dX9_total_92 rfl (by decide) h (fun y12 h => ?_)
              exact go_iretR (pc := 93) F dX9_total_93 h
            · refine go_sw h (fun c13 h => ?_) (fun c13 h => ?_)
              · refine go_tabI (pc := 1) 94 F dX9_total_1 c13 (by decide) (by decide) rfl (by decide) ?_
                refine go_aloadn (pc := 94) F dX9_total_94 0 rfl ?_
                refine gf_X9_7 (pc := 95) F dX9_total_95 rfl ?_
                refine go_iconst (pc := 98) 3 F dX9_total_98 (by decide) ?_
                refine go_iald (pc := 99) 136 F dX9_total_99 rfl (by decide) h (fun y14 h => ?_)
                exact go_iretR (pc := 100) F dX9_total_100 h
              · refine go_sw h (fun c15 h => ?_) (fun c15 h => ?_)
                · refine go_tabI (pc := 1) 101 F dX9_total_1 c15 (by decide) (by decide) rfl (by decide) ?_
                  refine go_aloadn (pc := 101) F dX9_total_101 0 rfl ?_
                  refine gf_X9_7 (pc := 102) F dX9_total_102 rfl ?_
                  refine go_iconst (pc := 105) 4 F dX9_total_105 (by decide) ?_
                  refine go_iald (pc := 106) 136 F dX9_total_106 rfl (by decide) h (fun y16 h => ?_)
                  exact go_iretR (pc := 107) F dX9_total_107 h
                · refine go_sw h (fun c17 h => ?_) (fun c17 h => ?_)
                  · refine go_tabI (pc := 1) 108 F dX9_total_1 c17 (by decide) (by decide) rfl (by decide) ?_
                    refine go_aloadn (pc := 108) F dX9_total_108 0 rfl ?_
                    refine gf_X9_7 (pc := 109) F dX9_total_109 rfl ?_
                    refine go_bipush (pc := 112) 6 F dX9_total_112 (by decide) ?_
                    refine go_iald (pc := 114) 136 F dX9_total_114 rfl (by decide) h (fun y18 h => ?_)
                    exact go_iretR (pc := 115) F dX9_total_115 h
                  · refine go_sw h (fun c19 h => ?_) (fun c19 h => ?_)
                    · refine go_tabI (pc := 1) 116 F dX9_total_1 c19 (by decide) (by decide) rfl (by decide) ?_
                      refine go_aloadn (pc := 116) F dX9_total_116 0 rfl ?_
                      refine gf_X9_7 (pc := 117) F dX9_total_117 rfl ?_
                      refine go_bipush (pc := 120) 7 F dX9_total_120 (by decide) ?_
                      refine go_iald (pc := 122) 136 F dX9_total_122 rfl (by decide) h (fun y20 h => ?_)
                      exact go_iretR (pc := 123) F dX9_total_123 h
                    · refine go_tabO (pc := 1) 124 F dX9_total_1 (tab_o 10 (by decide) (by decide) (fun j hj => by rcases (show j = 0 ∨ j = 1 ∨ j = 2 ∨ j = 3 ∨ j = 4 ∨ j = 5 ∨ j = 6 ∨ j = 7 ∨ j = 8 ∨ j = 9 by omega) with rfl | rfl | rfl | rfl | rfl | rfl | rfl | rfl | rfl | rfl <;> first | exact c1 | exact c3 | exact c5 | exact c7 | exact c9 | exact c11 | exact c13 | exact c15 | exact c17 | exact c19)) (by decide) ?_
                      refine go_bipush (pc := 124) (-2) F dX9_total_124 (by decide) ?_
                      exact go_iretR (pc := 126) F dX9_total_126 h
set_option maxRecDepth 100000 in
set_option maxHeartbeats 4000000 in
theorem lb_X9_leastWind_58 {E : En} {G : Gm} (F : Fx E G (AG G) RX9 cX9_leastWind 5 (some .int) 6 138 0 0) {x1 : Int32} {z : Int32 × Wd} (V : Wd) (x2 : Int32) (x3 : Int32) (h : f_X9_leastWind_58 x1 V x2 x3 = some z) : Go E G (AG G) 0 0 (MQq E G (some (.int z.1)) z.2) 5 V 58 [(0, .ref (AD G 112)), (2, .int x2), (3, .int x3)] [] := by
  unfold f_X9_leastWind_58 at h
  refine go_aloadn (pc := 58) F dX9_leastWind_58 0 rfl ?_
  refine gf_X9_7 (pc := 59) F dX9_leastWind_59 rfl ?_
  refine go_iconst (pc := 62) 1 F dX9_leastWind_62 (by decide) ?_
  refine go_iloadn (pc := 63) F dX9_leastWind_63 1 rfl ?_
  refine go_iast (pc := 64) 136 F dX9_leastWind_64 rfl (by decide) h (fun V7 h => ?_)
  refine go_iloadn (pc := 65) F dX9_leastWind_65 2 rfl ?_
  exact go_iretW (pc := 66) F dX9_leastWind_66 h
set_option maxRecDepth 100000 in
set_option maxHeartbeats 4000000 in
theorem lb_X9_leastWind_24 {E : En} {G : Gm} (F : Fx E G (AG G) RX9 cX9_leastWind 5 (some .int) 6 138 0 0) {x1 : Int32} {z : Int32 × Wd} : ∀ (n : Nat) (V : Wd) (x2 : Int32) (x3 : Int32) (x4 : Int32), f_X9_leastWind_24 x1 n V x2 x3 x4 = some z → Go E G (AG G) 0 0 (MQq E G (some (.int z.1)) z.2) 5 V 24 [(0, .ref (AD G 112)), (1, .int x1), (2, .int x2), (3, .int x3), (4, .int x4)] [] := by
  intro n
  induction n with
  | zero => intro V x2 x3 x4 h; cases h
  | succ n ih =>
    intro V x2 x3 x4 h
    rw [f_X9_leastWind_24] at h
    refine go_iload (pc := 24) F dX9_leastWind_24 4 rfl ?_
    refine go_if_lt (pc := 26) 58 F dX9_leastWind_26 (by decide) h (fun c6 h => ?_) (fun c6 h => ?_)
    · exact go_sub [0, 2, 3] rfl (lb_X9_leastWind_58 F V x2 x3 h)
    · refine go_aloadn (pc := 29) F dX9_leastWind_29 0 rfl ?_
      refine gf_X9_7 (pc := 30) F dX9_leastWind_30 rfl ?_
      refine go_iconst (pc := 33) 1 F dX9_leastWind_33 (by decide) ?_
      refine go_iload (pc := 34) F dX9_leastWind_34 4 rfl ?_
      refine go_iast (pc := 36) 136 F dX9_leastWind_36 rfl (by decide) h (fun V3 h => ?_)
      refine go_aloadn (pc := 37) F dX9_leastWind_37 0 rfl ?_
      refine go_iloadn (pc := 38) F dX9_leastWind_38 1 rfl ?_
      obtain ⟨y4, hy4, h⟩ := ob_ h
      refine cv_X9_131 (pc := 39) F dX9_leastWind_39 rfl (ct_X9_knowsAll (enL E) G V3 x1 y4 hy4) (by decide) (by decide) (Nat.le_of_ble_eq_true rfl) ?_
      refine go_if_eq (pc := 42) 50 F dX9_leastWind_42 (by decide) h (fun c5 h => ?_) (fun c5 h => ?_)
      · refine go_iloadn (pc := 50) F dX9_leastWind_50 3 rfl ?_
        refine go_istoren (pc := 51) (lv' := [(3, .int x3), (0, .ref (AD G 112)), (1, .int x1), (2, .int x2), (4, .int x4)]) F dX9_leastWind_51 (by decide) rfl ?_
        refine go_iinc (pc := 52) (x4 + (-1)) (lv' := [(4, .int (x4 + (-1))), (3, .int x3), (0, .ref (AD G 112)), (1, .int x1), (2, .int x2)]) F dX9_leastWind_52 (k := 4) rfl rfl (by decide) rfl ?_
        refine go_goto (pc := 55) 24 F dX9_leastWind_55 (by decide) ?_
        exact go_sub [2, 3, 4, 1, 0] rfl (ih V3 x2 x3 (x4 + (-1)) h)
      · refine go_iload (pc := 45) F dX9_leastWind_45 4 rfl ?_
        refine go_goto (pc := 47) 51 F dX9_leastWind_47 (by decide) ?_
        refine go_istoren (pc := 51) (lv' := [(3, .int x4), (0, .ref (AD G 112)), (1, .int x1), (2, .int x2), (4, .int x4)]) F dX9_leastWind_51 (by decide) rfl ?_
        refine go_iinc (pc := 52) (x4 + (-1)) (lv' := [(4, .int (x4 + (-1))), (3, .int x4), (0, .ref (AD G 112)), (1, .int x1), (2, .int x2)]) F dX9_leastWind_52 (k := 4) rfl rfl (by decide) rfl ?_
        refine go_goto (pc := 55) 24 F dX9_leastWind_55 (by decide) ?_
        exact go_sub [2, 3, 4, 1, 0] rfl (ih V3 x2 x4 (x4 + (-1)) h)
set_option maxRecDepth 100000 in
set_option maxHeartbeats 4000000 in
theorem ct_X9_leastWind (l : Launch) (G : Gm) (V : Wd) (x1 : Int32) (z : Int32 × Wd) (h : f_X9_leastWind V x1 = some z) : Ct l G yX9_leastWind cX9_leastWind 5 (some .int) 6 138 [.ref (AD G 112), .int x1] V (some (.int z.1)) z.2 := by
  refine Ct.of (own := RX9) (by decide +kernel) rfl (Nat.le_of_ble_eq_true rfl) (fun E F he => ?_)
  clear he
  refine go_sub (lv' := [(0, .ref (AD G 112)), (1, .int x1)]) [0, 1] rfl ?_
  unfold f_X9_leastWind at h
  refine go_iloadn (pc := 0) F dX9_leastWind_0 1 rfl ?_
  refine cv_X9_69 (pc := 1) F dX9_leastWind_1 (ct_X9_isSide (enL E) G V x1) (by decide) (by decide) (Nat.le_of_ble_eq_true rfl) ?_
  refine go_if_ne (pc := 4) 10 F dX9_leastWind_4 (by decide) h (fun c2 h => ?_) (fun c2 h => ?_)
  · refine go_aloadn (pc := 10) F dX9_leastWind_10 0 rfl ?_
    refine gf_X9_7 (pc := 11) F dX9_leastWind_11 rfl ?_
    refine go_iconst (pc := 14) 1 F dX9_leastWind_14 (by decide) ?_
    refine go_iald (pc := 15) 136 F dX9_leastWind_15 rfl (by decide) h (fun y1 h => ?_)
    refine go_istoren (pc := 16) (lv' := [(2, .int y1), (0, .ref (AD G 112)), (1, .int x1)]) F dX9_leastWind_16 (by decide) rfl ?_
    refine go_bipush (pc := 17) (-6) F dX9_leastWind_17 (by decide) ?_
    refine go_istoren (pc := 19) (lv' := [(3, .int (-6)), (2, .int y1), (0, .ref (AD G 112)), (1, .int x1)]) F dX9_leastWind_19 (by decide) rfl ?_
    refine go_bipush (pc := 20) 9 F dX9_leastWind_20 (by decide) ?_
    refine go_istore (pc := 22) (lv' := [(4, .int 9), (3, .int (-6)), (2, .int y1), (0, .ref (AD G 112)), (1, .int x1)]) F dX9_leastWind_22 (by decide) rfl ?_
    exact go_sub [3, 4, 2, 1, 0] rfl (lb_X9_leastWind_24 F FU_ V y1 (-6) 9 h)
  · refine go_bipush (pc := 7) (-2) F dX9_leastWind_7 (by decide) ?_
    exact go_iretW (pc := 9) F dX9_leastWind_9 h
set_option maxRecDepth 100000 in
set_option maxHeartbeats 4000000 in
theorem ct_X9_ifTurned (l : Launch) (G : Gm) (V : Wd) (x1 : Int32) (z : Int32 × Wd) (h : f_X9_ifTurned V x1 = some z) : Ct l G yX9_ifTurned cX9_ifTurned 3 (some .int) 5 117 [.ref (AD G 112), .int x1] V (some (.int z.1)) z.2 := by
  refine Ct.of (own := RX9) (by decide +kernel) rfl (Nat.le_of_ble_eq_true rfl) (fun E F he => ?_)
  clear he
  refine go_sub (lv' := [(0, .ref (AD G 112)), (1, .int x1)]) [0, 1] rfl ?_
  unfold f_X9_ifTurned at h
  refine go_iloadn (pc := 0) F dX9_ifTurned_0 1 rfl ?_
  refine cv_X9_69 (pc := 1) F dX9_ifTurned_1 (ct_X9_isSide (enL E) G V x1) (by decide) (by decide) (Nat.le_of_ble_eq_true rfl) ?_
  refine go_if_ne (pc := 4) 10 F dX9_ifTurned_4 (by decide) h (fun c6 h => ?_) (fun c6 h => ?_)
  · refine go_aloadn (pc := 10) F dX9_ifTurned_10 0 rfl ?_
    refine gf_X9_7 (pc := 11) F dX9_ifTurned_11 rfl ?_
    refine go_iconst (pc := 14) 2 F dX9_ifTurned_14 (by decide) ?_
    refine go_iconst (pc := 15) 1 F dX9_ifTurned_15 (by decide) ?_
    refine go_aloadn (pc := 16) F dX9_ifTurned_16 0 rfl ?_
    refine gf_X9_7 (pc := 17) F dX9_ifTurned_17 rfl ?_
    refine go_iconst (pc := 20) 2 F dX9_ifTurned_20 (by decide) ?_
    refine go_iald (pc := 21) 136 F dX9_ifTurned_21 rfl (by decide) h (fun y1 h => ?_)
    refine go_isub (pc := 22) F dX9_ifTurned_22 ?_
    refine go_iast (pc := 23) 136 F dX9_ifTurned_23 rfl (by decide) h (fun V2 h => ?_)
    refine go_aloadn (pc := 24) F dX9_ifTurned_24 0 rfl ?_
    refine go_iloadn (pc := 25) F dX9_ifTurned_25 1 rfl ?_
    obtain ⟨y3, hy3, h⟩ := ob_ h
    refine cv_X9_128 (pc := 26) F dX9_ifTurned_26 rfl (ct_X9_knownBy (enL E) G V2 x1 y3 hy3) (by decide) (by decide) (Nat.le_of_ble_eq_true rfl) ?_
    refine go_istoren (pc := 29) (lv' := [(2, .int y3), (0, .ref (AD G 112)), (1, .int x1)]) F dX9_ifTurned_29 (by decide) rfl ?_
    refine go_aloadn (pc := 30) F dX9_ifTurned_30 1 rfl ?_
    refine gf_X9_7 (pc := 31) F dX9_ifTurned_31 rfl ?_
    refine go_iconst (pc := 34) 2 F dX9_ifTurned_34 (by decide) ?_
    refine go_iconst (pc := 35) 1 F dX9_ifTurned_35 (by decide) ?_
    refine go_aloadn (pc := 36) F dX9_ifTurned_36 1 rfl ?_
    refine gf_X9_7 (pc := 37) F dX9_ifTurned_37 rfl ?_
    refine go_iconst (pc := 40) 2 F dX9_ifTurned_40 (by decide) ?_
    refine go_iald (pc := 41) 136 F dX9_ifTurned_41 rfl (by decide) h (fun y4 h => ?_)
    refine go_isub (pc := 42) F dX9_ifTurned_42 ?_
    refine go_iast (pc := 43) 136 F dX9_ifTurned_43 rfl (by decide) h (fun V5 h => ?_)
    refine go_iloadn (pc := 44) F dX9_ifTurned_44 0 rfl ?_
    exact go_iretW (pc := 45) F dX9_ifTurned_45 h
  · refine go_bipush (pc := 7) (-2) F dX9_ifTurned_7 (by decide) ?_
    exact go_iretW (pc := 9) F dX9_ifTurned_9 h
set_option maxRecDepth 100000 in
set_option maxHeartbeats 4000000 in
theorem lb_X9_mendingExchange_21 {E : En} {G : Gm} (F : Fx E G (AG G) RX9 cX9_mendingExchange 4 (some .int) 7 160 0 0) {K15 : Wd → Int32 → Int32 → Option (Int32 × Wd)} {z : Int32 × Wd} (hK15 : ∀ (V1 : Wd) (a1 : Int32) (a2 : Int32), K15 V1 a1 a2 = some z → Go E G (AG G) 0 0 (MQq E G (some (.int z.1)) z.2) 4 V1 15 [(0, .ref (AD G 112)), (1, .int a1), (2, .int a2)] []) : ∀ (n : Nat) (V : Wd) (x1 : Int32) (x2 : Int32) (x3 : Int32), f_X9_mendingExchange_21 K15 n V x1 x2 x3 = some z → Go E G (AG G) 0 0 (MQq E G (some (.int z.1)) z.2) 4 V 21 [(0, .ref (AD G 112)), (1, .int x1), (2, .int x2), (3, .int x3)] [] := by
  intro n
  induction n with
  | zero => intro V x1 x2 x3 h; cases h
  | succ n ih =>
    intro V x1 x2 x3 h
    rw [f_X9_mendingExchange_21] at h
    refine go_iloadn (pc := 21) F dX9_mendingExchange_21 3 rfl ?_
    refine go_iloadn (pc := 22) F dX9_mendingExchange_22 2 rfl ?_
    refine go_icmp_le (pc := 23) 63 F dX9_mendingExchange_23 (by decide) h (fun c10 h => ?_) (fun c10 h => ?_)
    · refine go_iinc (pc := 63) (x2 + (-1)) (lv' := [(2, .int (x2 + (-1))), (0, .ref (AD G 112)), (1, .int x1), (3, .int x3)]) F dX9_mendingExchange_63 (k := 2) rfl rfl (by decide) rfl ?_
      refine go_goto (pc := 66) 15 F dX9_mendingExchange_66 (by decide) ?_
      exact go_sub [1, 2, 0] rfl (hK15 V x1 (x2 + (-1)) h)
    · refine go_aloadn (pc := 26) F dX9_mendingExchange_26 0 rfl ?_
      refine go_iloadn (pc := 27) F dX9_mendingExchange_27 2 rfl ?_
      refine go_iloadn (pc := 28) F dX9_mendingExchange_28 3 rfl ?_
      obtain ⟨V4, hV4, h⟩ := ob_ h
      refine cv_X9_85 (pc := 29) F dX9_mendingExchange_29 rfl (ct_X9_swaps (enL E) G V x2 x3 V4 hV4) (by decide) (by decide) (Nat.le_of_ble_eq_true rfl) ?_
      refine go_aloadn (pc := 32) F dX9_mendingExchange_32 0 rfl ?_
      obtain ⟨y5, hy5, h⟩ := ob_ h
      refine cv_X9_134 (pc := 33) F dX9_mendingExchange_33 rfl (ct_X9_isSame (enL E) G V4 y5 hy5) (by decide) (by decide) (Nat.le_of_ble_eq_true rfl) ?_
      refine go_iconst (pc := 36) 1 F dX9_mendingExchange_36 (by decide) ?_
      refine go_icmp_ne (pc := 37) 49 F dX9_mendingExchange_37 (by decide) h (fun c9 h => ?_) (fun c9 h => ?_)
      · refine go_iloadn (pc := 49) F dX9_mendingExchange_49 1 rfl ?_
        refine go_istoren (pc := 50) (lv' := [(1, .int x1), (0, .ref (AD G 112)), (2, .int x2), (3, .int x3)]) F dX9_mendingExchange_50 (by decide) rfl ?_
        refine go_aloadn (pc := 51) F dX9_mendingExchange_51 1 rfl ?_
        refine go_iloadn (pc := 52) F dX9_mendingExchange_52 2 rfl ?_
        refine go_iloadn (pc := 53) F dX9_mendingExchange_53 3 rfl ?_
        obtain ⟨V6, hV6, h⟩ := ob_ h
        refine cv_X9_85 (pc := 54) F dX9_mendingExchange_54 rfl (ct_X9_swaps (enL E) G V4 x2 x3 V6 hV6) (by decide) (by decide) (Nat.le_of_ble_eq_true rfl) ?_
        refine go_iinc (pc := 57) (x3 + (-1)) (lv' := [(3, .int (x3 + (-1))), (1, .int x1), (0, .ref (AD G 112)), (2, .int x2)]) F dX9_mendingExchange_57 (k := 3) rfl rfl (by decide) rfl ?_
        refine go_goto (pc := 60) 21 F dX9_mendingExchange_60 (by decide) ?_
        exact go_sub [2, 1, 3, 0] rfl (ih V6 x1 x2 (x3 + (-1)) h)
      · refine go_bipush (pc := 40) 10 F dX9_mendingExchange_40 (by decide) ?_
        refine go_iloadn (pc := 42) F dX9_mendingExchange_42 2 rfl ?_
        refine go_imul (pc := 43) F dX9_mendingExchange_43 ?_
        refine go_iloadn (pc := 44) F dX9_mendingExchange_44 3 rfl ?_
        refine go_iadd (pc := 45) F dX9_mendingExchange_45 ?_
        refine go_goto (pc := 46) 50 F dX9_mendingExchange_46 (by decide) ?_
        refine go_topi h (fun y7 h => ?_)
        refine go_istoren (pc := 50) (lv' := [(1, .int y7), (0, .ref (AD G 112)), (2, .int x2), (3, .int x3)]) F dX9_mendingExchange_50 (by decide) rfl ?_
        refine go_aloadn (pc := 51) F dX9_mendingExchange_51 1 rfl ?_
        refine go_iloadn (pc := 52) F dX9_mendingExchange_52 2 rfl ?_
        refine go_iloadn (pc := 53) F dX9_mendingExchange_53 3 rfl ?_
        obtain ⟨V8, hV8, h⟩ := ob_ h
        refine cv_X9_85 (pc := 54) F dX9_mendingExchange_54 rfl (ct_X9_swaps (enL E) G V4 x2 x3 V8 hV8) (by decide) (by decide) (Nat.le_of_ble_eq_true rfl) ?_
        refine go_iinc (pc := 57) (x3 + (-1)) (lv' := [(3, .int (x3 + (-1))), (1, .int y7), (0, .ref (AD G 112)), (2, .int x2)]) F dX9_mendingExchange_57 (k := 3) rfl rfl (by decide) rfl ?_
        refine go_goto (pc := 60) 21 F dX9_mendingExchange_60 (by decide) ?_
        exact go_sub [2, 1, 3, 0] rfl (ih V8 y7 x2 (x3 + (-1)) h)
set_option maxRecDepth 100000 in
set_option maxHeartbeats 4000000 in
theorem lb_X9_mendingExchange_15 {E : En} {G : Gm} (F : Fx E G (AG G) RX9 cX9_mendingExchange 4 (some .int) 7 160 0 0) {z : Int32 × Wd} : ∀ (n : Nat) (V : Wd) (x1 : Int32) (x2 : Int32), f_X9_mendingExchange_15 n V x1 x2 = some z → Go E G (AG G) 0 0 (MQq E G (some (.int z.1)) z.2) 4 V 15 [(0, .ref (AD G 112)), (1, .int x1), (2, .int x2)] [] := by
  intro n
  induction n with
  | zero => intro V x1 x2 h; cases h
  | succ n ih =>
    intro V x1 x2 h
    rw [f_X9_mendingExchange_15] at h
    refine go_iloadn (pc := 15) F dX9_mendingExchange_15 2 rfl ?_
    refine go_if_lt (pc := 16) 69 F dX9_mendingExchange_16 (by decide) h (fun c3 h => ?_) (fun c3 h => ?_)
    · refine go_iloadn (pc := 69) F dX9_mendingExchange_69 1 rfl ?_
      exact go_iretW (pc := 70) F dX9_mendingExchange_70 h
    · refine go_iconst (pc := 19) 4 F dX9_mendingExchange_19 (by decide) ?_
      refine go_istoren (pc := 20) (lv' := [(3, .int 4), (0, .ref (AD G 112)), (1, .int x1), (2, .int x2)]) F dX9_mendingExchange_20 (by decide) rfl ?_
      exact go_sub [1, 2, 3, 0] rfl (lb_X9_mendingExchange_21 F (fun V1 a1 a2 h => ih V1 a1 a2 h) FU_ V x1 x2 4 h)
set_option maxRecDepth 100000 in
set_option maxHeartbeats 4000000 in
theorem ct_X9_mendingExchange (l : Launch) (G : Gm) (V : Wd) (z : Int32 × Wd) (h : f_X9_mendingExchange V = some z) : Ct l G yX9_mendingExchange cX9_mendingExchange 4 (some .int) 7 160 [.ref (AD G 112)] V (some (.int z.1)) z.2 := by
  refine Ct.of (own := RX9) (by decide +kernel) rfl (Nat.le_of_ble_eq_true rfl) (fun E F he => ?_)
  clear he
  refine go_sub (lv' := [(0, .ref (AD G 112))]) [0] rfl ?_
  unfold f_X9_mendingExchange at h
  refine go_aloadn (pc := 0) F dX9_mendingExchange_0 0 rfl ?_
  obtain ⟨y1, hy1, h⟩ := ob_ h
  refine cv_X9_134 (pc := 1) F dX9_mendingExchange_1 rfl (ct_X9_isSame (enL E) G V y1 hy1) (by decide) (by decide) (Nat.le_of_ble_eq_true rfl) ?_
  refine go_iconst (pc := 4) 1 F dX9_mendingExchange_4 (by decide) ?_
  refine go_icmp_ne (pc := 5) 10 F dX9_mendingExchange_5 (by decide) h (fun c2 h => ?_) (fun c2 h => ?_)
  · refine go_bipush (pc := 10) (-6) F dX9_mendingExchange_10 (by decide) ?_
    refine go_istoren (pc := 12) (lv' := [(1, .int (-6)), (0, .ref (AD G 112))]) F dX9_mendingExchange_12 (by decide) rfl ?_
    refine go_iconst (pc := 13) 4 F dX9_mendingExchange_13 (by decide) ?_
    refine go_istoren (pc := 14) (lv' := [(2, .int 4), (1, .int (-6)), (0, .ref (AD G 112))]) F dX9_mendingExchange_14 (by decide) rfl ?_
    exact go_sub [2, 1, 0] rfl (lb_X9_mendingExchange_15 F FU_ V (-6) 4 h)
  · refine go_iconst (pc := 8) 0 F dX9_mendingExchange_8 (by decide) ?_
    exact go_iretW (pc := 9) F dX9_mendingExchange_9 h
set_option maxRecDepth 100000 in
set_option maxHeartbeats 4000000 in
theorem ct_X9_lengthOf (l : Launch) (G : Gm) (V : Wd) (x0 : Int32) : Ct l G yX9_lengthOf cX9_lengthOf 1 (some .int) 0 0 [.int x0] V (some (.int (f_X9_lengthOf x0))) V := by
  generalize h : f_X9_lengthOf x0 = z
  refine Ct.of (own := RX9) (by decide +kernel) rfl (Nat.le_of_ble_eq_true rfl) (fun E F he => ?_)
  clear he
  refine go_sub (lv' := [(0, .int x0)]) [0] rfl ?_
  unfold f_X9_lengthOf at h
  refine go_iloadn (pc := 0) F dX9_lengthOf_0 0 rfl ?_
  refine go_bipush (pc := 1) 100 F dX9_lengthOf_1 (by decide) ?_
  refine go_icmp_ge (pc := 3) 10 F dX9_lengthOf_3 (by decide) h (fun c3 h => ?_) (fun c3 h => ?_)
  · refine go_iloadn (pc := 10) F dX9_lengthOf_10 0 rfl ?_
    refine go_sipush (pc := 11) 1000 F dX9_lengthOf_11 (by decide) ?_
    refine go_icmp_ge (pc := 14) 21 F dX9_lengthOf_14 (by decide) h (fun c2 h => ?_) (fun c2 h => ?_)
    · refine go_iloadn (pc := 21) F dX9_lengthOf_21 0 rfl ?_
      refine go_sipush (pc := 22) 10000 F dX9_lengthOf_22 (by decide) ?_
      refine go_icmp_ge (pc := 25) 32 F dX9_lengthOf_25 (by decide) h (fun c1 h => ?_) (fun c1 h => ?_)
      · refine go_iconst (pc := 32) 4 F dX9_lengthOf_32 (by decide) ?_
        exact go_iretT (pc := 33) F dX9_lengthOf_33 h
      · refine go_iconst (pc := 28) 3 F dX9_lengthOf_28 (by decide) ?_
        refine go_goto (pc := 29) 33 F dX9_lengthOf_29 (by decide) ?_
        exact go_iretT (pc := 33) F dX9_lengthOf_33 h
    · refine go_iconst (pc := 17) 2 F dX9_lengthOf_17 (by decide) ?_
      refine go_goto (pc := 18) 33 F dX9_lengthOf_18 (by decide) ?_
      exact go_iretT (pc := 33) F dX9_lengthOf_33 h
  · refine go_iconst (pc := 6) 1 F dX9_lengthOf_6 (by decide) ?_
    refine go_goto (pc := 7) 33 F dX9_lengthOf_7 (by decide) ?_
    exact go_iretT (pc := 33) F dX9_lengthOf_33 h
set_option maxRecDepth 100000 in
set_option maxHeartbeats 4000000 in
theorem lb_X9_isKnownAs_11 {E : En} {G : Gm} (F : Fx E G (AG G) RX9 cX9_isKnownAs 5 (some .boolean) 3 69 0 0) {V : Wd} {x1 : Int32} {z : Int32} : ∀ (n : Nat) (x2 : Int32) (x3 : Int32) (x4 : Int32), f_X9_isKnownAs_11 V x1 n x2 x3 x4 = some z → Go E G (AG G) 0 0 (MQq E G (some (.int z)) V) 5 V 11 [(0, .ref (AD G 112)), (1, .int x1), (2, .int x2), (3, .int x3), (4, .int x4)] [] := by
  intro n
  induction n with
  | zero => intro x2 x3 x4 h; cases h
  | succ n ih =>
    intro x2 x3 x4 h
    rw [f_X9_isKnownAs_11] at h
    refine go_iload (pc := 11) F dX9_isKnownAs_11 4 rfl ?_
    refine go_aloadn (pc := 13) F dX9_isKnownAs_13 0 rfl ?_
    refine go_iloadn (pc := 14) F dX9_isKnownAs_14 1 rfl ?_
    obtain ⟨y2, hy2, h⟩ := ob_ h
    refine cv_X9_119 (pc := 15) F dX9_isKnownAs_15 rfl (ct_X9_codeOf (enL E) G V x1 y2 hy2) (by decide) (by decide) (Nat.le_of_ble_eq_true rfl) ?_
    refine cv_X9_137 (pc := 18) F dX9_isKnownAs_18 (ct_X9_lengthOf (enL E) G V y2) (by decide) (by decide) (Nat.le_of_ble_eq_true rfl) ?_
    refine go_icmp_ge (pc := 21) 61 F dX9_isKnownAs_21 (by decide) h (fun c10 h => ?_) (fun c10 h => ?_)
    · refine go_iloadn (pc := 61) F dX9_isKnownAs_61 2 rfl ?_
      refine go_gd h (fun b3 h => ?_)
      exact go_zretR (pc := 62) F dX9_isKnownAs_62 (isB_n b3) h
    · refine go_iloadn (pc := 24) F dX9_isKnownAs_24 2 rfl ?_
      refine go_if_eq (pc := 25) 48 F dX9_isKnownAs_25 (by decide) h (fun c9 h => ?_) (fun c9 h => ?_)
      · refine go_iconst (pc := 48) 0 F dX9_isKnownAs_48 (by decide) ?_
        refine go_istoren (pc := 49) (lv' := [(2, .int 0), (0, .ref (AD G 112)), (1, .int x1), (3, .int x3), (4, .int x4)]) F dX9_isKnownAs_49 (by decide) rfl ?_
        refine go_iloadn (pc := 50) F dX9_isKnownAs_50 3 rfl ?_
        refine go_bipush (pc := 51) 10 F dX9_isKnownAs_51 (by decide) ?_
        refine go_idiv (pc := 53) F dX9_isKnownAs_53 (by decide) ?_
        refine go_topi h (fun y4 h => ?_)
        refine go_istoren (pc := 54) (lv' := [(3, .int y4), (2, .int 0), (0, .ref (AD G 112)), (1, .int x1), (4, .int x4)]) F dX9_isKnownAs_54 (by decide) rfl ?_
        refine go_iinc (pc := 55) (x4 + 1) (lv' := [(4, .int (x4 + 1)), (3, .int y4), (2, .int 0), (0, .ref (AD G 112)), (1, .int x1)]) F dX9_isKnownAs_55 (k := 4) rfl rfl (by decide) rfl ?_
        refine go_goto (pc := 58) 11 F dX9_isKnownAs_58 (by decide) ?_
        exact go_sub [3, 4, 2, 1, 0] rfl (ih 0 y4 (x4 + 1) h)
      · refine go_aloadn (pc := 28) F dX9_isKnownAs_28 0 rfl ?_
        refine go_iconst (pc := 29) 0 F dX9_isKnownAs_29 (by decide) ?_
        refine go_iloadn (pc := 30) F dX9_isKnownAs_30 3 rfl ?_
        refine go_bipush (pc := 31) 10 F dX9_isKnownAs_31 (by decide) ?_
        refine go_irem (pc := 33) F dX9_isKnownAs_33 (by decide) ?_
        obtain ⟨y5, hy5, h⟩ := ob_ h
        refine cv_X9_122 (pc := 34) F dX9_isKnownAs_34 rfl (ct_X9_taken (enL E) G V 0 (x3 - x3 / 10 * 10) y5 hy5) (by decide) (by decide) (Nat.le_of_ble_eq_true rfl) ?_
        refine go_iloadn (pc := 37) F dX9_isKnownAs_37 3 rfl ?_
        refine go_bipush (pc := 38) 10 F dX9_isKnownAs_38 (by decide) ?_
        refine go_irem (pc := 40) F dX9_isKnownAs_40 (by decide) ?_
        refine go_icmp_ne (pc := 41) 48 F dX9_isKnownAs_41 (by decide) h (fun c8 h => ?_) (fun c8 h => ?_)
        · refine go_iconst (pc := 48) 0 F dX9_isKnownAs_48 (by decide) ?_
          refine go_istoren (pc := 49) (lv' := [(2, .int 0), (0, .ref (AD G 112)), (1, .int x1), (3, .int x3), (4, .int x4)]) F dX9_isKnownAs_49 (by decide) rfl ?_
          refine go_iloadn (pc := 50) F dX9_isKnownAs_50 3 rfl ?_
          refine go_bipush (pc := 51) 10 F dX9_isKnownAs_51 (by decide) ?_
          refine go_idiv (pc := 53) F dX9_isKnownAs_53 (by decide) ?_
          refine go_topi h (fun y6 h => ?_)
          refine go_istoren (pc := 54) (lv' := [(3, .int y6), (2, .int 0), (0, .ref (AD G 112)), (1, .int x1), (4, .int x4)]) F dX9_isKnownAs_54 (by decide) rfl ?_
          refine go_iinc (pc := 55) (x4 + 1) (lv' := [(4, .int (x4 + 1)), (3, .int y6), (2, .int 0), (0, .ref (AD G 112)), (1, .int x1)]) F dX9_isKnownAs_55 (k := 4) rfl rfl (by decide) rfl ?_
          refine go_goto (pc := 58) 11 F dX9_isKnownAs_58 (by decide) ?_
          exact go_sub [3, 4, 2, 1, 0] rfl (ih 0 y6 (x4 + 1) h)
        · refine go_iconst (pc := 44) 1 F dX9_isKnownAs_44 (by decide) ?_
          refine go_goto (pc := 45) 49 F dX9_isKnownAs_45 (by decide) ?_
          refine go_istoren (pc := 49) (lv' := [(2, .int 1), (0, .ref (AD G 112)), (1, .int x1), (3, .int x3), (4, .int x4)]) F dX9_isKnownAs_49 (by decide) rfl ?_
          refine go_iloadn (pc := 50) F dX9_isKnownAs_50 3 rfl ?_
          refine go_bipush (pc := 51) 10 F dX9_isKnownAs_51 (by decide) ?_
          refine go_idiv (pc := 53) F dX9_isKnownAs_53 (by decide) ?_
          refine go_topi h (fun y7 h => ?_)
          refine go_istoren (pc := 54) (lv' := [(3, .int y7), (2, .int 1), (0, .ref (AD G 112)), (1, .int x1), (4, .int x4)]) F dX9_isKnownAs_54 (by decide) rfl ?_
          refine go_iinc (pc := 55) (x4 + 1) (lv' := [(4, .int (x4 + 1)), (3, .int y7), (2, .int 1), (0, .ref (AD G 112)), (1, .int x1)]) F dX9_isKnownAs_55 (k := 4) rfl rfl (by decide) rfl ?_
          refine go_goto (pc := 58) 11 F dX9_isKnownAs_58 (by decide) ?_
          exact go_sub [3, 4, 2, 1, 0] rfl (ih 1 y7 (x4 + 1) h)
set_option maxRecDepth 100000 in
set_option maxHeartbeats 4000000 in
theorem ct_X9_isKnownAs (l : Launch) (G : Gm) (V : Wd) (x1 : Int32) (z : Int32) (h : f_X9_isKnownAs V x1 = some z) : Ct l G yX9_isKnownAs cX9_isKnownAs 5 (some .boolean) 3 69 [.ref (AD G 112), .int x1] V (some (.int z)) V := by
  refine Ct.of (own := RX9) (by decide +kernel) rfl (Nat.le_of_ble_eq_true rfl) (fun E F he => ?_)
  clear he
  refine go_sub (lv' := [(0, .ref (AD G 112)), (1, .int x1)]) [0, 1] rfl ?_
  unfold f_X9_isKnownAs at h
  refine go_iconst (pc := 0) 1 F dX9_isKnownAs_0 (by decide) ?_
  refine go_istoren (pc := 1) (lv' := [(2, .int 1), (0, .ref (AD G 112)), (1, .int x1)]) F dX9_isKnownAs_1 (by decide) rfl ?_
  refine go_aloadn (pc := 2) F dX9_isKnownAs_2 1 rfl ?_
  refine go_iloadn (pc := 3) F dX9_isKnownAs_3 2 rfl ?_
  obtain ⟨y1, hy1, h⟩ := ob_ h
  refine cv_X9_119 (pc := 4) F dX9_isKnownAs_4 rfl (ct_X9_codeOf (enL E) G V x1 y1 hy1) (by decide) (by decide) (Nat.le_of_ble_eq_true rfl) ?_
  refine go_istoren (pc := 7) (lv' := [(3, .int y1), (2, .int 1), (0, .ref (AD G 112)), (1, .int x1)]) F dX9_isKnownAs_7 (by decide) rfl ?_
  refine go_iconst (pc := 8) 0 F dX9_isKnownAs_8 (by decide) ?_
  refine go_istore (pc := 9) (lv' := [(4, .int 0), (3, .int y1), (2, .int 1), (0, .ref (AD G 112)), (1, .int x1)]) F dX9_isKnownAs_9 (by decide) rfl ?_
  exact go_sub [3, 4, 2, 1, 0] rfl (lb_X9_isKnownAs_11 F FU_ 1 y1 0 h)

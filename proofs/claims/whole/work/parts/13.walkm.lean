set_option maxRecDepth 100000 in
set_option maxHeartbeats 4000000 in
theorem ct_X9_unbend (l : Launch) (G : Gm) (V : Wd) (x1 : Int32) (z : Int32 × Wd) (h : f_X9_unbend V x1 = some z) : Ct l G yX9_unbend cX9_unbend 2 (some .int) 2 42 [.ref (AD G 112), .int x1] V (some (.int z.1)) z.2 := by
  refine Ct.of (own := RX9) (by decide +kernel) rfl (Nat.le_of_ble_eq_true rfl) (fun E F he => ?_)
  clear he
  refine go_sub (lv' := [(0, .ref (AD G 112)), (1, .int x1)]) [0, 1] rfl ?_
  unfold f_X9_unbend at h
  refine go_iloadn (pc := 0) F dX9_unbend_0 1 rfl ?_
  refine cv_X9_75 (pc := 1) F dX9_unbend_1 (ct_X9_isHalyard (enL E) G V x1) (by decide) (by decide) (Nat.le_of_ble_eq_true rfl) ?_
  refine go_if_ne (pc := 4) 9 F dX9_unbend_4 (by decide) h (fun c8 h => ?_) (fun c8 h => ?_)
  · refine go_aloadn (pc := 9) F dX9_unbend_9 0 rfl ?_
    refine go_iloadn (pc := 10) F dX9_unbend_10 1 rfl ?_
    obtain ⟨y1, hy1, h⟩ := ob_ h
    refine cv_X9_37 (pc := 11) F dX9_unbend_11 rfl (ct_X9_many (enL E) G V x1 y1 hy1) (by decide) (by decide) (Nat.le_of_ble_eq_true rfl) ?_
    refine go_if_ne (pc := 14) 20 F dX9_unbend_14 (by decide) h (fun c7 h => ?_) (fun c7 h => ?_)
    · refine go_aloadn (pc := 20) F dX9_unbend_20 0 rfl ?_
      obtain ⟨V2, hV2, h⟩ := ob_ h
      refine cv_X9_57 (pc := 21) F dX9_unbend_21 rfl (ct_X9_recordAndDown (enL E) G V V2 hV2) (by decide) (by decide) (Nat.le_of_ble_eq_true rfl) ?_
      refine go_aloadn (pc := 24) F dX9_unbend_24 0 rfl ?_
      refine gf_X9_7 (pc := 25) F dX9_unbend_25 rfl ?_
      refine go_bipush (pc := 28) 38 F dX9_unbend_28 (by decide) ?_
      refine go_iconst (pc := 30) 5 F dX9_unbend_30 (by decide) ?_
      refine go_iloadn (pc := 31) F dX9_unbend_31 1 rfl ?_
      refine go_imul (pc := 32) F dX9_unbend_32 ?_
      refine go_iadd (pc := 33) F dX9_unbend_33 ?_
      refine go_dup2 (pc := 34) F dX9_unbend_34 rfl rfl ?_
      refine go_iald (pc := 35) 136 F dX9_unbend_35 rfl (by decide) h (fun y3 h => ?_)
      refine go_iconst (pc := 36) 1 F dX9_unbend_36 (by decide) ?_
      refine go_isub (pc := 37) F dX9_unbend_37 ?_
      refine go_iast (pc := 38) 136 F dX9_unbend_38 rfl (by decide) h (fun V4 h => ?_)
      refine go_aloadn (pc := 39) F dX9_unbend_39 0 rfl ?_
      refine go_iloadn (pc := 40) F dX9_unbend_40 1 rfl ?_
      refine go_aloadn (pc := 41) F dX9_unbend_41 0 rfl ?_
      refine go_iloadn (pc := 42) F dX9_unbend_42 1 rfl ?_
      obtain ⟨y5, hy5, h⟩ := ob_ h
      refine cv_X9_37 (pc := 43) F dX9_unbend_43 rfl (ct_X9_many (enL E) G V4 x1 y5 hy5) (by decide) (by decide) (Nat.le_of_ble_eq_true rfl) ?_
      refine go_iconst (pc := 46) 1 F dX9_unbend_46 (by decide) ?_
      refine go_iadd (pc := 47) F dX9_unbend_47 ?_
      obtain ⟨y6, hy6, h⟩ := ob_ h
      refine cv_X9_60 (pc := 48) F dX9_unbend_48 rfl (ct_X9_signOn (enL E) G V4 x1 (y5 + 1) y6 hy6) (by decide) (by decide) (Nat.le_of_ble_eq_true rfl) ?_
      exact go_iretW (pc := 51) F dX9_unbend_51 h
    · refine go_bipush (pc := 17) (-3) F dX9_unbend_17 (by decide) ?_
      exact go_iretW (pc := 19) F dX9_unbend_19 h
  · refine go_iconst (pc := 7) (-1) F dX9_unbend_7 (by decide) ?_
    exact go_iretW (pc := 8) F dX9_unbend_8 h
set_option maxRecDepth 100000 in
set_option maxHeartbeats 4000000 in
theorem lb_X9_swaps_2 {E : En} {G : Gm} (F : Fx E G (AG G) RX9 cX9_swaps 5 none 0 0 0 0) {x1 : Int32} {x2 : Int32} {z : Wd} : ∀ (n : Nat) (V : Wd) (x3 : Int32), f_X9_swaps_2 x1 x2 n V x3 = some z → Go E G (AG G) 0 0 (MQq E G none z) 5 V 2 [(0, .ref (AD G 112)), (1, .int x1), (2, .int x2), (3, .int x3)] [] := by
  intro n
  induction n with
  | zero => intro V x3 h; cases h
  | succ n ih =>
    intro V x3 h
    rw [f_X9_swaps_2] at h
    refine go_iloadn (pc := 2) F dX9_swaps_2 3 rfl ?_
    refine go_iconst (pc := 3) 5 F dX9_swaps_3 (by decide) ?_
    refine go_icmp_ge (pc := 4) 69 F dX9_swaps_4 (by decide) h (fun c5 h => ?_) (fun c5 h => ?_)
    · exact go_vretW (pc := 69) F dX9_swaps_69 h
    · refine go_aloadn (pc := 7) F dX9_swaps_7 0 rfl ?_
      refine gf_X9_7 (pc := 8) F dX9_swaps_8 rfl ?_
      refine go_bipush (pc := 11) 38 F dX9_swaps_11 (by decide) ?_
      refine go_iconst (pc := 13) 5 F dX9_swaps_13 (by decide) ?_
      refine go_iloadn (pc := 14) F dX9_swaps_14 1 rfl ?_
      refine go_imul (pc := 15) F dX9_swaps_15 ?_
      refine go_iadd (pc := 16) F dX9_swaps_16 ?_
      refine go_iloadn (pc := 17) F dX9_swaps_17 3 rfl ?_
      refine go_iadd (pc := 18) F dX9_swaps_18 ?_
      refine go_iald (pc := 19) 136 F dX9_swaps_19 rfl (by decide) h (fun y1 h => ?_)
      refine go_istore (pc := 20) (lv' := [(4, .int y1), (0, .ref (AD G 112)), (1, .int x1), (2, .int x2), (3, .int x3)]) F dX9_swaps_20 (by decide) rfl ?_
      refine go_aloadn (pc := 22) F dX9_swaps_22 1 rfl ?_
      refine gf_X9_7 (pc := 23) F dX9_swaps_23 rfl ?_
      refine go_bipush (pc := 26) 38 F dX9_swaps_26 (by decide) ?_
      refine go_iconst (pc := 28) 5 F dX9_swaps_28 (by decide) ?_
      refine go_iloadn (pc := 29) F dX9_swaps_29 2 rfl ?_
      refine go_imul (pc := 30) F dX9_swaps_30 ?_
      refine go_iadd (pc := 31) F dX9_swaps_31 ?_
      refine go_iloadn (pc := 32) F dX9_swaps_32 4 rfl ?_
      refine go_iadd (pc := 33) F dX9_swaps_33 ?_
      refine go_aloadn (pc := 34) F dX9_swaps_34 1 rfl ?_
      refine gf_X9_7 (pc := 35) F dX9_swaps_35 rfl ?_
      refine go_bipush (pc := 38) 38 F dX9_swaps_38 (by decide) ?_
      refine go_iconst (pc := 40) 5 F dX9_swaps_40 (by decide) ?_
      refine go_iloadn (pc := 41) F dX9_swaps_41 3 rfl ?_
      refine go_imul (pc := 42) F dX9_swaps_42 ?_
      refine go_iadd (pc := 43) F dX9_swaps_43 ?_
      refine go_iloadn (pc := 44) F dX9_swaps_44 4 rfl ?_
      refine go_iadd (pc := 45) F dX9_swaps_45 ?_
      refine go_iald (pc := 46) 136 F dX9_swaps_46 rfl (by decide) h (fun y2 h => ?_)
      refine go_iast (pc := 47) 136 F dX9_swaps_47 rfl (by decide) h (fun V3 h => ?_)
      refine go_aloadn (pc := 48) F dX9_swaps_48 1 rfl ?_
      refine gf_X9_7 (pc := 49) F dX9_swaps_49 rfl ?_
      refine go_bipush (pc := 52) 38 F dX9_swaps_52 (by decide) ?_
      refine go_iconst (pc := 54) 5 F dX9_swaps_54 (by decide) ?_
      refine go_iloadn (pc := 55) F dX9_swaps_55 3 rfl ?_
      refine go_imul (pc := 56) F dX9_swaps_56 ?_
      refine go_iadd (pc := 57) F dX9_swaps_57 ?_
      refine go_iloadn (pc := 58) F dX9_swaps_58 4 rfl ?_
      refine go_iadd (pc := 59) F dX9_swaps_59 ?_
      refine go_iload (pc := 60) F dX9_swaps_60 0 rfl ?_
      refine go_iast (pc := 62) 136 F dX9_swaps_62 rfl (by decide) h (fun V4 h => ?_)
      refine go_iinc (pc := 63) (x3 + 1) (lv' := [(3, .int (x3 + 1)), (4, .int y1), (0, .ref (AD G 112)), (1, .int x1), (2, .int x2)]) F dX9_swaps_63 (k := 4) rfl rfl (by decide) rfl ?_
      refine go_goto (pc := 66) 2 F dX9_swaps_66 (by decide) ?_
      exact go_sub [2, 3, 4, 0] rfl (ih V4 (x3 + 1) h)
set_option maxRecDepth 100000 in
set_option maxHeartbeats 4000000 in
theorem ct_X9_swaps (l : Launch) (G : Gm) (V : Wd) (x1 : Int32) (x2 : Int32) (z : Wd) (h : f_X9_swaps V x1 x2 = some z) : Ct l G yX9_swaps cX9_swaps 5 none 0 0 [.ref (AD G 112), .int x1, .int x2] V none z := by
  refine Ct.of (own := RX9) (by decide +kernel) rfl (Nat.le_of_ble_eq_true rfl) (fun E F he => ?_)
  clear he
  refine go_sub (lv' := [(0, .ref (AD G 112)), (1, .int x1), (2, .int x2)]) [0, 1, 2] rfl ?_
  unfold f_X9_swaps at h
  refine go_iconst (pc := 0) 0 F dX9_swaps_0 (by decide) ?_
  refine go_istoren (pc := 1) (lv' := [(3, .int 0), (0, .ref (AD G 112)), (1, .int x1), (2, .int x2)]) F dX9_swaps_1 (by decide) rfl ?_
  exact go_sub [1, 2, 3, 0] rfl (lb_X9_swaps_2 F FU_ V 0 h)
set_option maxRecDepth 100000 in
set_option maxHeartbeats 4000000 in
theorem ct_X9_exchange (l : Launch) (G : Gm) (V : Wd) (x1 : Int32) (x2 : Int32) (z : Int32 × Wd) (h : f_X9_exchange V x1 x2 = some z) : Ct l G yX9_exchange cX9_exchange 3 (some .int) 2 42 [.ref (AD G 112), .int x1, .int x2] V (some (.int z.1)) z.2 := by
  refine Ct.of (own := RX9) (by decide +kernel) rfl (Nat.le_of_ble_eq_true rfl) (fun E F he => ?_)
  clear he
  refine go_sub (lv' := [(0, .ref (AD G 112)), (1, .int x1), (2, .int x2)]) [0, 1, 2] rfl ?_
  unfold f_X9_exchange at h
  refine go_iloadn (pc := 0) F dX9_exchange_0 1 rfl ?_
  refine cv_X9_75 (pc := 1) F dX9_exchange_1 (ct_X9_isHalyard (enL E) G V x1) (by decide) (by decide) (Nat.le_of_ble_eq_true rfl) ?_
  refine go_if_eq (pc := 4) 14 F dX9_exchange_4 (by decide) h (fun c7 h => ?_) (fun c7 h => ?_)
  · refine go_iconst (pc := 14) (-1) F dX9_exchange_14 (by decide) ?_
    exact go_iretW (pc := 15) F dX9_exchange_15 h
  · refine go_iloadn (pc := 7) F dX9_exchange_7 2 rfl ?_
    refine cv_X9_75 (pc := 8) F dX9_exchange_8 (ct_X9_isHalyard (enL E) G V x2) (by decide) (by decide) (Nat.le_of_ble_eq_true rfl) ?_
    refine go_if_ne (pc := 11) 16 F dX9_exchange_11 (by decide) h (fun c6 h => ?_) (fun c6 h => ?_)
    · refine go_iloadn (pc := 16) F dX9_exchange_16 1 rfl ?_
      refine go_iloadn (pc := 17) F dX9_exchange_17 2 rfl ?_
      refine go_icmp_ne (pc := 18) 24 F dX9_exchange_18 (by decide) h (fun c5 h => ?_) (fun c5 h => ?_)
      · refine go_aloadn (pc := 24) F dX9_exchange_24 0 rfl ?_
        obtain ⟨V1, hV1, h⟩ := ob_ h
        refine cv_X9_57 (pc := 25) F dX9_exchange_25 rfl (ct_X9_recordAndDown (enL E) G V V1 hV1) (by decide) (by decide) (Nat.le_of_ble_eq_true rfl) ?_
        refine go_aloadn (pc := 28) F dX9_exchange_28 0 rfl ?_
        refine go_iloadn (pc := 29) F dX9_exchange_29 1 rfl ?_
        refine go_iloadn (pc := 30) F dX9_exchange_30 2 rfl ?_
        obtain ⟨V2, hV2, h⟩ := ob_ h
        refine cv_X9_85 (pc := 31) F dX9_exchange_31 rfl (ct_X9_swaps (enL E) G V1 x1 x2 V2 hV2) (by decide) (by decide) (Nat.le_of_ble_eq_true rfl) ?_
        refine go_aloadn (pc := 34) F dX9_exchange_34 0 rfl ?_
        refine go_iloadn (pc := 35) F dX9_exchange_35 1 rfl ?_
        obtain ⟨y3, hy3, h⟩ := ob_ h
        refine cv_X9_37 (pc := 36) F dX9_exchange_36 rfl (ct_X9_many (enL E) G V2 x1 y3 hy3) (by decide) (by decide) (Nat.le_of_ble_eq_true rfl) ?_
        refine go_aloadn (pc := 39) F dX9_exchange_39 0 rfl ?_
        refine go_iloadn (pc := 40) F dX9_exchange_40 2 rfl ?_
        obtain ⟨y4, hy4, h⟩ := ob_ h
        refine cv_X9_37 (pc := 41) F dX9_exchange_41 rfl (ct_X9_many (enL E) G V2 x2 y4 hy4) (by decide) (by decide) (Nat.le_of_ble_eq_true rfl) ?_
        refine go_iadd (pc := 44) F dX9_exchange_44 ?_
        exact go_iretW (pc := 45) F dX9_exchange_45 h
      · refine go_bipush (pc := 21) (-2) F dX9_exchange_21 (by decide) ?_
        exact go_iretW (pc := 23) F dX9_exchange_23 h
    · refine go_iconst (pc := 14) (-1) F dX9_exchange_14 (by decide) ?_
      exact go_iretW (pc := 15) F dX9_exchange_15 h
set_option maxRecDepth 100000 in
set_option maxHeartbeats 4000000 in
theorem lb_X9_hoists_4 {E : En} {G : Gm} (F : Fx E G (AG G) RX9 cX9_hoists 3 (some .int) 1 21 0 0) {V : Wd} {z : Int32} : ∀ (n : Nat) (x1 : Int32) (x2 : Int32), f_X9_hoists_4 V n x1 x2 = some z → Go E G (AG G) 0 0 (MQq E G (some (.int z)) V) 3 V 4 [(0, .ref (AD G 112)), (1, .int x1), (2, .int x2)] [] := by
  intro n
  induction n with
  | zero => intro x1 x2 h; cases h
  | succ n ih =>
    intro x1 x2 h
    rw [f_X9_hoists_4] at h
    refine go_iloadn (pc := 4) F dX9_hoists_4 2 rfl ?_
    refine go_iconst (pc := 5) 5 F dX9_hoists_5 (by decide) ?_
    refine go_icmp_ge (pc := 6) 31 F dX9_hoists_6 (by decide) h (fun c5 h => ?_) (fun c5 h => ?_)
    · refine go_iloadn (pc := 31) F dX9_hoists_31 1 rfl ?_
      exact go_iretR (pc := 32) F dX9_hoists_32 h
    · refine go_iloadn (pc := 9) F dX9_hoists_9 1 rfl ?_
      refine go_aloadn (pc := 10) F dX9_hoists_10 0 rfl ?_
      refine go_iloadn (pc := 11) F dX9_hoists_11 2 rfl ?_
      obtain ⟨y1, hy1, h⟩ := ob_ h
      refine cv_X9_37 (pc := 12) F dX9_hoists_12 rfl (ct_X9_many (enL E) G V x2 y1 hy1) (by decide) (by decide) (Nat.le_of_ble_eq_true rfl) ?_
      refine go_if_le (pc := 15) 22 F dX9_hoists_15 (by decide) h (fun c4 h => ?_) (fun c4 h => ?_)
      · refine go_iconst (pc := 22) 0 F dX9_hoists_22 (by decide) ?_
        refine go_iadd (pc := 23) F dX9_hoists_23 ?_
        refine go_topi h (fun y2 h => ?_)
        refine go_istoren (pc := 24) (lv' := [(1, .int y2), (0, .ref (AD G 112)), (2, .int x2)]) F dX9_hoists_24 (by decide) rfl ?_
        refine go_iinc (pc := 25) (x2 + 1) (lv' := [(2, .int (x2 + 1)), (1, .int y2), (0, .ref (AD G 112))]) F dX9_hoists_25 (k := 2) rfl rfl (by decide) rfl ?_
        refine go_goto (pc := 28) 4 F dX9_hoists_28 (by decide) ?_
        exact go_sub [2, 1, 0] rfl (ih y2 (x2 + 1) h)
      · refine go_iconst (pc := 18) 1 F dX9_hoists_18 (by decide) ?_
        refine go_goto (pc := 19) 23 F dX9_hoists_19 (by decide) ?_
        refine go_iadd (pc := 23) F dX9_hoists_23 ?_
        refine go_topi h (fun y3 h => ?_)
        refine go_istoren (pc := 24) (lv' := [(1, .int y3), (0, .ref (AD G 112)), (2, .int x2)]) F dX9_hoists_24 (by decide) rfl ?_
        refine go_iinc (pc := 25) (x2 + 1) (lv' := [(2, .int (x2 + 1)), (1, .int y3), (0, .ref (AD G 112))]) F dX9_hoists_25 (k := 2) rfl rfl (by decide) rfl ?_
        refine go_goto (pc := 28) 4 F dX9_hoists_28 (by decide) ?_
        exact go_sub [2, 1, 0] rfl (ih y3 (x2 + 1) h)
set_option maxRecDepth 100000 in
set_option maxHeartbeats 4000000 in
theorem ct_X9_hoists (l : Launch) (G : Gm) (V : Wd) (z : Int32) (h : f_X9_hoists V = some z) : Ct l G yX9_hoists cX9_hoists 3 (some .int) 1 21 [.ref (AD G 112)] V (some (.int z)) V := by
  refine Ct.of (own := RX9) (by decide +kernel) rfl (Nat.le_of_ble_eq_true rfl) (fun E F he => ?_)
  clear he
  refine go_sub (lv' := [(0, .ref (AD G 112))]) [0] rfl ?_
  unfold f_X9_hoists at h
  refine go_iconst (pc := 0) 0 F dX9_hoists_0 (by decide) ?_
  refine go_istoren (pc := 1) (lv' := [(1, .int 0), (0, .ref (AD G 112))]) F dX9_hoists_1 (by decide) rfl ?_
  refine go_iconst (pc := 2) 0 F dX9_hoists_2 (by decide) ?_
  refine go_istoren (pc := 3) (lv' := [(2, .int 0), (1, .int 0), (0, .ref (AD G 112))]) F dX9_hoists_3 (by decide) rfl ?_
  exact go_sub [2, 1, 0] rfl (lb_X9_hoists_4 F FU_ 0 0 h)
set_option maxRecDepth 100000 in
set_option maxHeartbeats 4000000 in
theorem lb_X9_makeEmpty_2 {E : En} {G : Gm} (F : Fx E G (AG G) RX9 cX9_makeEmpty 2 none 0 0 0 0) {z : Wd} : ∀ (n : Nat) (V : Wd) (x1 : Int32), f_X9_makeEmpty_2 n V x1 = some z → Go E G (AG G) 0 0 (MQq E G none z) 2 V 2 [(0, .ref (AD G 112)), (1, .int x1)] [] := by
  intro n
  induction n with
  | zero => intro V x1 h; cases h
  | succ n ih =>
    intro V x1 h
    rw [f_X9_makeEmpty_2] at h
    refine go_iloadn (pc := 2) F dX9_makeEmpty_2 1 rfl ?_
    refine go_iconst (pc := 3) 5 F dX9_makeEmpty_3 (by decide) ?_
    refine go_icmp_ge (pc := 4) 25 F dX9_makeEmpty_4 (by decide) h (fun c2 h => ?_) (fun c2 h => ?_)
    · exact go_vretW (pc := 25) F dX9_makeEmpty_25 h
    · refine go_aloadn (pc := 7) F dX9_makeEmpty_7 0 rfl ?_
      refine gf_X9_7 (pc := 8) F dX9_makeEmpty_8 rfl ?_
      refine go_bipush (pc := 11) 38 F dX9_makeEmpty_11 (by decide) ?_
      refine go_iconst (pc := 13) 5 F dX9_makeEmpty_13 (by decide) ?_
      refine go_iloadn (pc := 14) F dX9_makeEmpty_14 1 rfl ?_
      refine go_imul (pc := 15) F dX9_makeEmpty_15 ?_
      refine go_iadd (pc := 16) F dX9_makeEmpty_16 ?_
      refine go_iconst (pc := 17) 0 F dX9_makeEmpty_17 (by decide) ?_
      refine go_iast (pc := 18) 136 F dX9_makeEmpty_18 rfl (by decide) h (fun V1 h => ?_)
      refine go_iinc (pc := 19) (x1 + 1) (lv' := [(1, .int (x1 + 1)), (0, .ref (AD G 112))]) F dX9_makeEmpty_19 (k := 1) rfl rfl (by decide) rfl ?_
      refine go_goto (pc := 22) 2 F dX9_makeEmpty_22 (by decide) ?_
      exact go_sub [1, 0] rfl (ih V1 (x1 + 1) h)
set_option maxRecDepth 100000 in
set_option maxHeartbeats 4000000 in
theorem ct_X9_makeEmpty (l : Launch) (G : Gm) (V : Wd) (z : Wd) (h : f_X9_makeEmpty V = some z) : Ct l G yX9_makeEmpty cX9_makeEmpty 2 none 0 0 [.ref (AD G 112)] V none z := by
  refine Ct.of (own := RX9) (by decide +kernel) rfl (Nat.le_of_ble_eq_true rfl) (fun E F he => ?_)
  clear he
  refine go_sub (lv' := [(0, .ref (AD G 112))]) [0] rfl ?_
  unfold f_X9_makeEmpty at h
  refine go_iconst (pc := 0) 0 F dX9_makeEmpty_0 (by decide) ?_
  refine go_istoren (pc := 1) (lv' := [(1, .int 0), (0, .ref (AD G 112))]) F dX9_makeEmpty_1 (by decide) rfl ?_
  exact go_sub [1, 0] rfl (lb_X9_makeEmpty_2 F FU_ V 0 h)
set_option maxRecDepth 100000 in
set_option maxHeartbeats 4000000 in
theorem ct_X9_codeOf (l : Launch) (G : Gm) (V : Wd) (x1 : Int32) (z : Int32) (h : f_X9_codeOf V x1 = some z) : Ct l G yX9_codeOf cX9_codeOf 2 (some .int) 0 0 [.ref (AD G 112), .int x1] V (some (.int z)) V := by
  refine Ct.of (own := RX9) (by decide +kernel) rfl (Nat.le_of_ble_eq_true rfl) (fun E F he => ?_)
  clear he
  refine go_sub (lv' := [(0, .ref (AD G 112)), (1, .int x1)]) [0, 1] rfl ?_
  unfold f_X9_codeOf at h
  refine go_aloadn (pc := 0) F dX9_codeOf_0 0 rfl ?_
  refine gf_X9_7 (pc := 1) F dX9_codeOf_1 rfl ?_
  refine go_bipush (pc := 4) 63 F dX9_codeOf_4 (by decide) ?_
  refine go_iconst (pc := 6) 2 F dX9_codeOf_6 (by decide) ?_
  refine go_iloadn (pc := 7) F dX9_codeOf_7 1 rfl ?_
  refine go_imul (pc := 8) F dX9_codeOf_8 ?_
  refine go_iadd (pc := 9) F dX9_codeOf_9 ?_
  refine go_iald (pc := 10) 136 F dX9_codeOf_10 rfl (by decide) h (fun y1 h => ?_)
  exact go_iretR (pc := 11) F dX9_codeOf_11 h
set_option maxRecDepth 100000 in
set_option maxHeartbeats 4000000 in
theorem lb_X9_flagOn_2 {E : En} {G : Gm} (F : Fx E G (AG G) RX9 cX9_flagOn 4 (some .int) 1 22 0 0) {V : Wd} {x1 : Int32} {x2 : Int32} {z : Int32} : ∀ (n : Nat) (x3 : Int32), f_X9_flagOn_2 V x1 x2 n x3 = some z → Go E G (AG G) 0 0 (MQq E G (some (.int z)) V) 4 V 2 [(0, .ref (AD G 112)), (1, .int x1), (3, .int x3)] [] := by
  intro n
  induction n with
  | zero => intro x3 h; cases h
  | succ n ih =>
    intro x3 h
    rw [f_X9_flagOn_2] at h
    refine go_aloadn (pc := 2) F dX9_flagOn_2 0 rfl ?_
    refine go_iloadn (pc := 3) F dX9_flagOn_3 1 rfl ?_
    refine go_iloadn (pc := 4) F dX9_flagOn_4 2 rfl ?_
    obtain ⟨y1, hy1, h⟩ := ob_ h
    refine cv_X9_60 (pc := 5) F dX9_flagOn_5 rfl (ct_X9_signOn (enL E) G V x1 x3 y1 hy1) (by decide) (by decide) (Nat.le_of_ble_eq_true rfl) ?_
    refine go_bipush (pc := 8) 10 F dX9_flagOn_8 (by decide) ?_
    refine go_icmp_le (pc := 10) 26 F dX9_flagOn_10 (by decide) h (fun c5 h => ?_) (fun c5 h => ?_)
    · refine go_aloadn (pc := 26) F dX9_flagOn_26 0 rfl ?_
      refine go_iloadn (pc := 27) F dX9_flagOn_27 1 rfl ?_
      refine go_iloadn (pc := 28) F dX9_flagOn_28 2 rfl ?_
      obtain ⟨y2, hy2, h⟩ := ob_ h
      refine cv_X9_60 (pc := 29) F dX9_flagOn_29 rfl (ct_X9_signOn (enL E) G V x1 x3 y2 hy2) (by decide) (by decide) (Nat.le_of_ble_eq_true rfl) ?_
      exact go_iretR (pc := 32) F dX9_flagOn_32 h
    · refine go_aloadn (pc := 13) F dX9_flagOn_13 0 rfl ?_
      refine go_iloadn (pc := 14) F dX9_flagOn_14 1 rfl ?_
      refine go_iloadn (pc := 15) F dX9_flagOn_15 2 rfl ?_
      obtain ⟨y3, hy3, h⟩ := ob_ h
      refine cv_X9_60 (pc := 16) F dX9_flagOn_16 rfl (ct_X9_signOn (enL E) G V x1 x3 y3 hy3) (by decide) (by decide) (Nat.le_of_ble_eq_true rfl) ?_
      refine go_bipush (pc := 19) 10 F dX9_flagOn_19 (by decide) ?_
      refine go_isub (pc := 21) F dX9_flagOn_21 ?_
      refine go_topi h (fun y4 h => ?_)
      refine go_istoren (pc := 22) (lv' := [(3, .int y4), (0, .ref (AD G 112)), (1, .int x1)]) F dX9_flagOn_22 (by decide) rfl ?_
      refine go_goto (pc := 23) 2 F dX9_flagOn_23 (by decide) ?_
      exact go_sub [1, 2, 0] rfl (ih y4 h)
set_option maxRecDepth 100000 in
set_option maxHeartbeats 4000000 in
theorem ct_X9_flagOn (l : Launch) (G : Gm) (V : Wd) (x1 : Int32) (x2 : Int32) (z : Int32) (h : f_X9_flagOn V x1 x2 = some z) : Ct l G yX9_flagOn cX9_flagOn 4 (some .int) 1 22 [.ref (AD G 112), .int x1, .int x2] V (some (.int z)) V := by
  refine Ct.of (own := RX9) (by decide +kernel) rfl (Nat.le_of_ble_eq_true rfl) (fun E F he => ?_)
  clear he
  refine go_sub (lv' := [(0, .ref (AD G 112)), (1, .int x1), (2, .int x2)]) [0, 1, 2] rfl ?_
  unfold f_X9_flagOn at h
  refine go_iloadn (pc := 0) F dX9_flagOn_0 2 rfl ?_
  refine go_istoren (pc := 1) (lv' := [(3, .int x2), (0, .ref (AD G 112)), (1, .int x1), (2, .int x2)]) F dX9_flagOn_1 (by decide) rfl ?_
  exact go_sub [1, 2, 0] rfl (lb_X9_flagOn_2 F FU_ x2 h)
set_option maxRecDepth 100000 in
set_option maxHeartbeats 4000000 in
theorem ct_X9_droops (l : Launch) (G : Gm) (V : Wd) (x1 : Int32) (z : Int32) (h : f_X9_droops V x1 = some z) : Ct l G yX9_droops cX9_droops 2 (some .boolean) 1 22 [.ref (AD G 112), .int x1] V (some (.int z)) V := by
  refine Ct.of (own := RX9) (by decide +kernel) rfl (Nat.le_of_ble_eq_true rfl) (fun E F he => ?_)
  clear he
  refine go_sub (lv' := [(0, .ref (AD G 112)), (1, .int x1)]) [0, 1] rfl ?_
  unfold f_X9_droops at h
  refine go_aloadn (pc := 0) F dX9_droops_0 0 rfl ?_
  refine go_iloadn (pc := 1) F dX9_droops_1 1 rfl ?_
  refine go_iconst (pc := 2) 2 F dX9_droops_2 (by decide) ?_
  obtain ⟨y1, hy1, h⟩ := ob_ h
  refine cv_X9_49 (pc := 3) F dX9_droops_3 rfl (ct_X9_ofFlag (enL E) G V x1 2 y1 hy1) (by decide) (by decide) (Nat.le_of_ble_eq_true rfl) ?_
  refine go_aloadn (pc := 6) F dX9_droops_6 0 rfl ?_
  refine gf_X9_7 (pc := 7) F dX9_droops_7 rfl ?_
  refine go_iconst (pc := 10) 1 F dX9_droops_10 (by decide) ?_
  refine go_iald (pc := 11) 136 F dX9_droops_11 rfl (by decide) h (fun y2 h => ?_)
  refine go_icmp_le (pc := 12) 19 F dX9_droops_12 (by decide) h (fun c3 h => ?_) (fun c3 h => ?_)
  · refine go_iconst (pc := 19) 0 F dX9_droops_19 (by decide) ?_
    exact go_zretR (pc := 20) F dX9_droops_20 rfl h
  · refine go_iconst (pc := 15) 1 F dX9_droops_15 (by decide) ?_
    refine go_goto (pc := 16) 20 F dX9_droops_16 (by decide) ?_
    exact go_zretR (pc := 20) F dX9_droops_20 rfl h
set_option maxRecDepth 100000 in
set_option maxHeartbeats 4000000 in
theorem lb_X9_taken_26 {E : En} {G : Gm} (F : Fx E G (AG G) RX9 cX9_taken 4 (some .int) 2 46 0 0) {V : Wd} {x1 : Int32} {x2 : Int32} {z : Int32} (s0 : Int32) (h : f_X9_taken_26 V x1 x2 s0 = some z) : Go E G (AG G) 0 0 (MQq E G (some (.int z)) V) 4 V 26 [(0, .ref (AD G 112)), (2, .int x2)] [.int s0] := by
  unfold f_X9_taken_26 at h
  refine go_istoren (pc := 26) (lv' := [(3, .int s0), (0, .ref (AD G 112)), (2, .int x2)]) F dX9_taken_26 (by decide) rfl ?_
  refine go_iloadn (pc := 27) F dX9_taken_27 0 rfl ?_
  refine go_if_eq (pc := 28) 50 F dX9_taken_28 (by decide) h (fun c11 h => ?_) (fun c11 h => ?_)
  · refine go_aloadn (pc := 50) F dX9_taken_50 1 rfl ?_
    refine go_aloadn (pc := 51) F dX9_taken_51 1 rfl ?_
    refine go_iloadn (pc := 52) F dX9_taken_52 2 rfl ?_
    refine go_iconst (pc := 53) 1 F dX9_taken_53 (by decide) ?_
    obtain ⟨y5, hy5, h⟩ := ob_ h
    refine cv_X9_49 (pc := 54) F dX9_taken_54 rfl (ct_X9_ofFlag (enL E) G V x2 1 y5 hy5) (by decide) (by decide) (Nat.le_of_ble_eq_true rfl) ?_
    refine go_aloadn (pc := 57) F dX9_taken_57 1 rfl ?_
    refine go_iloadn (pc := 58) F dX9_taken_58 2 rfl ?_
    refine go_iconst (pc := 59) 0 F dX9_taken_59 (by decide) ?_
    obtain ⟨y6, hy6, h⟩ := ob_ h
    refine cv_X9_49 (pc := 60) F dX9_taken_60 rfl (ct_X9_ofFlag (enL E) G V x2 0 y6 hy6) (by decide) (by decide) (Nat.le_of_ble_eq_true rfl) ?_
    obtain ⟨y7, hy7, h⟩ := ob_ h
    refine cv_X9_72 (pc := 63) F dX9_taken_63 rfl (ct_X9_flagWith (enL E) G V y5 y6 y7 hy7) (by decide) (by decide) (Nat.le_of_ble_eq_true rfl) ?_
    exact go_iretR (pc := 66) F dX9_taken_66 h
  · refine go_aloadn (pc := 31) F dX9_taken_31 1 rfl ?_
    refine go_aloadn (pc := 32) F dX9_taken_32 1 rfl ?_
    refine go_iloadn (pc := 33) F dX9_taken_33 2 rfl ?_
    refine go_iconst (pc := 34) 0 F dX9_taken_34 (by decide) ?_
    obtain ⟨y8, hy8, h⟩ := ob_ h
    refine cv_X9_49 (pc := 35) F dX9_taken_35 rfl (ct_X9_ofFlag (enL E) G V x2 0 y8 hy8) (by decide) (by decide) (Nat.le_of_ble_eq_true rfl) ?_
    refine go_aloadn (pc := 38) F dX9_taken_38 1 rfl ?_
    refine go_iloadn (pc := 39) F dX9_taken_39 2 rfl ?_
    refine go_iconst (pc := 40) 1 F dX9_taken_40 (by decide) ?_
    obtain ⟨y9, hy9, h⟩ := ob_ h
    refine cv_X9_49 (pc := 41) F dX9_taken_41 rfl (ct_X9_ofFlag (enL E) G V x2 1 y9 hy9) (by decide) (by decide) (Nat.le_of_ble_eq_true rfl) ?_
    obtain ⟨y10, hy10, h⟩ := ob_ h
    refine cv_X9_72 (pc := 44) F dX9_taken_44 rfl (ct_X9_flagWith (enL E) G V y8 y9 y10 hy10) (by decide) (by decide) (Nat.le_of_ble_eq_true rfl) ?_
    refine go_goto (pc := 47) 66 F dX9_taken_47 (by decide) ?_
    exact go_iretR (pc := 66) F dX9_taken_66 h
set_option maxRecDepth 100000 in
set_option maxHeartbeats 4000000 in
theorem ct_X9_taken (l : Launch) (G : Gm) (V : Wd) (x1 : Int32) (x2 : Int32) (z : Int32) (h : f_X9_taken V x1 x2 = some z) : Ct l G yX9_taken cX9_taken 4 (some .int) 2 46 [.ref (AD G 112), .int x1, .int x2] V (some (.int z)) V := by
  refine Ct.of (own := RX9) (by decide +kernel) rfl (Nat.le_of_ble_eq_true rfl) (fun E F he => ?_)
  clear he
  refine go_sub (lv' := [(0, .ref (AD G 112)), (1, .int x1), (2, .int x2)]) [0, 1, 2] rfl ?_
  unfold f_X9_taken at h
  refine go_aloadn (pc := 0) F dX9_taken_0 0 rfl ?_
  refine go_iloadn (pc := 1) F dX9_taken_1 2 rfl ?_
  obtain ⟨y1, hy1, h⟩ := ob_ h
  refine cv_X9_107 (pc := 2) F dX9_taken_2 rfl (ct_X9_droops (enL E) G V x2 y1 hy1) (by decide) (by decide) (Nat.le_of_ble_eq_true rfl) ?_
  refine go_if_eq (pc := 5) 11 F dX9_taken_5 (by decide) h (fun c4 h => ?_) (fun c4 h => ?_)
  · refine go_iloadn (pc := 11) F dX9_taken_11 1 rfl ?_
    refine go_aloadn (pc := 12) F dX9_taken_12 0 rfl ?_
    refine gf_X9_7 (pc := 13) F dX9_taken_13 rfl ?_
    refine go_iconst (pc := 16) 2 F dX9_taken_16 (by decide) ?_
    refine go_iald (pc := 17) 136 F dX9_taken_17 rfl (by decide) h (fun y2 h => ?_)
    refine go_icmp_ne (pc := 18) 25 F dX9_taken_18 (by decide) h (fun c3 h => ?_) (fun c3 h => ?_)
    · refine go_iconst (pc := 25) 0 F dX9_taken_25 (by decide) ?_
      exact go_sub [0, 2] rfl (lb_X9_taken_26 F 0 h)
    · refine go_iconst (pc := 21) 1 F dX9_taken_21 (by decide) ?_
      refine go_goto (pc := 22) 26 F dX9_taken_22 (by decide) ?_
      exact go_sub [0, 2] rfl (lb_X9_taken_26 F 1 h)
  · refine go_bipush (pc := 8) (-6) F dX9_taken_8 (by decide) ?_
    exact go_iretR (pc := 10) F dX9_taken_10 h
set_option maxRecDepth 100000 in
set_option maxHeartbeats 4000000 in
theorem ct_X9_wordOf (l : Launch) (G : Gm) (V : Wd) (x1 : Int32) (z : Int32) (h : f_X9_wordOf V x1 = some z) : Ct l G yX9_wordOf cX9_wordOf 2 (some .int) 0 0 [.ref (AD G 112), .int x1] V (some (.int z)) V := by
  refine Ct.of (own := RX9) (by decide +kernel) rfl (Nat.le_of_ble_eq_true rfl) (fun E F he => ?_)
  clear he
  refine go_sub (lv' := [(0, .ref (AD G 112)), (1, .int x1)]) [0, 1] rfl ?_
  unfold f_X9_wordOf at h
  refine go_aloadn (pc := 0) F dX9_wordOf_0 0 rfl ?_
  refine gf_X9_7 (pc := 1) F dX9_wordOf_1 rfl ?_
  refine go_bipush (pc := 4) 63 F dX9_wordOf_4 (by decide) ?_
  refine go_iconst (pc := 6) 2 F dX9_wordOf_6 (by decide) ?_
  refine go_iloadn (pc := 7) F dX9_wordOf_7 1 rfl ?_
  refine go_imul (pc := 8) F dX9_wordOf_8 ?_
  refine go_iadd (pc := 9) F dX9_wordOf_9 ?_
  refine go_iconst (pc := 10) 1 F dX9_wordOf_10 (by decide) ?_
  refine go_iadd (pc := 11) F dX9_wordOf_11 ?_
  refine go_iald (pc := 12) 136 F dX9_wordOf_12 rfl (by decide) h (fun y1 h => ?_)
  exact go_iretR (pc := 13) F dX9_wordOf_13 h
set_option maxRecDepth 100000 in
set_option maxHeartbeats 4000000 in
theorem lb_X9_read_56 {E : En} {G : Gm} (F : Fx E G (AG G) RX9 cX9_read 6 (some .int) 3 69 0 0) {V : Wd} {x1 : Int32} {x2 : Int32} {z : Int32} : ∀ (n : Nat) (x3 : Int32) (x4 : Int32), f_X9_read_56 V x1 x2 n x3 x4 = some z → Go E G (AG G) 0 0 (MQq E G (some (.int z)) V) 6 V 56 [(0, .ref (AD G 112)), (3, .int x3), (4, .int x4)] [] := by
  intro n
  induction n with
  | zero => intro x3 x4 h; cases h
  | succ n ih =>
    intro x3 x4 h
    rw [f_X9_read_56] at h
    refine go_iload (pc := 56) F dX9_read_56 2 rfl ?_
    refine go_aloadn (pc := 58) F dX9_read_58 0 rfl ?_
    refine gf_X9_7 (pc := 59) F dX9_read_59 rfl ?_
    refine go_iconst (pc := 62) 5 F dX9_read_62 (by decide) ?_
    refine go_iald (pc := 63) 136 F dX9_read_63 rfl (by decide) h (fun y7 h => ?_)
    refine go_icmp_ge (pc := 64) 90 F dX9_read_64 (by decide) h (fun c11 h => ?_) (fun c11 h => ?_)
    · refine go_bipush (pc := 90) (-6) F dX9_read_90 (by decide) ?_
      exact go_iretR (pc := 92) F dX9_read_92 h
    · refine go_aloadn (pc := 67) F dX9_read_67 0 rfl ?_
      refine go_iload (pc := 68) F dX9_read_68 2 rfl ?_
      obtain ⟨y8, hy8, h⟩ := ob_ h
      refine cv_X9_119 (pc := 70) F dX9_read_70 rfl (ct_X9_codeOf (enL E) G V x4 y8 hy8) (by decide) (by decide) (Nat.le_of_ble_eq_true rfl) ?_
      refine go_iloadn (pc := 73) F dX9_read_73 1 rfl ?_
      refine go_icmp_ne (pc := 74) 84 F dX9_read_74 (by decide) h (fun c10 h => ?_) (fun c10 h => ?_)
      · refine go_iinc (pc := 84) (x4 + 1) (lv' := [(4, .int (x4 + 1)), (0, .ref (AD G 112)), (3, .int x3)]) F dX9_read_84 (k := 2) rfl rfl (by decide) rfl ?_
        refine go_goto (pc := 87) 56 F dX9_read_87 (by decide) ?_
        exact go_sub [1, 2, 0] rfl (ih x3 (x4 + 1) h)
      · refine go_aloadn (pc := 77) F dX9_read_77 0 rfl ?_
        refine go_iload (pc := 78) F dX9_read_78 2 rfl ?_
        obtain ⟨y9, hy9, h⟩ := ob_ h
        refine cv_X9_116 (pc := 80) F dX9_read_80 rfl (ct_X9_wordOf (enL E) G V x4 y9 hy9) (by decide) (by decide) (Nat.le_of_ble_eq_true rfl) ?_
        exact go_iretR (pc := 83) F dX9_read_83 h
set_option maxRecDepth 100000 in
set_option maxHeartbeats 4000000 in
theorem lb_X9_read_5 {E : En} {G : Gm} (F : Fx E G (AG G) RX9 cX9_read 6 (some .int) 3 69 0 0) {V : Wd} {x1 : Int32} {x2 : Int32} {z : Int32} : ∀ (n : Nat) (x3 : Int32) (x4 : Int32), f_X9_read_5 V x1 x2 n x3 x4 = some z → Go E G (AG G) 0 0 (MQq E G (some (.int z)) V) 6 V 5 [(0, .ref (AD G 112)), (1, .int x1), (2, .int x2), (3, .int x3), (4, .int x4)] [] := by
  intro n
  induction n with
  | zero => intro x3 x4 h; cases h
  | succ n ih =>
    intro x3 x4 h
    rw [f_X9_read_5] at h
    refine go_iload (pc := 5) F dX9_read_5 4 rfl ?_
    refine go_aloadn (pc := 7) F dX9_read_7 0 rfl ?_
    refine go_iloadn (pc := 8) F dX9_read_8 2 rfl ?_
    obtain ⟨y1, hy1, h⟩ := ob_ h
    refine cv_X9_37 (pc := 9) F dX9_read_9 rfl (ct_X9_many (enL E) G V x2 y1 hy1) (by decide) (by decide) (Nat.le_of_ble_eq_true rfl) ?_
    refine go_icmp_gt (pc := 12) 53 F dX9_read_12 (by decide) h (fun c6 h => ?_) (fun c6 h => ?_)
    · refine go_iconst (pc := 53) 0 F dX9_read_53 (by decide) ?_
      refine go_istore (pc := 54) (lv' := [(4, .int 0), (0, .ref (AD G 112)), (1, .int x1), (2, .int x2), (3, .int x3)]) F dX9_read_54 (by decide) rfl ?_
      exact go_sub [1, 4, 0] rfl (lb_X9_read_56 F FU_ x3 0 h)
    · refine go_aloadn (pc := 15) F dX9_read_15 0 rfl ?_
      refine go_iloadn (pc := 16) F dX9_read_16 1 rfl ?_
      refine go_aloadn (pc := 17) F dX9_read_17 0 rfl ?_
      refine go_iloadn (pc := 18) F dX9_read_18 2 rfl ?_
      refine go_iload (pc := 19) F dX9_read_19 4 rfl ?_
      obtain ⟨y2, hy2, h⟩ := ob_ h
      refine cv_X9_104 (pc := 21) F dX9_read_21 rfl (ct_X9_flagOn (enL E) G V x2 x4 y2 hy2) (by decide) (by decide) (Nat.le_of_ble_eq_true rfl) ?_
      obtain ⟨y3, hy3, h⟩ := ob_ h
      refine cv_X9_122 (pc := 24) F dX9_read_24 rfl (ct_X9_taken (enL E) G V x1 y2 y3 hy3) (by decide) (by decide) (Nat.le_of_ble_eq_true rfl) ?_
      refine go_istore (pc := 27) (lv' := [(5, .int y3), (0, .ref (AD G 112)), (1, .int x1), (2, .int x2), (3, .int x3), (4, .int x4)]) F dX9_read_27 (by decide) rfl ?_
      refine go_iload (pc := 29) F dX9_read_29 0 rfl ?_
      refine go_bipush (pc := 31) (-6) F dX9_read_31 (by decide) ?_
      refine go_icmp_ne (pc := 33) 39 F dX9_read_33 (by decide) h (fun c5 h => ?_) (fun c5 h => ?_)
      · refine go_bipush (pc := 39) 10 F dX9_read_39 (by decide) ?_
        refine go_iloadn (pc := 41) F dX9_read_41 4 rfl ?_
        refine go_imul (pc := 42) F dX9_read_42 ?_
        refine go_iload (pc := 43) F dX9_read_43 0 rfl ?_
        refine go_iadd (pc := 45) F dX9_read_45 ?_
        refine go_topi h (fun y4 h => ?_)
        refine go_istoren (pc := 46) (lv' := [(3, .int y4), (5, .int y3), (0, .ref (AD G 112)), (1, .int x1), (2, .int x2), (4, .int x4)]) F dX9_read_46 (by decide) rfl ?_
        refine go_iinc (pc := 47) (x4 + 1) (lv' := [(4, .int (x4 + 1)), (3, .int y4), (5, .int y3), (0, .ref (AD G 112)), (1, .int x1), (2, .int x2)]) F dX9_read_47 (k := 5) rfl rfl (by decide) rfl ?_
        refine go_goto (pc := 50) 5 F dX9_read_50 (by decide) ?_
        exact go_sub [3, 4, 5, 1, 0] rfl (ih y4 (x4 + 1) h)
      · refine go_bipush (pc := 36) (-6) F dX9_read_36 (by decide) ?_
        exact go_iretR (pc := 38) F dX9_read_38 h
set_option maxRecDepth 100000 in
set_option maxHeartbeats 4000000 in
theorem ct_X9_read (l : Launch) (G : Gm) (V : Wd) (x1 : Int32) (x2 : Int32) (z : Int32) (h : f_X9_read V x1 x2 = some z) : Ct l G yX9_read cX9_read 6 (some .int) 3 69 [.ref (AD G 112), .int x1, .int x2] V (some (.int z)) V := by
  refine Ct.of (own := RX9) (by decide +kernel) rfl (Nat.le_of_ble_eq_true rfl) (fun E F he => ?_)
  clear he
  refine go_sub (lv' := [(0, .ref (AD G 112)), (1, .int x1), (2, .int x2)]) [0, 1, 2] rfl ?_
  unfold f_X9_read at h
  refine go_iconst (pc := 0) 1 F dX9_read_0 (by decide) ?_
  refine go_istoren (pc := 1) (lv' := [(3, .int 1), (0, .ref (AD G 112)), (1, .int x1), (2, .int x2)]) F dX9_read_1 (by decide) rfl ?_
  refine go_iconst (pc := 2) 1 F dX9_read_2 (by decide) ?_
  refine go_istore (pc := 3) (lv' := [(4, .int 1), (3, .int 1), (0, .ref (AD G 112)), (1, .int x1), (2, .int x2)]) F dX9_read_3 (by decide) rfl ?_
  exact go_sub [2, 3, 4, 1, 0] rfl (lb_X9_read_5 F FU_ 1 1 h)
set_option maxRecDepth 100000 in
set_option maxHeartbeats 4000000 in
theorem lb_X9_wordAt_24 {E : En} {G : Gm} (F : Fx E G (AG G) RX9 cX9_wordAt 6 (some .int) 4 94 0 0) {V : Wd} {x1 : Int32} {x2 : Int32} {K5 : Int32 → Int32 → Option (Int32)} {z : Int32} (hK5 : ∀ (a3 : Int32) (a4 : Int32), K5 a3 a4 = some z → Go E G (AG G) 0 0 (MQq E G (some (.int z)) V) 6 V 5 [(0, .ref (AD G 112)), (1, .int x1), (3, .int a3), (4, .int a4)] []) (x3 : Int32) (x4 : Int32) (s0 : Int32) (h : f_X9_wordAt_24 V x1 x2 K5 x3 x4 s0 = some z) : Go E G (AG G) 0 0 (MQq E G (some (.int z)) V) 6 V 24 [(0, .ref (AD G 112)), (1, .int x1), (3, .int x3), (4, .int x4)] [.int s0] := by
  unfold f_X9_wordAt_24 at h
  refine go_istore (pc := 24) (lv' := [(5, .int s0), (0, .ref (AD G 112)), (1, .int x1), (3, .int x3), (4, .int x4)]) F dX9_wordAt_24 (by decide) rfl ?_
  refine go_aloadn (pc := 26) F dX9_wordAt_26 1 rfl ?_
  refine go_iload (pc := 27) F dX9_wordAt_27 0 rfl ?_
  obtain ⟨y3, hy3, h⟩ := ob_ h
  refine cv_X9_37 (pc := 29) F dX9_wordAt_29 rfl (ct_X9_many (enL E) G V s0 y3 hy3) (by decide) (by decide) (Nat.le_of_ble_eq_true rfl) ?_
  refine go_if_le (pc := 32) 50 F dX9_wordAt_32 (by decide) h (fun c6 h => ?_) (fun c6 h => ?_)
  · refine go_iinc (pc := 50) (x4 + 1) (lv' := [(4, .int (x4 + 1)), (5, .int s0), (0, .ref (AD G 112)), (1, .int x1), (3, .int x3)]) F dX9_wordAt_50 (k := 4) rfl rfl (by decide) rfl ?_
    refine go_goto (pc := 53) 5 F dX9_wordAt_53 (by decide) ?_
    exact go_sub [2, 3, 4, 0] rfl (hK5 x3 (x4 + 1) h)
  · refine go_iloadn (pc := 35) F dX9_wordAt_35 3 rfl ?_
    refine go_if_ne (pc := 36) 47 F dX9_wordAt_36 (by decide) h (fun c5 h => ?_) (fun c5 h => ?_)
    · refine go_iinc (pc := 47) (x3 + (-1)) (lv' := [(3, .int (x3 + (-1))), (5, .int s0), (0, .ref (AD G 112)), (1, .int x1), (4, .int x4)]) F dX9_wordAt_47 (k := 3) rfl rfl (by decide) rfl ?_
      refine go_iinc (pc := 50) (x4 + 1) (lv' := [(4, .int (x4 + 1)), (3, .int (x3 + (-1))), (5, .int s0), (0, .ref (AD G 112)), (1, .int x1)]) F dX9_wordAt_50 (k := 4) rfl rfl (by decide) rfl ?_
      refine go_goto (pc := 53) 5 F dX9_wordAt_53 (by decide) ?_
      exact go_sub [3, 4, 1, 0] rfl (hK5 (x3 + (-1)) (x4 + 1) h)
    · refine go_aloadn (pc := 39) F dX9_wordAt_39 1 rfl ?_
      refine go_iloadn (pc := 40) F dX9_wordAt_40 2 rfl ?_
      refine go_iload (pc := 41) F dX9_wordAt_41 0 rfl ?_
      obtain ⟨y4, hy4, h⟩ := ob_ h
      refine cv_X9_125 (pc := 43) F dX9_wordAt_43 rfl (ct_X9_read (enL E) G V x1 s0 y4 hy4) (by decide) (by decide) (Nat.le_of_ble_eq_true rfl) ?_
      exact go_iretR (pc := 46) F dX9_wordAt_46 h
set_option maxRecDepth 100000 in
set_option maxHeartbeats 4000000 in
theorem lb_X9_wordAt_5 {E : En} {G : Gm} (F : Fx E G (AG G) RX9 cX9_wordAt 6 (some .int) 4 94 0 0) {V : Wd} {x1 : Int32} {x2 : Int32} {z : Int32} : ∀ (n : Nat) (x3 : Int32) (x4 : Int32), f_X9_wordAt_5 V x1 x2 n x3 x4 = some z → Go E G (AG G) 0 0 (MQq E G (some (.int z)) V) 6 V 5 [(0, .ref (AD G 112)), (1, .int x1), (3, .int x3), (4, .int x4)] [] := by
  intro n
  induction n with
  | zero => intro x3 x4 h; cases h
  | succ n ih =>
    intro x3 x4 h
    rw [f_X9_wordAt_5] at h
    refine go_iload (pc := 5) F dX9_wordAt_5 3 rfl ?_
    refine go_iconst (pc := 7) 5 F dX9_wordAt_7 (by decide) ?_
    refine go_icmp_ge (pc := 8) 56 F dX9_wordAt_8 (by decide) h (fun c2 h => ?_) (fun c2 h => ?_)
    · refine go_bipush (pc := 56) (-6) F dX9_wordAt_56 (by decide) ?_
      exact go_iretR (pc := 58) F dX9_wordAt_58 h
    · refine go_iloadn (pc := 11) F dX9_wordAt_11 1 rfl ?_
      refine go_if_ne (pc := 12) 20 F dX9_wordAt_12 (by decide) h (fun c1 h => ?_) (fun c1 h => ?_)
      · refine go_iconst (pc := 20) 4 F dX9_wordAt_20 (by decide) ?_
        refine go_iload (pc := 21) F dX9_wordAt_21 3 rfl ?_
        refine go_isub (pc := 23) F dX9_wordAt_23 ?_
        exact go_sub [0, 1, 2, 3] rfl (lb_X9_wordAt_24 F (fun a3 a4 h => ih a3 a4 h) x3 x4 (4 - x4) h)
      · refine go_iload (pc := 15) F dX9_wordAt_15 3 rfl ?_
        refine go_goto (pc := 17) 24 F dX9_wordAt_17 (by decide) ?_
        exact go_sub [0, 1, 2, 3] rfl (lb_X9_wordAt_24 F (fun a3 a4 h => ih a3 a4 h) x3 x4 x4 h)
set_option maxRecDepth 100000 in
set_option maxHeartbeats 4000000 in
theorem ct_X9_wordAt (l : Launch) (G : Gm) (V : Wd) (x1 : Int32) (x2 : Int32) (z : Int32) (h : f_X9_wordAt V x1 x2 = some z) : Ct l G yX9_wordAt cX9_wordAt 6 (some .int) 4 94 [.ref (AD G 112), .int x1, .int x2] V (some (.int z)) V := by
  refine Ct.of (own := RX9) (by decide +kernel) rfl (Nat.le_of_ble_eq_true rfl) (fun E F he => ?_)
  clear he
  refine go_sub (lv' := [(0, .ref (AD G 112)), (1, .int x1), (2, .int x2)]) [0, 1, 2] rfl ?_
  unfold f_X9_wordAt at h
  refine go_iloadn (pc := 0) F dX9_wordAt_0 2 rfl ?_
  refine go_istoren (pc := 1) (lv' := [(3, .int x2), (0, .ref (AD G 112)), (1, .int x1), (2, .int x2)]) F dX9_wordAt_1 (by decide) rfl ?_
  refine go_iconst (pc := 2) 0 F dX9_wordAt_2 (by decide) ?_
  refine go_istore (pc := 3) (lv' := [(4, .int 0), (3, .int x2), (0, .ref (AD G 112)), (1, .int x1), (2, .int x2)]) F dX9_wordAt_3 (by decide) rfl ?_
  exact go_sub [2, 3, 1, 0] rfl (lb_X9_wordAt_5 F FU_ x2 0 h)
set_option maxRecDepth 100000 in
set_option maxHeartbeats 4000000 in
theorem lb_X9_logs_124 {E : En} {G : Gm} (F : Fx E G (AG G) RX9 cX9_logs 3 none 5 119 0 0) {z : Wd} (V : Wd) (h : f_X9_logs_124 V = some z) : Go E G (AG G) 0 0 (MQq E G none z) 3 V 124 [(0, .ref (AD G 112))] [] := by
  unfold f_X9_logs_124 at h
  refine go_aloadn (pc := 124) F dX9_logs_124 0 rfl ?_
  refine gf_X9_7 (pc := 125) F dX9_logs_125 rfl ?_
  refine go_bipush (pc := 128) 6 F dX9_logs_128 (by decide) ?_
  refine go_dup2 (pc := 130) F dX9_logs_130 rfl rfl ?_
  refine go_iald (pc := 131) 136 F dX9_logs_131 rfl (by decide) h (fun y19 h => ?_)
  refine go_iconst (pc := 132) 1 F dX9_logs_132 (by decide) ?_
  refine go_iadd (pc := 133) F dX9_logs_133 ?_
  refine go_iast (pc := 134) 136 F dX9_logs_134 rfl (by decide) h (fun V20 h => ?_)
  refine go_aloadn (pc := 135) F dX9_logs_135 0 rfl ?_
  refine gf_X9_7 (pc := 136) F dX9_logs_136 rfl ?_
  refine go_bipush (pc := 139) 7 F dX9_logs_139 (by decide) ?_
  refine go_dup2 (pc := 141) F dX9_logs_141 rfl rfl ?_
  refine go_iald (pc := 142) 136 F dX9_logs_142 rfl (by decide) h (fun y21 h => ?_)
  refine go_iconst (pc := 143) 1 F dX9_logs_143 (by decide) ?_
  refine go_iadd (pc := 144) F dX9_logs_144 ?_
  refine go_iast (pc := 145) 136 F dX9_logs_145 rfl (by decide) h (fun V22 h => ?_)
  exact go_vretW (pc := 146) F dX9_logs_146 h
set_option maxRecDepth 100000 in
set_option maxHeartbeats 4000000 in
theorem lb_X9_logs_80 {E : En} {G : Gm} (F : Fx E G (AG G) RX9 cX9_logs 3 none 5 119 0 0) {z : Wd} : ∀ (n : Nat) (V : Wd) (x1 : Int32) (x2 : Int32), f_X9_logs_80 n V x1 x2 = some z → Go E G (AG G) 0 0 (MQq E G none z) 3 V 80 [(0, .ref (AD G 112)), (1, .int x1), (2, .int x2)] [] := by
  intro n
  induction n with
  | zero => intro V x1 x2 h; cases h
  | succ n ih =>
    intro V x1 x2 h
    rw [f_X9_logs_80] at h
    refine go_iloadn (pc := 80) F dX9_logs_80 2 rfl ?_
    refine go_iconst (pc := 81) 5 F dX9_logs_81 (by decide) ?_
    refine go_icmp_ge (pc := 82) 124 F dX9_logs_82 (by decide) h (fun c16 h => ?_) (fun c16 h => ?_)
    · exact go_sub [0] rfl (lb_X9_logs_124 F V h)
    · refine go_aloadn (pc := 85) F dX9_logs_85 0 rfl ?_
      refine gf_X9_7 (pc := 86) F dX9_logs_86 rfl ?_
      refine go_iloadn (pc := 89) F dX9_logs_89 1 rfl ?_
      refine go_iconst (pc := 90) 1 F dX9_logs_90 (by decide) ?_
      refine go_iadd (pc := 91) F dX9_logs_91 ?_
      refine go_iloadn (pc := 92) F dX9_logs_92 2 rfl ?_
      refine go_iadd (pc := 93) F dX9_logs_93 ?_
      refine go_iloadn (pc := 94) F dX9_logs_94 2 rfl ?_
      refine go_aloadn (pc := 95) F dX9_logs_95 0 rfl ?_
      obtain ⟨y10, hy10, h⟩ := ob_ h
      refine cv_X9_88 (pc := 96) F dX9_logs_96 rfl (ct_X9_hoists (enL E) G V y10 hy10) (by decide) (by decide) (Nat.le_of_ble_eq_true rfl) ?_
      refine go_icmp_ge (pc := 99) 116 F dX9_logs_99 (by decide) h (fun c15 h => ?_) (fun c15 h => ?_)
      · refine go_iconst (pc := 116) 0 F dX9_logs_116 (by decide) ?_
        refine go_iast (pc := 117) 136 F dX9_logs_117 rfl (by decide) h (fun V11 h => ?_)
        refine go_iinc (pc := 118) (x2 + 1) (lv' := [(2, .int (x2 + 1)), (0, .ref (AD G 112)), (1, .int x1)]) F dX9_logs_118 (k := 2) rfl rfl (by decide) rfl ?_
        refine go_goto (pc := 121) 80 F dX9_logs_121 (by decide) ?_
        exact go_sub [1, 2, 0] rfl (ih V11 x1 (x2 + 1) h)
      · refine go_aloadn (pc := 102) F dX9_logs_102 0 rfl ?_
        refine go_aloadn (pc := 103) F dX9_logs_103 0 rfl ?_
        refine gf_X9_7 (pc := 104) F dX9_logs_104 rfl ?_
        refine go_iconst (pc := 107) 3 F dX9_logs_107 (by decide) ?_
        refine go_iald (pc := 108) 136 F dX9_logs_108 rfl (by decide) h (fun y12 h => ?_)
        refine go_iloadn (pc := 109) F dX9_logs_109 2 rfl ?_
        obtain ⟨y13, hy13, h⟩ := ob_ h
        refine cv_X9_91 (pc := 110) F dX9_logs_110 rfl (ct_X9_wordAt (enL E) G V y12 x2 y13 hy13) (by decide) (by decide) (Nat.le_of_ble_eq_true rfl) ?_
        refine go_goto (pc := 113) 117 F dX9_logs_113 (by decide) ?_
        refine go_iast (pc := 117) 136 F dX9_logs_117 rfl (by decide) h (fun V14 h => ?_)
        refine go_iinc (pc := 118) (x2 + 1) (lv' := [(2, .int (x2 + 1)), (0, .ref (AD G 112)), (1, .int x1)]) F dX9_logs_118 (k := 2) rfl rfl (by decide) rfl ?_
        refine go_goto (pc := 121) 80 F dX9_logs_121 (by decide) ?_
        exact go_sub [1, 2, 0] rfl (ih V14 x1 (x2 + 1) h)
set_option maxRecDepth 100000 in
set_option maxHeartbeats 4000000 in
theorem lb_X9_logs_54 {E : En} {G : Gm} (F : Fx E G (AG G) RX9 cX9_logs 3 none 5 119 0 0) {z : Wd} (V : Wd) (h : f_X9_logs_54 V = some z) : Go E G (AG G) 0 0 (MQq E G none z) 3 V 54 [(0, .ref (AD G 112))] [] := by
  unfold f_X9_logs_54 at h
  refine go_bipush (pc := 54) 87 F dX9_logs_54 (by decide) ?_
  refine go_bipush (pc := 56) 6 F dX9_logs_56 (by decide) ?_
  refine go_aloadn (pc := 58) F dX9_logs_58 0 rfl ?_
  refine gf_X9_7 (pc := 59) F dX9_logs_59 rfl ?_
  refine go_bipush (pc := 62) 6 F dX9_logs_62 (by decide) ?_
  refine go_iald (pc := 64) 136 F dX9_logs_64 rfl (by decide) h (fun y3 h => ?_)
  refine go_imul (pc := 65) F dX9_logs_65 ?_
  refine go_iadd (pc := 66) F dX9_logs_66 ?_
  refine go_topi h (fun y4 h => ?_)
  refine go_istoren (pc := 67) (lv' := [(1, .int y4), (0, .ref (AD G 112))]) F dX9_logs_67 (by decide) rfl ?_
  refine go_aloadn (pc := 68) F dX9_logs_68 1 rfl ?_
  refine gf_X9_7 (pc := 69) F dX9_logs_69 rfl ?_
  refine go_iloadn (pc := 72) F dX9_logs_72 0 rfl ?_
  refine go_aloadn (pc := 73) F dX9_logs_73 1 rfl ?_
  obtain ⟨y5, hy5, h⟩ := ob_ h
  refine cv_X9_88 (pc := 74) F dX9_logs_74 rfl (ct_X9_hoists (enL E) G V y5 hy5) (by decide) (by decide) (Nat.le_of_ble_eq_true rfl) ?_
  refine go_iast (pc := 77) 136 F dX9_logs_77 rfl (by decide) h (fun V6 h => ?_)
  refine go_iconst (pc := 78) 0 F dX9_logs_78 (by decide) ?_
  refine go_istoren (pc := 79) (lv' := [(2, .int 0), (1, .int y4), (0, .ref (AD G 112))]) F dX9_logs_79 (by decide) rfl ?_
  exact go_sub [2, 1, 0] rfl (lb_X9_logs_80 F FU_ V6 y4 0 h)
set_option maxRecDepth 100000 in
set_option maxHeartbeats 4000000 in
theorem lb_X9_logs_43 {E : En} {G : Gm} (F : Fx E G (AG G) RX9 cX9_logs 3 none 5 119 0 0) {z : Wd} (V : Wd) (h : f_X9_logs_43 V = some z) : Go E G (AG G) 0 0 (MQq E G none z) 3 V 43 [(0, .ref (AD G 112))] [] := by
  unfold f_X9_logs_43 at h
  refine go_aloadn (pc := 43) F dX9_logs_43 0 rfl ?_
  refine gf_X9_7 (pc := 44) F dX9_logs_44 rfl ?_
  refine go_bipush (pc := 47) 6 F dX9_logs_47 (by decide) ?_
  refine go_dup2 (pc := 49) F dX9_logs_49 rfl rfl ?_
  refine go_iald (pc := 50) 136 F dX9_logs_50 rfl (by decide) h (fun y17 h => ?_)
  refine go_iconst (pc := 51) 1 F dX9_logs_51 (by decide) ?_
  refine go_isub (pc := 52) F dX9_logs_52 ?_
  refine go_iast (pc := 53) 136 F dX9_logs_53 rfl (by decide) h (fun V18 h => ?_)
  exact go_sub [0] rfl (lb_X9_logs_54 F V18 h)
set_option maxRecDepth 100000 in
set_option maxHeartbeats 4000000 in
theorem lb_X9_logs_15 {E : En} {G : Gm} (F : Fx E G (AG G) RX9 cX9_logs 3 none 5 119 0 0) {z : Wd} : ∀ (n : Nat) (V : Wd) (x1 : Int32), f_X9_logs_15 n V x1 = some z → Go E G (AG G) 0 0 (MQq E G none z) 3 V 15 [(0, .ref (AD G 112)), (1, .int x1)] [] := by
  intro n
  induction n with
  | zero => intro V x1 h; cases h
  | succ n ih =>
    intro V x1 h
    rw [f_X9_logs_15] at h
    refine go_iloadn (pc := 15) F dX9_logs_15 1 rfl ?_
    refine go_sipush (pc := 16) 129 F dX9_logs_16 (by decide) ?_
    refine go_icmp_ge (pc := 19) 43 F dX9_logs_19 (by decide) h (fun c9 h => ?_) (fun c9 h => ?_)
    · exact go_sub [0] rfl (lb_X9_logs_43 F V h)
    · refine go_aloadn (pc := 22) F dX9_logs_22 0 rfl ?_
      refine gf_X9_7 (pc := 23) F dX9_logs_23 rfl ?_
      refine go_iloadn (pc := 26) F dX9_logs_26 1 rfl ?_
      refine go_aloadn (pc := 27) F dX9_logs_27 0 rfl ?_
      refine gf_X9_7 (pc := 28) F dX9_logs_28 rfl ?_
      refine go_iloadn (pc := 31) F dX9_logs_31 1 rfl ?_
      refine go_bipush (pc := 32) 6 F dX9_logs_32 (by decide) ?_
      refine go_iadd (pc := 34) F dX9_logs_34 ?_
      refine go_iald (pc := 35) 136 F dX9_logs_35 rfl (by decide) h (fun y7 h => ?_)
      refine go_iast (pc := 36) 136 F dX9_logs_36 rfl (by decide) h (fun V8 h => ?_)
      refine go_iinc (pc := 37) (x1 + 1) (lv' := [(1, .int (x1 + 1)), (0, .ref (AD G 112))]) F dX9_logs_37 (k := 1) rfl rfl (by decide) rfl ?_
      refine go_goto (pc := 40) 15 F dX9_logs_40 (by decide) ?_
      exact go_sub [1, 0] rfl (ih V8 (x1 + 1) h)
set_option maxRecDepth 100000 in
set_option maxHeartbeats 4000000 in
theorem ct_X9_logs (l : Launch) (G : Gm) (V : Wd) (z : Wd) (h : f_X9_logs V = some z) : Ct l G yX9_logs cX9_logs 3 none 5 119 [.ref (AD G 112)] V none z := by
  refine Ct.of (own := RX9) (by decide +kernel) rfl (Nat.le_of_ble_eq_true rfl) (fun E F he => ?_)
  clear he
  refine go_sub (lv' := [(0, .ref (AD G 112))]) [0] rfl ?_
  unfold f_X9_logs at h
  refine go_aloadn (pc := 0) F dX9_logs_0 0 rfl ?_
  refine gf_X9_7 (pc := 1) F dX9_logs_1 rfl ?_
  refine go_bipush (pc := 4) 6 F dX9_logs_4 (by decide) ?_
  refine go_iald (pc := 6) 136 F dX9_logs_6 rfl (by decide) h (fun y1 h => ?_)
  refine go_bipush (pc := 7) 8 F dX9_logs_7 (by decide) ?_
  refine go_icmp_ne (pc := 9) 54 F dX9_logs_9 (by decide) h (fun c2 h => ?_) (fun c2 h => ?_)
  · exact go_sub [0] rfl (lb_X9_logs_54 F V h)
  · refine go_bipush (pc := 12) 87 F dX9_logs_12 (by decide) ?_
    refine go_istoren (pc := 14) (lv' := [(1, .int 87), (0, .ref (AD G 112))]) F dX9_logs_14 (by decide) rfl ?_
    exact go_sub [1, 0] rfl (lb_X9_logs_15 F FU_ V 87 h)
set_option maxRecDepth 100000 in
set_option maxHeartbeats 4000000 in
theorem ct_X9_lower (l : Launch) (G : Gm) (V : Wd) (z : Int32 × Wd) (h : f_X9_lower V = some z) : Ct l G yX9_lower cX9_lower 2 (some .int) 6 141 [.ref (AD G 112)] V (some (.int z.1)) z.2 := by
  refine Ct.of (own := RX9) (by decide +kernel) rfl (Nat.le_of_ble_eq_true rfl) (fun E F he => ?_)
  clear he
  refine go_sub (lv' := [(0, .ref (AD G 112))]) [0] rfl ?_
  unfold f_X9_lower at h
  refine go_aloadn (pc := 0) F dX9_lower_0 0 rfl ?_
  obtain ⟨V1, hV1, h⟩ := ob_ h
  refine cv_X9_34 (pc := 1) F dX9_lower_1 rfl (ct_X9_record (enL E) G V V1 hV1) (by decide) (by decide) (Nat.le_of_ble_eq_true rfl) ?_
  refine go_aloadn (pc := 4) F dX9_lower_4 0 rfl ?_
  refine gf_X9_7 (pc := 5) F dX9_lower_5 rfl ?_
  refine go_iconst (pc := 8) 4 F dX9_lower_8 (by decide) ?_
  refine go_iald (pc := 9) 136 F dX9_lower_9 rfl (by decide) h (fun y2 h => ?_)
  refine go_iconst (pc := 10) 2 F dX9_lower_10 (by decide) ?_
  refine go_icmp_ne (pc := 11) 21 F dX9_lower_11 (by decide) h (fun c16 h => ?_) (fun c16 h => ?_)
  · refine go_iconst (pc := 21) 0 F dX9_lower_21 (by decide) ?_
    refine go_istoren (pc := 22) (lv' := [(1, .int 0), (0, .ref (AD G 112))]) F dX9_lower_22 (by decide) rfl ?_
    refine go_iloadn (pc := 23) F dX9_lower_23 0 rfl ?_
    refine go_if_le (pc := 24) 31 F dX9_lower_24 (by decide) h (fun c8 h => ?_) (fun c8 h => ?_)
    · refine go_aloadn (pc := 31) F dX9_lower_31 1 rfl ?_
      obtain ⟨V3, hV3, h⟩ := ob_ h
      refine cv_X9_97 (pc := 32) F dX9_lower_32 rfl (ct_X9_makeEmpty (enL E) G V1 V3 hV3) (by decide) (by decide) (Nat.le_of_ble_eq_true rfl) ?_
      refine go_aloadn (pc := 35) F dX9_lower_35 1 rfl ?_
      refine gf_X9_7 (pc := 36) F dX9_lower_36 rfl ?_
      refine go_iconst (pc := 39) 4 F dX9_lower_39 (by decide) ?_
      refine go_iconst (pc := 40) 0 F dX9_lower_40 (by decide) ?_
      refine go_iast (pc := 41) 136 F dX9_lower_41 rfl (by decide) h (fun V4 h => ?_)
      refine go_iloadn (pc := 42) F dX9_lower_42 0 rfl ?_
      exact go_iretW (pc := 43) F dX9_lower_43 h
    · refine go_aloadn (pc := 27) F dX9_lower_27 1 rfl ?_
      obtain ⟨V5, hV5, h⟩ := ob_ h
      refine cv_X9_94 (pc := 28) F dX9_lower_28 rfl (ct_X9_logs (enL E) G V1 V5 hV5) (by decide) (by decide) (Nat.le_of_ble_eq_true rfl) ?_
      refine go_aloadn (pc := 31) F dX9_lower_31 1 rfl ?_
      obtain ⟨V6, hV6, h⟩ := ob_ h
      refine cv_X9_97 (pc := 32) F dX9_lower_32 rfl (ct_X9_makeEmpty (enL E) G V5 V6 hV6) (by decide) (by decide) (Nat.le_of_ble_eq_true rfl) ?_
      refine go_aloadn (pc := 35) F dX9_lower_35 1 rfl ?_
      refine gf_X9_7 (pc := 36) F dX9_lower_36 rfl ?_
      refine go_iconst (pc := 39) 4 F dX9_lower_39 (by decide) ?_
      refine go_iconst (pc := 40) 0 F dX9_lower_40 (by decide) ?_
      refine go_iast (pc := 41) 136 F dX9_lower_41 rfl (by decide) h (fun V7 h => ?_)
      refine go_iloadn (pc := 42) F dX9_lower_42 0 rfl ?_
      exact go_iretW (pc := 43) F dX9_lower_43 h
  · refine go_aloadn (pc := 14) F dX9_lower_14 0 rfl ?_
    obtain ⟨y9, hy9, h⟩ := ob_ h
    refine cv_X9_88 (pc := 15) F dX9_lower_15 rfl (ct_X9_hoists (enL E) G V1 y9 hy9) (by decide) (by decide) (Nat.le_of_ble_eq_true rfl) ?_
    refine go_goto (pc := 18) 22 F dX9_lower_18 (by decide) ?_
    refine go_istoren (pc := 22) (lv' := [(1, .int y9), (0, .ref (AD G 112))]) F dX9_lower_22 (by decide) rfl ?_
    refine go_iloadn (pc := 23) F dX9_lower_23 0 rfl ?_
    refine go_if_le (pc := 24) 31 F dX9_lower_24 (by decide) h (fun c15 h => ?_) (fun c15 h => ?_)
    · refine go_aloadn (pc := 31) F dX9_lower_31 1 rfl ?_
      obtain ⟨V10, hV10, h⟩ := ob_ h
      refine cv_X9_97 (pc := 32) F dX9_lower_32 rfl (ct_X9_makeEmpty (enL E) G V1 V10 hV10) (by decide) (by decide) (Nat.le_of_ble_eq_true rfl) ?_
      refine go_aloadn (pc := 35) F dX9_lower_35 1 rfl ?_
      refine gf_X9_7 (pc := 36) F dX9_lower_36 rfl ?_
      refine go_iconst (pc := 39) 4 F dX9_lower_39 (by decide) ?_
      refine go_iconst (pc := 40) 0 F dX9_lower_40 (by decide) ?_
      refine go_iast (pc := 41) 136 F dX9_lower_41 rfl (by decide) h (fun V11 h => ?_)
      refine go_iloadn (pc := 42) F dX9_lower_42 0 rfl ?_
      exact go_iretW (pc := 43) F dX9_lower_43 h
    · refine go_aloadn (pc := 27) F dX9_lower_27 1 rfl ?_
      obtain ⟨V12, hV12, h⟩ := ob_ h
      refine cv_X9_94 (pc := 28) F dX9_lower_28 rfl (ct_X9_logs (enL E) G V1 V12 hV12) (by decide) (by decide) (Nat.le_of_ble_eq_true rfl) ?_
      refine go_aloadn (pc := 31) F dX9_lower_31 1 rfl ?_
      obtain ⟨V13, hV13, h⟩ := ob_ h
      refine cv_X9_97 (pc := 32) F dX9_lower_32 rfl (ct_X9_makeEmpty (enL E) G V12 V13 hV13) (by decide) (by decide) (Nat.le_of_ble_eq_true rfl) ?_
      refine go_aloadn (pc := 35) F dX9_lower_35 1 rfl ?_
      refine gf_X9_7 (pc := 36) F dX9_lower_36 rfl ?_
      refine go_iconst (pc := 39) 4 F dX9_lower_39 (by decide) ?_
      refine go_iconst (pc := 40) 0 F dX9_lower_40 (by decide) ?_
      refine go_iast (pc := 41) 136 F dX9_lower_41 rfl (by decide) h (fun V14 h => ?_)
      refine go_iloadn (pc := 42) F dX9_lower_42 0 rfl ?_
      exact go_iretW (pc := 43) F dX9_lower_43 h
set_option maxRecDepth 100000 in
set_option maxHeartbeats 4000000 in
theorem ct_X9_isPlace (l : Launch) (G : Gm) (V : Wd) (x1 : Int32) (x2 : Int32) (z : Int32) (h : f_X9_isPlace V x1 x2 = some z) : Ct l G yX9_isPlace cX9_isPlace 3 (some .boolean) 2 42 [.ref (AD G 112), .int x1, .int x2] V (some (.int z)) V := by
  refine Ct.of (own := RX9) (by decide +kernel) rfl (Nat.le_of_ble_eq_true rfl) (fun E F he => ?_)
  clear he
  refine go_sub (lv' := [(0, .ref (AD G 112)), (1, .int x1), (2, .int x2)]) [0, 1, 2] rfl ?_
  unfold f_X9_isPlace at h
  refine go_iloadn (pc := 0) F dX9_isPlace_0 1 rfl ?_
  refine cv_X9_75 (pc := 1) F dX9_isPlace_1 (ct_X9_isHalyard (enL E) G V x1) (by decide) (by decide) (Nat.le_of_ble_eq_true rfl) ?_
  refine go_if_eq (pc := 4) 24 F dX9_isPlace_4 (by decide) h (fun c3 h => ?_) (fun c3 h => ?_)
  · refine go_iconst (pc := 24) 0 F dX9_isPlace_24 (by decide) ?_
    exact go_zretR (pc := 25) F dX9_isPlace_25 rfl h
  · refine go_iloadn (pc := 7) F dX9_isPlace_7 2 rfl ?_
    refine go_iconst (pc := 8) 1 F dX9_isPlace_8 (by decide) ?_
    refine go_aloadn (pc := 9) F dX9_isPlace_9 0 rfl ?_
    refine go_iloadn (pc := 10) F dX9_isPlace_10 1 rfl ?_
    obtain ⟨y1, hy1, h⟩ := ob_ h
    refine cv_X9_37 (pc := 11) F dX9_isPlace_11 rfl (ct_X9_many (enL E) G V x1 y1 hy1) (by decide) (by decide) (Nat.le_of_ble_eq_true rfl) ?_
    refine cv_X9_26 (pc := 14) F dX9_isPlace_14 (ct_X9_in (enL E) G V x2 1 y1) (by decide) (by decide) (Nat.le_of_ble_eq_true rfl) ?_
    refine go_if_eq (pc := 17) 24 F dX9_isPlace_17 (by decide) h (fun c2 h => ?_) (fun c2 h => ?_)
    · refine go_iconst (pc := 24) 0 F dX9_isPlace_24 (by decide) ?_
      exact go_zretR (pc := 25) F dX9_isPlace_25 rfl h
    · refine go_iconst (pc := 20) 1 F dX9_isPlace_20 (by decide) ?_
      refine go_goto (pc := 21) 25 F dX9_isPlace_21 (by decide) ?_
      exact go_zretR (pc := 25) F dX9_isPlace_25 rfl h
set_option maxRecDepth 100000 in
set_option maxHeartbeats 4000000 in
theorem ct_X9_sign (l : Launch) (G : Gm) (V : Wd) (x1 : Int32) (x2 : Int32) (x3 : Int32) (z : Int32) (h : f_X9_sign V x1 x2 x3 = some z) : Ct l G yX9_sign cX9_sign 4 (some .int) 3 64 [.ref (AD G 112), .int x1, .int x2, .int x3] V (some (.int z)) V := by
  refine Ct.of (own := RX9) (by decide +kernel) rfl (Nat.le_of_ble_eq_true rfl) (fun E F he => ?_)
  clear he
  refine go_sub (lv' := [(0, .ref (AD G 112)), (1, .int x1), (2, .int x2), (3, .int x3)]) [0, 1, 2, 3] rfl ?_
  unfold f_X9_sign at h
  refine go_aloadn (pc := 0) F dX9_sign_0 0 rfl ?_
  refine go_iloadn (pc := 1) F dX9_sign_1 1 rfl ?_
  refine go_iloadn (pc := 2) F dX9_sign_2 2 rfl ?_
  obtain ⟨y1, hy1, h⟩ := ob_ h
  refine cv_X9_100 (pc := 3) F dX9_sign_3 rfl (ct_X9_isPlace (enL E) G V x1 x2 y1 hy1) (by decide) (by decide) (Nat.le_of_ble_eq_true rfl) ?_
  refine go_if_ne (pc := 6) 11 F dX9_sign_6 (by decide) h (fun c10 h => ?_) (fun c10 h => ?_)
  · refine go_iloadn (pc := 11) F dX9_sign_11 3 rfl ?_
    refine go_sw h (fun c2 h => ?_) (fun c2 h => ?_)
    · refine go_tabI (pc := 12) 40 F dX9_sign_12 c2 (by decide) (by decide) rfl (by decide) ?_
      refine go_aloadn (pc := 40) F dX9_sign_40 0 rfl ?_
      refine go_iloadn (pc := 41) F dX9_sign_41 1 rfl ?_
      refine go_iloadn (pc := 42) F dX9_sign_42 2 rfl ?_
      obtain ⟨y3, hy3, h⟩ := ob_ h
      refine cv_X9_60 (pc := 43) F dX9_sign_43 rfl (ct_X9_signOn (enL E) G V x1 x2 y3 hy3) (by decide) (by decide) (Nat.le_of_ble_eq_true rfl) ?_
      exact go_iretR (pc := 46) F dX9_sign_46 h
    · refine go_sw h (fun c4 h => ?_) (fun c4 h => ?_)
      · refine go_tabI (pc := 12) 47 F dX9_sign_12 c4 (by decide) (by decide) rfl (by decide) ?_
        refine go_aloadn (pc := 47) F dX9_sign_47 0 rfl ?_
        refine go_iloadn (pc := 48) F dX9_sign_48 1 rfl ?_
        refine go_iloadn (pc := 49) F dX9_sign_49 2 rfl ?_
        obtain ⟨y5, hy5, h⟩ := ob_ h
        refine cv_X9_104 (pc := 50) F dX9_sign_50 rfl (ct_X9_flagOn (enL E) G V x1 x2 y5 hy5) (by decide) (by decide) (Nat.le_of_ble_eq_true rfl) ?_
        exact go_iretR (pc := 53) F dX9_sign_53 h
      · refine go_sw h (fun c6 h => ?_) (fun c6 h => ?_)
        · refine go_tabI (pc := 12) 54 F dX9_sign_12 c6 (by decide) (by decide) rfl (by decide) ?_
          refine go_aloadn (pc := 54) F dX9_sign_54 0 rfl ?_
          refine go_aloadn (pc := 55) F dX9_sign_55 0 rfl ?_
          refine go_iloadn (pc := 56) F dX9_sign_56 1 rfl ?_
          refine go_iloadn (pc := 57) F dX9_sign_57 2 rfl ?_
          obtain ⟨y7, hy7, h⟩ := ob_ h
          refine cv_X9_104 (pc := 58) F dX9_sign_58 rfl (ct_X9_flagOn (enL E) G V x1 x2 y7 hy7) (by decide) (by decide) (Nat.le_of_ble_eq_true rfl) ?_
          obtain ⟨y8, hy8, h⟩ := ob_ h
          refine cv_X9_107 (pc := 61) F dX9_sign_61 rfl (ct_X9_droops (enL E) G V y7 y8 hy8) (by decide) (by decide) (Nat.le_of_ble_eq_true rfl) ?_
          refine go_if_eq (pc := 64) 71 F dX9_sign_64 (by decide) h (fun c9 h => ?_) (fun c9 h => ?_)
          · refine go_iconst (pc := 71) 0 F dX9_sign_71 (by decide) ?_
            exact go_iretR (pc := 72) F dX9_sign_72 h
          · refine go_iconst (pc := 67) 1 F dX9_sign_67 (by decide) ?_
            refine go_goto (pc := 68) 72 F dX9_sign_68 (by decide) ?_
            exact go_iretR (pc := 72) F dX9_sign_72 h
        · refine go_tabO (pc := 12) 73 F dX9_sign_12 (tab_o 3 (by decide) (by decide) (fun j hj => by rcases (show j = 0 ∨ j = 1 ∨ j = 2 by omega) with rfl | rfl | rfl <;> first | exact c2 | exact c4 | exact c6)) (by decide) ?_
          refine go_bipush (pc := 73) (-2) F dX9_sign_73 (by decide) ?_
          exact go_iretR (pc := 75) F dX9_sign_75 h
  · refine go_iconst (pc := 9) (-1) F dX9_sign_9 (by decide) ?_
    exact go_iretR (pc := 10) F dX9_sign_10 h
set_option maxRecDepth 100000 in
set_option maxHeartbeats 4000000 in
theorem ct_X9_isCode (l : Launch) (G : Gm) (V : Wd) (x0 : Int32) : Ct l G yX9_isCode cX9_isCode 1 (some .boolean) 1 22 [.int x0] V (some (.int (f_X9_isCode x0))) V := by
  generalize h : f_X9_isCode x0 = z
  refine Ct.of (own := RX9) (by decide +kernel) rfl (Nat.le_of_ble_eq_true rfl) (fun E F he => ?_)
  clear he
  refine go_sub (lv' := [(0, .int x0)]) [0] rfl ?_
  unfold f_X9_isCode at h
  refine go_iloadn (pc := 0) F dX9_isCode_0 0 rfl ?_
  refine go_bipush (pc := 1) 10 F dX9_isCode_1 (by decide) ?_
  refine go_bipush (pc := 3) 19 F dX9_isCode_3 (by decide) ?_
  refine cv_X9_26 (pc := 5) F dX9_isCode_5 (ct_X9_in (enL E) G V x0 10 19) (by decide) (by decide) (Nat.le_of_ble_eq_true rfl) ?_
  refine go_if_ne (pc := 8) 49 F dX9_isCode_8 (by decide) h (fun c4 h => ?_) (fun c4 h => ?_)
  · refine go_iconst (pc := 49) 1 F dX9_isCode_49 (by decide) ?_
    refine go_goto (pc := 50) 54 F dX9_isCode_50 (by decide) ?_
    exact go_zretT (pc := 54) F dX9_isCode_54 rfl h
  · refine go_iloadn (pc := 11) F dX9_isCode_11 0 rfl ?_
    refine go_bipush (pc := 12) 100 F dX9_isCode_12 (by decide) ?_
    refine go_sipush (pc := 14) 199 F dX9_isCode_14 (by decide) ?_
    refine cv_X9_26 (pc := 17) F dX9_isCode_17 (ct_X9_in (enL E) G V x0 100 199) (by decide) (by decide) (Nat.le_of_ble_eq_true rfl) ?_
    refine go_if_ne (pc := 20) 49 F dX9_isCode_20 (by decide) h (fun c3 h => ?_) (fun c3 h => ?_)
    · refine go_iconst (pc := 49) 1 F dX9_isCode_49 (by decide) ?_
      refine go_goto (pc := 50) 54 F dX9_isCode_50 (by decide) ?_
      exact go_zretT (pc := 54) F dX9_isCode_54 rfl h
    · refine go_iloadn (pc := 23) F dX9_isCode_23 0 rfl ?_
      refine go_sipush (pc := 24) 1000 F dX9_isCode_24 (by decide) ?_
      refine go_sipush (pc := 27) 1999 F dX9_isCode_27 (by decide) ?_
      refine cv_X9_26 (pc := 30) F dX9_isCode_30 (ct_X9_in (enL E) G V x0 1000 1999) (by decide) (by decide) (Nat.le_of_ble_eq_true rfl) ?_
      refine go_if_ne (pc := 33) 49 F dX9_isCode_33 (by decide) h (fun c2 h => ?_) (fun c2 h => ?_)
      · refine go_iconst (pc := 49) 1 F dX9_isCode_49 (by decide) ?_
        refine go_goto (pc := 50) 54 F dX9_isCode_50 (by decide) ?_
        exact go_zretT (pc := 54) F dX9_isCode_54 rfl h
      · refine go_iloadn (pc := 36) F dX9_isCode_36 0 rfl ?_
        refine go_sipush (pc := 37) 10000 F dX9_isCode_37 (by decide) ?_
        refine go_sipush (pc := 40) 19999 F dX9_isCode_40 (by decide) ?_
        refine cv_X9_26 (pc := 43) F dX9_isCode_43 (ct_X9_in (enL E) G V x0 10000 19999) (by decide) (by decide) (Nat.le_of_ble_eq_true rfl) ?_
        refine go_if_eq (pc := 46) 53 F dX9_isCode_46 (by decide) h (fun c1 h => ?_) (fun c1 h => ?_)
        · refine go_iconst (pc := 53) 0 F dX9_isCode_53 (by decide) ?_
          exact go_zretT (pc := 54) F dX9_isCode_54 rfl h
        · refine go_iconst (pc := 49) 1 F dX9_isCode_49 (by decide) ?_
          refine go_goto (pc := 50) 54 F dX9_isCode_50 (by decide) ?_
          exact go_zretT (pc := 54) F dX9_isCode_54 rfl h
set_option maxRecDepth 100000 in
set_option maxHeartbeats 4000000 in
theorem ct_X9_enter (l : Launch) (G : Gm) (V : Wd) (x1 : Int32) (x2 : Int32) (z : Int32 × Wd) (h : f_X9_enter V x1 x2 = some z) : Ct l G yX9_enter cX9_enter 3 (some .int) 2 42 [.ref (AD G 112), .int x1, .int x2] V (some (.int z.1)) z.2 := by
  refine Ct.of (own := RX9) (by decide +kernel) rfl (Nat.le_of_ble_eq_true rfl) (fun E F he => ?_)
  clear he
  refine go_sub (lv' := [(0, .ref (AD G 112)), (1, .int x1), (2, .int x2)]) [0, 1, 2] rfl ?_
  unfold f_X9_enter at h
  refine go_iloadn (pc := 0) F dX9_enter_0 1 rfl ?_
  refine cv_X9_110 (pc := 1) F dX9_enter_1 (ct_X9_isCode (enL E) G V x1) (by decide) (by decide) (Nat.le_of_ble_eq_true rfl) ?_
  refine go_if_eq (pc := 4) 17 F dX9_enter_4 (by decide) h (fun c12 h => ?_) (fun c12 h => ?_)
  · refine go_bipush (pc := 17) (-2) F dX9_enter_17 (by decide) ?_
    exact go_iretW (pc := 19) F dX9_enter_19 h
  · refine go_iloadn (pc := 7) F dX9_enter_7 2 rfl ?_
    refine go_iconst (pc := 8) 0 F dX9_enter_8 (by decide) ?_
    refine go_bipush (pc := 9) 99 F dX9_enter_9 (by decide) ?_
    refine cv_X9_26 (pc := 11) F dX9_enter_11 (ct_X9_in (enL E) G V x2 0 99) (by decide) (by decide) (Nat.le_of_ble_eq_true rfl) ?_
    refine go_if_ne (pc := 14) 20 F dX9_enter_14 (by decide) h (fun c11 h => ?_) (fun c11 h => ?_)
    · refine go_aloadn (pc := 20) F dX9_enter_20 0 rfl ?_
      refine gf_X9_7 (pc := 21) F dX9_enter_21 rfl ?_
      refine go_iconst (pc := 24) 5 F dX9_enter_24 (by decide) ?_
      refine go_iald (pc := 25) 136 F dX9_enter_25 rfl (by decide) h (fun y1 h => ?_)
      refine go_bipush (pc := 26) 12 F dX9_enter_26 (by decide) ?_
      refine go_icmp_ne (pc := 28) 34 F dX9_enter_28 (by decide) h (fun c10 h => ?_) (fun c10 h => ?_)
      · refine go_aloadn (pc := 34) F dX9_enter_34 0 rfl ?_
        obtain ⟨V2, hV2, h⟩ := ob_ h
        refine cv_X9_57 (pc := 35) F dX9_enter_35 rfl (ct_X9_recordAndDown (enL E) G V V2 hV2) (by decide) (by decide) (Nat.le_of_ble_eq_true rfl) ?_
        refine go_aloadn (pc := 38) F dX9_enter_38 0 rfl ?_
        refine gf_X9_7 (pc := 39) F dX9_enter_39 rfl ?_
        refine go_bipush (pc := 42) 63 F dX9_enter_42 (by decide) ?_
        refine go_iconst (pc := 44) 2 F dX9_enter_44 (by decide) ?_
        refine go_aloadn (pc := 45) F dX9_enter_45 0 rfl ?_
        refine gf_X9_7 (pc := 46) F dX9_enter_46 rfl ?_
        refine go_iconst (pc := 49) 5 F dX9_enter_49 (by decide) ?_
        refine go_iald (pc := 50) 136 F dX9_enter_50 rfl (by decide) h (fun y3 h => ?_)
        refine go_imul (pc := 51) F dX9_enter_51 ?_
        refine go_iadd (pc := 52) F dX9_enter_52 ?_
        refine go_iloadn (pc := 53) F dX9_enter_53 1 rfl ?_
        refine go_iast (pc := 54) 136 F dX9_enter_54 rfl (by decide) h (fun V4 h => ?_)
        refine go_aloadn (pc := 55) F dX9_enter_55 0 rfl ?_
        refine gf_X9_7 (pc := 56) F dX9_enter_56 rfl ?_
        refine go_bipush (pc := 59) 63 F dX9_enter_59 (by decide) ?_
        refine go_iconst (pc := 61) 2 F dX9_enter_61 (by decide) ?_
        refine go_aloadn (pc := 62) F dX9_enter_62 0 rfl ?_
        refine gf_X9_7 (pc := 63) F dX9_enter_63 rfl ?_
        refine go_iconst (pc := 66) 5 F dX9_enter_66 (by decide) ?_
        refine go_iald (pc := 67) 136 F dX9_enter_67 rfl (by decide) h (fun y5 h => ?_)
        refine go_imul (pc := 68) F dX9_enter_68 ?_
        refine go_iadd (pc := 69) F dX9_enter_69 ?_
        refine go_iconst (pc := 70) 1 F dX9_enter_70 (by decide) ?_
        refine go_iadd (pc := 71) F dX9_enter_71 ?_
        refine go_iloadn (pc := 72) F dX9_enter_72 2 rfl ?_
        refine go_iast (pc := 73) 136 F dX9_enter_73 rfl (by decide) h (fun V6 h => ?_)
        refine go_aloadn (pc := 74) F dX9_enter_74 0 rfl ?_
        refine gf_X9_7 (pc := 75) F dX9_enter_75 rfl ?_
        refine go_iconst (pc := 78) 5 F dX9_enter_78 (by decide) ?_
        refine go_dup2 (pc := 79) F dX9_enter_79 rfl rfl ?_
        refine go_iald (pc := 80) 136 F dX9_enter_80 rfl (by decide) h (fun y7 h => ?_)
        refine go_iconst (pc := 81) 1 F dX9_enter_81 (by decide) ?_
        refine go_iadd (pc := 82) F dX9_enter_82 ?_
        refine go_iast (pc := 83) 136 F dX9_enter_83 rfl (by decide) h (fun V8 h => ?_)
        refine go_aloadn (pc := 84) F dX9_enter_84 0 rfl ?_
        refine gf_X9_7 (pc := 85) F dX9_enter_85 rfl ?_
        refine go_iconst (pc := 88) 5 F dX9_enter_88 (by decide) ?_
        refine go_iald (pc := 89) 136 F dX9_enter_89 rfl (by decide) h (fun y9 h => ?_)
        exact go_iretW (pc := 90) F dX9_enter_90 h
      · refine go_bipush (pc := 31) (-4) F dX9_enter_31 (by decide) ?_
        exact go_iretW (pc := 33) F dX9_enter_33 h
    · refine go_bipush (pc := 17) (-2) F dX9_enter_17 (by decide) ?_
      exact go_iretW (pc := 19) F dX9_enter_19 h

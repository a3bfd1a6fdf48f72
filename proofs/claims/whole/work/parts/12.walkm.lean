theorem isB_X9_in (a b c : Int32) : isB (f_X9_in a b c) := by
  unfold f_X9_in
  repeat' split
  all_goals first | exact Or.inl rfl | exact Or.inr rfl
set_option maxRecDepth 100000 in
set_option maxHeartbeats 4000000 in
theorem ct_X9_in (l : Launch) (G : Gm) (V : Wd) (x0 : Int32) (x1 : Int32) (x2 : Int32) : Ct l G yX9_in cX9_in 3 (some .boolean) 0 0 [.int x0, .int x1, .int x2] V (some (.int (f_X9_in x0 x1 x2))) V := by
  generalize h : f_X9_in x0 x1 x2 = z
  refine Ct.of (own := RX9) (by decide +kernel) rfl (Nat.le_of_ble_eq_true rfl) (fun E F he => ?_)
  clear he
  refine go_sub (lv' := [(0, .int x0), (1, .int x1), (2, .int x2)]) [0, 1, 2] rfl ?_
  unfold f_X9_in at h
  refine go_iloadn (pc := 0) F dX9_in_0 0 rfl ?_
  refine go_iloadn (pc := 1) F dX9_in_1 1 rfl ?_
  refine go_icmp_lt (pc := 2) 14 F dX9_in_2 (by decide) h (fun c2 h => ?_) (fun c2 h => ?_)
  · refine go_iconst (pc := 14) 0 F dX9_in_14 (by decide) ?_
    exact go_zretT (pc := 15) F dX9_in_15 rfl h
  · refine go_iloadn (pc := 5) F dX9_in_5 0 rfl ?_
    refine go_iloadn (pc := 6) F dX9_in_6 2 rfl ?_
    refine go_icmp_gt (pc := 7) 14 F dX9_in_7 (by decide) h (fun c1 h => ?_) (fun c1 h => ?_)
    · refine go_iconst (pc := 14) 0 F dX9_in_14 (by decide) ?_
      exact go_zretT (pc := 15) F dX9_in_15 rfl h
    · refine go_iconst (pc := 10) 1 F dX9_in_10 (by decide) ?_
      refine go_goto (pc := 11) 15 F dX9_in_11 (by decide) ?_
      exact go_zretT (pc := 15) F dX9_in_15 rfl h
set_option maxRecDepth 100000 in
set_option maxHeartbeats 4000000 in
theorem ct_X9_isFlag (l : Launch) (G : Gm) (V : Wd) (x0 : Int32) : Ct l G yX9_isFlag cX9_isFlag 1 (some .boolean) 1 22 [.int x0] V (some (.int (f_X9_isFlag x0))) V := by
  generalize h : f_X9_isFlag x0 = z
  refine Ct.of (own := RX9) (by decide +kernel) rfl (Nat.le_of_ble_eq_true rfl) (fun E F he => ?_)
  clear he
  refine go_sub (lv' := [(0, .int x0)]) [0] rfl ?_
  unfold f_X9_isFlag at h
  refine go_iloadn (pc := 0) F dX9_isFlag_0 0 rfl ?_
  refine go_iconst (pc := 1) 0 F dX9_isFlag_1 (by decide) ?_
  refine go_bipush (pc := 2) 9 F dX9_isFlag_2 (by decide) ?_
  refine cv_X9_26 (pc := 4) F dX9_isFlag_4 (ct_X9_in (enL E) G V x0 0 9) (by decide) (by decide) (Nat.le_of_ble_eq_true rfl) ?_
  exact go_zretT (pc := 7) F dX9_isFlag_7 (isB_n (isB_X9_in _ _ _)) h
set_option maxRecDepth 100000 in
set_option maxHeartbeats 4000000 in
theorem ct_X9_isHalyard (l : Launch) (G : Gm) (V : Wd) (x0 : Int32) : Ct l G yX9_isHalyard cX9_isHalyard 1 (some .boolean) 1 22 [.int x0] V (some (.int (f_X9_isHalyard x0))) V := by
  generalize h : f_X9_isHalyard x0 = z
  refine Ct.of (own := RX9) (by decide +kernel) rfl (Nat.le_of_ble_eq_true rfl) (fun E F he => ?_)
  clear he
  refine go_sub (lv' := [(0, .int x0)]) [0] rfl ?_
  unfold f_X9_isHalyard at h
  refine go_iloadn (pc := 0) F dX9_isHalyard_0 0 rfl ?_
  refine go_iconst (pc := 1) 0 F dX9_isHalyard_1 (by decide) ?_
  refine go_iconst (pc := 2) 4 F dX9_isHalyard_2 (by decide) ?_
  refine cv_X9_26 (pc := 3) F dX9_isHalyard_3 (ct_X9_in (enL E) G V x0 0 4) (by decide) (by decide) (Nat.le_of_ble_eq_true rfl) ?_
  exact go_zretT (pc := 6) F dX9_isHalyard_6 (isB_n (isB_X9_in _ _ _)) h
set_option maxRecDepth 100000 in
set_option maxHeartbeats 4000000 in
theorem ct_X9_isSide (l : Launch) (G : Gm) (V : Wd) (x0 : Int32) : Ct l G yX9_isSide cX9_isSide 1 (some .boolean) 1 22 [.int x0] V (some (.int (f_X9_isSide x0))) V := by
  generalize h : f_X9_isSide x0 = z
  refine Ct.of (own := RX9) (by decide +kernel) rfl (Nat.le_of_ble_eq_true rfl) (fun E F he => ?_)
  clear he
  refine go_sub (lv' := [(0, .int x0)]) [0] rfl ?_
  unfold f_X9_isSide at h
  refine go_iloadn (pc := 0) F dX9_isSide_0 0 rfl ?_
  refine go_iconst (pc := 1) 0 F dX9_isSide_1 (by decide) ?_
  refine go_iconst (pc := 2) 1 F dX9_isSide_2 (by decide) ?_
  refine cv_X9_26 (pc := 3) F dX9_isSide_3 (ct_X9_in (enL E) G V x0 0 1) (by decide) (by decide) (Nat.le_of_ble_eq_true rfl) ?_
  exact go_zretT (pc := 6) F dX9_isSide_6 (isB_n (isB_X9_in _ _ _)) h
set_option maxRecDepth 100000 in
set_option maxHeartbeats 4000000 in
theorem ct_X9_ofFlag (l : Launch) (G : Gm) (V : Wd) (x1 : Int32) (x2 : Int32) (z : Int32) (h : f_X9_ofFlag V x1 x2 = some z) : Ct l G yX9_ofFlag cX9_ofFlag 3 (some .int) 0 0 [.ref (AD G 112), .int x1, .int x2] V (some (.int z)) V := by
  refine Ct.of (own := RX9) (by decide +kernel) rfl (Nat.le_of_ble_eq_true rfl) (fun E F he => ?_)
  clear he
  refine go_sub (lv' := [(0, .ref (AD G 112)), (1, .int x1), (2, .int x2)]) [0, 1, 2] rfl ?_
  unfold f_X9_ofFlag at h
  refine go_aloadn (pc := 0) F dX9_ofFlag_0 0 rfl ?_
  refine gf_X9_7 (pc := 1) F dX9_ofFlag_1 rfl ?_
  refine go_bipush (pc := 4) 8 F dX9_ofFlag_4 (by decide) ?_
  refine go_iconst (pc := 6) 3 F dX9_ofFlag_6 (by decide) ?_
  refine go_iloadn (pc := 7) F dX9_ofFlag_7 1 rfl ?_
  refine go_imul (pc := 8) F dX9_ofFlag_8 ?_
  refine go_iadd (pc := 9) F dX9_ofFlag_9 ?_
  refine go_iloadn (pc := 10) F dX9_ofFlag_10 2 rfl ?_
  refine go_iadd (pc := 11) F dX9_ofFlag_11 ?_
  refine go_iald (pc := 12) 136 F dX9_ofFlag_12 rfl (by decide) h (fun y1 h => ?_)
  exact go_iretR (pc := 13) F dX9_ofFlag_13 h
set_option maxRecDepth 100000 in
set_option maxHeartbeats 4000000 in
theorem ct_X9_many (l : Launch) (G : Gm) (V : Wd) (x1 : Int32) (z : Int32) (h : f_X9_many V x1 = some z) : Ct l G yX9_many cX9_many 2 (some .int) 0 0 [.ref (AD G 112), .int x1] V (some (.int z)) V := by
  refine Ct.of (own := RX9) (by decide +kernel) rfl (Nat.le_of_ble_eq_true rfl) (fun E F he => ?_)
  clear he
  refine go_sub (lv' := [(0, .ref (AD G 112)), (1, .int x1)]) [0, 1] rfl ?_
  unfold f_X9_many at h
  refine go_aloadn (pc := 0) F dX9_many_0 0 rfl ?_
  refine gf_X9_7 (pc := 1) F dX9_many_1 rfl ?_
  refine go_bipush (pc := 4) 38 F dX9_many_4 (by decide) ?_
  refine go_iconst (pc := 6) 5 F dX9_many_6 (by decide) ?_
  refine go_iloadn (pc := 7) F dX9_many_7 1 rfl ?_
  refine go_imul (pc := 8) F dX9_many_8 ?_
  refine go_iadd (pc := 9) F dX9_many_9 ?_
  refine go_iald (pc := 10) 136 F dX9_many_10 rfl (by decide) h (fun y1 h => ?_)
  exact go_iretR (pc := 11) F dX9_many_11 h
set_option maxRecDepth 100000 in
set_option maxHeartbeats 4000000 in
theorem ct_X9_signOn (l : Launch) (G : Gm) (V : Wd) (x1 : Int32) (x2 : Int32) (z : Int32) (h : f_X9_signOn V x1 x2 = some z) : Ct l G yX9_signOn cX9_signOn 3 (some .int) 0 0 [.ref (AD G 112), .int x1, .int x2] V (some (.int z)) V := by
  refine Ct.of (own := RX9) (by decide +kernel) rfl (Nat.le_of_ble_eq_true rfl) (fun E F he => ?_)
  clear he
  refine go_sub (lv' := [(0, .ref (AD G 112)), (1, .int x1), (2, .int x2)]) [0, 1, 2] rfl ?_
  unfold f_X9_signOn at h
  refine go_aloadn (pc := 0) F dX9_signOn_0 0 rfl ?_
  refine gf_X9_7 (pc := 1) F dX9_signOn_1 rfl ?_
  refine go_bipush (pc := 4) 38 F dX9_signOn_4 (by decide) ?_
  refine go_iconst (pc := 6) 5 F dX9_signOn_6 (by decide) ?_
  refine go_iloadn (pc := 7) F dX9_signOn_7 1 rfl ?_
  refine go_imul (pc := 8) F dX9_signOn_8 ?_
  refine go_iadd (pc := 9) F dX9_signOn_9 ?_
  refine go_iloadn (pc := 10) F dX9_signOn_10 2 rfl ?_
  refine go_iadd (pc := 11) F dX9_signOn_11 ?_
  refine go_iald (pc := 12) 136 F dX9_signOn_12 rfl (by decide) h (fun y1 h => ?_)
  exact go_iretR (pc := 13) F dX9_signOn_13 h
set_option maxRecDepth 100000 in
set_option maxHeartbeats 4000000 in
theorem lb_X9_record_85 {E : En} {G : Gm} (F : Fx E G (AG G) RX9 cX9_record 2 none 0 0 0 0) {z : Wd} (V : Wd) (h : f_X9_record_85 V = some z) : Go E G (AG G) 0 0 (MQq E G none z) 2 V 85 [(0, .ref (AD G 112))] [] := by
  unfold f_X9_record_85 at h
  refine go_aloadn (pc := 85) F dX9_record_85 0 rfl ?_
  refine go_dup (pc := 86) F dX9_record_86 rfl ?_
  refine gf_X9_30 (pc := 87) F dX9_record_87 rfl ?_
  refine go_iconst (pc := 90) 1 F dX9_record_90 (by decide) ?_
  refine go_iadd (pc := 91) F dX9_record_91 ?_
  refine pf_X9_30 (pc := 92) F dX9_record_92 rfl h (fun V8 h => ?_)
  exact go_vretW (pc := 95) F dX9_record_95 h
set_option maxRecDepth 100000 in
set_option maxHeartbeats 4000000 in
theorem lb_X9_record_51 {E : En} {G : Gm} (F : Fx E G (AG G) RX9 cX9_record 2 none 0 0 0 0) {z : Wd} : ∀ (n : Nat) (V : Wd) (x1 : Int32), f_X9_record_51 n V x1 = some z → Go E G (AG G) 0 0 (MQq E G none z) 2 V 51 [(0, .ref (AD G 112)), (1, .int x1)] [] := by
  intro n
  induction n with
  | zero => intro V x1 h; cases h
  | succ n ih =>
    intro V x1 h
    rw [f_X9_record_51] at h
    refine go_iloadn (pc := 51) F dX9_record_51 1 rfl ?_
    refine go_sipush (pc := 52) 136 F dX9_record_52 (by decide) ?_
    refine go_icmp_ge (pc := 55) 85 F dX9_record_55 (by decide) h (fun c4 h => ?_) (fun c4 h => ?_)
    · exact go_sub [0] rfl (lb_X9_record_85 F V h)
    · refine go_aloadn (pc := 58) F dX9_record_58 0 rfl ?_
      refine gf_X9_13 (pc := 59) F dX9_record_59 rfl ?_
      refine go_aloadn (pc := 62) F dX9_record_62 0 rfl ?_
      refine gf_X9_30 (pc := 63) F dX9_record_63 rfl ?_
      refine go_sipush (pc := 66) 136 F dX9_record_66 (by decide) ?_
      refine go_imul (pc := 69) F dX9_record_69 ?_
      refine go_iloadn (pc := 70) F dX9_record_70 1 rfl ?_
      refine go_iadd (pc := 71) F dX9_record_71 ?_
      refine go_aloadn (pc := 72) F dX9_record_72 0 rfl ?_
      refine gf_X9_7 (pc := 73) F dX9_record_73 rfl ?_
      refine go_iloadn (pc := 76) F dX9_record_76 1 rfl ?_
      refine go_iald (pc := 77) 136 F dX9_record_77 rfl (by decide) h (fun y2 h => ?_)
      refine go_iast (pc := 78) 680 F dX9_record_78 rfl (by decide) h (fun V3 h => ?_)
      refine go_iinc (pc := 79) (x1 + 1) (lv' := [(1, .int (x1 + 1)), (0, .ref (AD G 112))]) F dX9_record_79 (k := 1) rfl rfl (by decide) rfl ?_
      refine go_goto (pc := 82) 51 F dX9_record_82 (by decide) ?_
      exact go_sub [1, 0] rfl (ih V3 (x1 + 1) h)
set_option maxRecDepth 100000 in
set_option maxHeartbeats 4000000 in
theorem lb_X9_record_39 {E : En} {G : Gm} (F : Fx E G (AG G) RX9 cX9_record 2 none 0 0 0 0) {z : Wd} (V : Wd) (h : f_X9_record_39 V = some z) : Go E G (AG G) 0 0 (MQq E G none z) 2 V 39 [(0, .ref (AD G 112))] [] := by
  unfold f_X9_record_39 at h
  refine go_aloadn (pc := 39) F dX9_record_39 0 rfl ?_
  refine go_dup (pc := 40) F dX9_record_40 rfl ?_
  refine gf_X9_30 (pc := 41) F dX9_record_41 rfl ?_
  refine go_iconst (pc := 44) 1 F dX9_record_44 (by decide) ?_
  refine go_isub (pc := 45) F dX9_record_45 ?_
  refine pf_X9_30 (pc := 46) F dX9_record_46 rfl h (fun V9 h => ?_)
  refine go_iconst (pc := 49) 0 F dX9_record_49 (by decide) ?_
  refine go_istoren (pc := 50) (lv' := [(1, .int 0), (0, .ref (AD G 112))]) F dX9_record_50 (by decide) rfl ?_
  exact go_sub [1, 0] rfl (lb_X9_record_51 F FU_ V9 0 h)
set_option maxRecDepth 100000 in
set_option maxHeartbeats 4000000 in
theorem lb_X9_record_10 {E : En} {G : Gm} (F : Fx E G (AG G) RX9 cX9_record 2 none 0 0 0 0) {z : Wd} : ∀ (n : Nat) (V : Wd) (x1 : Int32), f_X9_record_10 n V x1 = some z → Go E G (AG G) 0 0 (MQq E G none z) 2 V 10 [(0, .ref (AD G 112)), (1, .int x1)] [] := by
  intro n
  induction n with
  | zero => intro V x1 h; cases h
  | succ n ih =>
    intro V x1 h
    rw [f_X9_record_10] at h
    refine go_iloadn (pc := 10) F dX9_record_10 1 rfl ?_
    refine go_sipush (pc := 11) 544 F dX9_record_11 (by decide) ?_
    refine go_icmp_ge (pc := 14) 39 F dX9_record_14 (by decide) h (fun c7 h => ?_) (fun c7 h => ?_)
    · exact go_sub [0] rfl (lb_X9_record_39 F V h)
    · refine go_aloadn (pc := 17) F dX9_record_17 0 rfl ?_
      refine gf_X9_13 (pc := 18) F dX9_record_18 rfl ?_
      refine go_iloadn (pc := 21) F dX9_record_21 1 rfl ?_
      refine go_aloadn (pc := 22) F dX9_record_22 0 rfl ?_
      refine gf_X9_13 (pc := 23) F dX9_record_23 rfl ?_
      refine go_iloadn (pc := 26) F dX9_record_26 1 rfl ?_
      refine go_sipush (pc := 27) 136 F dX9_record_27 (by decide) ?_
      refine go_iadd (pc := 30) F dX9_record_30 ?_
      refine go_iald (pc := 31) 680 F dX9_record_31 rfl (by decide) h (fun y5 h => ?_)
      refine go_iast (pc := 32) 680 F dX9_record_32 rfl (by decide) h (fun V6 h => ?_)
      refine go_iinc (pc := 33) (x1 + 1) (lv' := [(1, .int (x1 + 1)), (0, .ref (AD G 112))]) F dX9_record_33 (k := 1) rfl rfl (by decide) rfl ?_
      refine go_goto (pc := 36) 10 F dX9_record_36 (by decide) ?_
      exact go_sub [1, 0] rfl (ih V6 (x1 + 1) h)
set_option maxRecDepth 100000 in
set_option maxHeartbeats 4000000 in
theorem ct_X9_record (l : Launch) (G : Gm) (V : Wd) (z : Wd) (h : f_X9_record V = some z) : Ct l G yX9_record cX9_record 2 none 0 0 [.ref (AD G 112)] V none z := by
  refine Ct.of (own := RX9) (by decide +kernel) rfl (Nat.le_of_ble_eq_true rfl) (fun E F he => ?_)
  clear he
  refine go_sub (lv' := [(0, .ref (AD G 112))]) [0] rfl ?_
  unfold f_X9_record at h
  refine go_aloadn (pc := 0) F dX9_record_0 0 rfl ?_
  refine gf_X9_30 (pc := 1) F dX9_record_1 rfl ?_
  refine go_iconst (pc := 4) 5 F dX9_record_4 (by decide) ?_
  refine go_icmp_ne (pc := 5) 49 F dX9_record_5 (by decide) h (fun c1 h => ?_) (fun c1 h => ?_)
  · refine go_iconst (pc := 49) 0 F dX9_record_49 (by decide) ?_
    refine go_istoren (pc := 50) (lv' := [(1, .int 0), (0, .ref (AD G 112))]) F dX9_record_50 (by decide) rfl ?_
    exact go_sub [1, 0] rfl (lb_X9_record_51 F FU_ V 0 h)
  · refine go_iconst (pc := 8) 0 F dX9_record_8 (by decide) ?_
    refine go_istoren (pc := 9) (lv' := [(1, .int 0), (0, .ref (AD G 112))]) F dX9_record_9 (by decide) rfl ?_
    exact go_sub [1, 0] rfl (lb_X9_record_10 F FU_ V 0 h)
set_option maxRecDepth 100000 in
set_option maxHeartbeats 4000000 in
theorem ct_X9_recordAndDown (l : Launch) (G : Gm) (V : Wd) (z : Wd) (h : f_X9_recordAndDown V = some z) : Ct l G yX9_recordAndDown cX9_recordAndDown 1 none 1 21 [.ref (AD G 112)] V none z := by
  refine Ct.of (own := RX9) (by decide +kernel) rfl (Nat.le_of_ble_eq_true rfl) (fun E F he => ?_)
  clear he
  refine go_sub (lv' := [(0, .ref (AD G 112))]) [0] rfl ?_
  unfold f_X9_recordAndDown at h
  refine go_aloadn (pc := 0) F dX9_recordAndDown_0 0 rfl ?_
  obtain ⟨V1, hV1, h⟩ := ob_ h
  refine cv_X9_34 (pc := 1) F dX9_recordAndDown_1 rfl (ct_X9_record (enL E) G V V1 hV1) (by decide) (by decide) (Nat.le_of_ble_eq_true rfl) ?_
  refine go_aloadn (pc := 4) F dX9_recordAndDown_4 0 rfl ?_
  refine gf_X9_7 (pc := 5) F dX9_recordAndDown_5 rfl ?_
  refine go_iconst (pc := 8) 4 F dX9_recordAndDown_8 (by decide) ?_
  refine go_iconst (pc := 9) 0 F dX9_recordAndDown_9 (by decide) ?_
  refine go_iast (pc := 10) 136 F dX9_recordAndDown_10 rfl (by decide) h (fun V2 h => ?_)
  exact go_vretW (pc := 11) F dX9_recordAndDown_11 h
set_option maxRecDepth 100000 in
set_option maxHeartbeats 4000000 in
theorem lb_X9_undo_22 {E : En} {G : Gm} (F : Fx E G (AG G) RX9 cX9_undo 2 (some .int) 0 0 0 0) {z : Int32 × Wd} : ∀ (n : Nat) (V : Wd) (x1 : Int32), f_X9_undo_22 n V x1 = some z → Go E G (AG G) 0 0 (MQq E G (some (.int z.1)) z.2) 2 V 22 [(0, .ref (AD G 112)), (1, .int x1)] [] := by
  intro n
  induction n with
  | zero => intro V x1 h; cases h
  | succ n ih =>
    intro V x1 h
    rw [f_X9_undo_22] at h
    refine go_iloadn (pc := 22) F dX9_undo_22 1 rfl ?_
    refine go_sipush (pc := 23) 136 F dX9_undo_23 (by decide) ?_
    refine go_icmp_ge (pc := 26) 56 F dX9_undo_26 (by decide) h (fun c5 h => ?_) (fun c5 h => ?_)
    · refine go_aloadn (pc := 56) F dX9_undo_56 0 rfl ?_
      refine gf_X9_30 (pc := 57) F dX9_undo_57 rfl ?_
      exact go_iretW (pc := 60) F dX9_undo_60 h
    · refine go_aloadn (pc := 29) F dX9_undo_29 0 rfl ?_
      refine gf_X9_7 (pc := 30) F dX9_undo_30 rfl ?_
      refine go_iloadn (pc := 33) F dX9_undo_33 1 rfl ?_
      refine go_aloadn (pc := 34) F dX9_undo_34 0 rfl ?_
      refine gf_X9_13 (pc := 35) F dX9_undo_35 rfl ?_
      refine go_aloadn (pc := 38) F dX9_undo_38 0 rfl ?_
      refine gf_X9_30 (pc := 39) F dX9_undo_39 rfl ?_
      refine go_sipush (pc := 42) 136 F dX9_undo_42 (by decide) ?_
      refine go_imul (pc := 45) F dX9_undo_45 ?_
      refine go_iloadn (pc := 46) F dX9_undo_46 1 rfl ?_
      refine go_iadd (pc := 47) F dX9_undo_47 ?_
      refine go_iald (pc := 48) 680 F dX9_undo_48 rfl (by decide) h (fun y3 h => ?_)
      refine go_iast (pc := 49) 136 F dX9_undo_49 rfl (by decide) h (fun V4 h => ?_)
      refine go_iinc (pc := 50) (x1 + 1) (lv' := [(1, .int (x1 + 1)), (0, .ref (AD G 112))]) F dX9_undo_50 (k := 1) rfl rfl (by decide) rfl ?_
      refine go_goto (pc := 53) 22 F dX9_undo_53 (by decide) ?_
      exact go_sub [1, 0] rfl (ih V4 (x1 + 1) h)
set_option maxRecDepth 100000 in
set_option maxHeartbeats 4000000 in
theorem ct_X9_undo (l : Launch) (G : Gm) (V : Wd) (z : Int32 × Wd) (h : f_X9_undo V = some z) : Ct l G yX9_undo cX9_undo 2 (some .int) 0 0 [.ref (AD G 112)] V (some (.int z.1)) z.2 := by
  refine Ct.of (own := RX9) (by decide +kernel) rfl (Nat.le_of_ble_eq_true rfl) (fun E F he => ?_)
  clear he
  refine go_sub (lv' := [(0, .ref (AD G 112))]) [0] rfl ?_
  unfold f_X9_undo at h
  refine go_aloadn (pc := 0) F dX9_undo_0 0 rfl ?_
  refine gf_X9_30 (pc := 1) F dX9_undo_1 rfl ?_
  refine go_if_ne (pc := 4) 10 F dX9_undo_4 (by decide) h (fun c2 h => ?_) (fun c2 h => ?_)
  · refine go_aloadn (pc := 10) F dX9_undo_10 0 rfl ?_
    refine go_dup (pc := 11) F dX9_undo_11 rfl ?_
    refine gf_X9_30 (pc := 12) F dX9_undo_12 rfl ?_
    refine go_iconst (pc := 15) 1 F dX9_undo_15 (by decide) ?_
    refine go_isub (pc := 16) F dX9_undo_16 ?_
    refine pf_X9_30 (pc := 17) F dX9_undo_17 rfl h (fun V1 h => ?_)
    refine go_iconst (pc := 20) 0 F dX9_undo_20 (by decide) ?_
    refine go_istoren (pc := 21) (lv' := [(1, .int 0), (0, .ref (AD G 112))]) F dX9_undo_21 (by decide) rfl ?_
    exact go_sub [1, 0] rfl (lb_X9_undo_22 F FU_ V1 0 h)
  · refine go_bipush (pc := 7) (-3) F dX9_undo_7 (by decide) ?_
    exact go_iretW (pc := 9) F dX9_undo_9 h
set_option maxRecDepth 100000 in
set_option maxHeartbeats 4000000 in
theorem lb_X9_allSigns_4 {E : En} {G : Gm} (F : Fx E G (AG G) RX9 cX9_allSigns 3 (some .int) 1 21 0 0) {V : Wd} {z : Int32} : ∀ (n : Nat) (x1 : Int32) (x2 : Int32), f_X9_allSigns_4 V n x1 x2 = some z → Go E G (AG G) 0 0 (MQq E G (some (.int z)) V) 3 V 4 [(0, .ref (AD G 112)), (1, .int x1), (2, .int x2)] [] := by
  intro n
  induction n with
  | zero => intro x1 x2 h; cases h
  | succ n ih =>
    intro x1 x2 h
    rw [f_X9_allSigns_4] at h
    refine go_iloadn (pc := 4) F dX9_allSigns_4 2 rfl ?_
    refine go_iconst (pc := 5) 5 F dX9_allSigns_5 (by decide) ?_
    refine go_icmp_ge (pc := 6) 23 F dX9_allSigns_6 (by decide) h (fun c3 h => ?_) (fun c3 h => ?_)
    · refine go_iloadn (pc := 23) F dX9_allSigns_23 1 rfl ?_
      exact go_iretR (pc := 24) F dX9_allSigns_24 h
    · refine go_iloadn (pc := 9) F dX9_allSigns_9 1 rfl ?_
      refine go_aloadn (pc := 10) F dX9_allSigns_10 0 rfl ?_
      refine go_iloadn (pc := 11) F dX9_allSigns_11 2 rfl ?_
      obtain ⟨y1, hy1, h⟩ := ob_ h
      refine cv_X9_37 (pc := 12) F dX9_allSigns_12 rfl (ct_X9_many (enL E) G V x2 y1 hy1) (by decide) (by decide) (Nat.le_of_ble_eq_true rfl) ?_
      refine go_iadd (pc := 15) F dX9_allSigns_15 ?_
      refine go_topi h (fun y2 h => ?_)
      refine go_istoren (pc := 16) (lv' := [(1, .int y2), (0, .ref (AD G 112)), (2, .int x2)]) F dX9_allSigns_16 (by decide) rfl ?_
      refine go_iinc (pc := 17) (x2 + 1) (lv' := [(2, .int (x2 + 1)), (1, .int y2), (0, .ref (AD G 112))]) F dX9_allSigns_17 (k := 2) rfl rfl (by decide) rfl ?_
      refine go_goto (pc := 20) 4 F dX9_allSigns_20 (by decide) ?_
      exact go_sub [2, 1, 0] rfl (ih y2 (x2 + 1) h)
set_option maxRecDepth 100000 in
set_option maxHeartbeats 4000000 in
theorem ct_X9_allSigns (l : Launch) (G : Gm) (V : Wd) (z : Int32) (h : f_X9_allSigns V = some z) : Ct l G yX9_allSigns cX9_allSigns 3 (some .int) 1 21 [.ref (AD G 112)] V (some (.int z)) V := by
  refine Ct.of (own := RX9) (by decide +kernel) rfl (Nat.le_of_ble_eq_true rfl) (fun E F he => ?_)
  clear he
  refine go_sub (lv' := [(0, .ref (AD G 112))]) [0] rfl ?_
  unfold f_X9_allSigns at h
  refine go_iconst (pc := 0) 0 F dX9_allSigns_0 (by decide) ?_
  refine go_istoren (pc := 1) (lv' := [(1, .int 0), (0, .ref (AD G 112))]) F dX9_allSigns_1 (by decide) rfl ?_
  refine go_iconst (pc := 2) 0 F dX9_allSigns_2 (by decide) ?_
  refine go_istoren (pc := 3) (lv' := [(2, .int 0), (1, .int 0), (0, .ref (AD G 112))]) F dX9_allSigns_3 (by decide) rfl ?_
  exact go_sub [2, 1, 0] rfl (lb_X9_allSigns_4 F FU_ 0 0 h)
set_option maxRecDepth 100000 in
set_option maxHeartbeats 4000000 in
theorem lb_X9_save_7 {E : En} {G : Gm} (F : Fx E G (AG G) RX9 cX9_save 2 (some .int) 2 43 0 0) {z : Int32 × Wd} : ∀ (n : Nat) (V : Wd) (x1 : Int32), f_X9_save_7 n V x1 = some z → Go E G (AG G) 0 0 (MQq E G (some (.int z.1)) z.2) 2 V 7 [(0, .ref (AD G 112)), (1, .int x1)] [] := by
  intro n
  induction n with
  | zero => intro V x1 h; cases h
  | succ n ih =>
    intro V x1 h
    rw [f_X9_save_7] at h
    refine go_iloadn (pc := 7) F dX9_save_7 1 rfl ?_
    refine go_sipush (pc := 8) 136 F dX9_save_8 (by decide) ?_
    refine go_icmp_ge (pc := 11) 32 F dX9_save_11 (by decide) h (fun c5 h => ?_) (fun c5 h => ?_)
    · refine go_aloadn (pc := 32) F dX9_save_32 0 rfl ?_
      obtain ⟨y2, hy2, h⟩ := ob_ h
      refine cv_X9_45 (pc := 33) F dX9_save_33 rfl (ct_X9_allSigns (enL E) G V y2 hy2) (by decide) (by decide) (Nat.le_of_ble_eq_true rfl) ?_
      exact go_iretW (pc := 36) F dX9_save_36 h
    · refine go_aloadn (pc := 14) F dX9_save_14 0 rfl ?_
      refine gf_X9_16 (pc := 15) F dX9_save_15 rfl ?_
      refine go_iloadn (pc := 18) F dX9_save_18 1 rfl ?_
      refine go_aloadn (pc := 19) F dX9_save_19 0 rfl ?_
      refine gf_X9_7 (pc := 20) F dX9_save_20 rfl ?_
      refine go_iloadn (pc := 23) F dX9_save_23 1 rfl ?_
      refine go_iald (pc := 24) 136 F dX9_save_24 rfl (by decide) h (fun y3 h => ?_)
      refine go_iast (pc := 25) 136 F dX9_save_25 rfl (by decide) h (fun V4 h => ?_)
      refine go_iinc (pc := 26) (x1 + 1) (lv' := [(1, .int (x1 + 1)), (0, .ref (AD G 112))]) F dX9_save_26 (k := 1) rfl rfl (by decide) rfl ?_
      refine go_goto (pc := 29) 7 F dX9_save_29 (by decide) ?_
      exact go_sub [1, 0] rfl (ih V4 (x1 + 1) h)
set_option maxRecDepth 100000 in
set_option maxHeartbeats 4000000 in
theorem ct_X9_save (l : Launch) (G : Gm) (V : Wd) (z : Int32 × Wd) (h : f_X9_save V = some z) : Ct l G yX9_save cX9_save 2 (some .int) 2 43 [.ref (AD G 112)] V (some (.int z.1)) z.2 := by
  refine Ct.of (own := RX9) (by decide +kernel) rfl (Nat.le_of_ble_eq_true rfl) (fun E F he => ?_)
  clear he
  refine go_sub (lv' := [(0, .ref (AD G 112))]) [0] rfl ?_
  unfold f_X9_save at h
  refine go_aloadn (pc := 0) F dX9_save_0 0 rfl ?_
  refine go_iconst (pc := 1) 1 F dX9_save_1 (by decide) ?_
  refine pf_X9_41 (pc := 2) F dX9_save_2 rfl rfl rfl h (fun V1 h => ?_)
  refine go_iconst (pc := 5) 0 F dX9_save_5 (by decide) ?_
  refine go_istoren (pc := 6) (lv' := [(1, .int 0), (0, .ref (AD G 112))]) F dX9_save_6 (by decide) rfl ?_
  exact go_sub [1, 0] rfl (lb_X9_save_7 F FU_ V1 0 h)
set_option maxRecDepth 100000 in
set_option maxHeartbeats 4000000 in
theorem lb_X9_restore_16 {E : En} {G : Gm} (F : Fx E G (AG G) RX9 cX9_restore 2 (some .int) 2 43 0 0) {z : Int32 × Wd} : ∀ (n : Nat) (V : Wd) (x1 : Int32), f_X9_restore_16 n V x1 = some z → Go E G (AG G) 0 0 (MQq E G (some (.int z.1)) z.2) 2 V 16 [(0, .ref (AD G 112)), (1, .int x1)] [] := by
  intro n
  induction n with
  | zero => intro V x1 h; cases h
  | succ n ih =>
    intro V x1 h
    rw [f_X9_restore_16] at h
    refine go_iloadn (pc := 16) F dX9_restore_16 1 rfl ?_
    refine go_sipush (pc := 17) 136 F dX9_restore_17 (by decide) ?_
    refine go_icmp_ge (pc := 20) 41 F dX9_restore_20 (by decide) h (fun c6 h => ?_) (fun c6 h => ?_)
    · refine go_aloadn (pc := 41) F dX9_restore_41 0 rfl ?_
      obtain ⟨y3, hy3, h⟩ := ob_ h
      refine cv_X9_45 (pc := 42) F dX9_restore_42 rfl (ct_X9_allSigns (enL E) G V y3 hy3) (by decide) (by decide) (Nat.le_of_ble_eq_true rfl) ?_
      exact go_iretW (pc := 45) F dX9_restore_45 h
    · refine go_aloadn (pc := 23) F dX9_restore_23 0 rfl ?_
      refine gf_X9_7 (pc := 24) F dX9_restore_24 rfl ?_
      refine go_iloadn (pc := 27) F dX9_restore_27 1 rfl ?_
      refine go_aloadn (pc := 28) F dX9_restore_28 0 rfl ?_
      refine gf_X9_16 (pc := 29) F dX9_restore_29 rfl ?_
      refine go_iloadn (pc := 32) F dX9_restore_32 1 rfl ?_
      refine go_iald (pc := 33) 136 F dX9_restore_33 rfl (by decide) h (fun y4 h => ?_)
      refine go_iast (pc := 34) 136 F dX9_restore_34 rfl (by decide) h (fun V5 h => ?_)
      refine go_iinc (pc := 35) (x1 + 1) (lv' := [(1, .int (x1 + 1)), (0, .ref (AD G 112))]) F dX9_restore_35 (k := 1) rfl rfl (by decide) rfl ?_
      refine go_goto (pc := 38) 16 F dX9_restore_38 (by decide) ?_
      exact go_sub [1, 0] rfl (ih V5 (x1 + 1) h)
set_option maxRecDepth 100000 in
set_option maxHeartbeats 4000000 in
theorem ct_X9_restore (l : Launch) (G : Gm) (V : Wd) (z : Int32 × Wd) (h : f_X9_restore V = some z) : Ct l G yX9_restore cX9_restore 2 (some .int) 2 43 [.ref (AD G 112)] V (some (.int z.1)) z.2 := by
  refine Ct.of (own := RX9) (by decide +kernel) rfl (Nat.le_of_ble_eq_true rfl) (fun E F he => ?_)
  clear he
  refine go_sub (lv' := [(0, .ref (AD G 112))]) [0] rfl ?_
  unfold f_X9_restore at h
  refine go_aloadn (pc := 0) F dX9_restore_0 0 rfl ?_
  refine gf_X9_41 (pc := 1) F dX9_restore_1 rfl ?_
  refine go_if_ne (pc := 4) 10 F dX9_restore_4 (by decide) h (fun c2 h => ?_) (fun c2 h => ?_)
  · refine go_aloadn (pc := 10) F dX9_restore_10 0 rfl ?_
    obtain ⟨V1, hV1, h⟩ := ob_ h
    refine cv_X9_34 (pc := 11) F dX9_restore_11 rfl (ct_X9_record (enL E) G V V1 hV1) (by decide) (by decide) (Nat.le_of_ble_eq_true rfl) ?_
    refine go_iconst (pc := 14) 0 F dX9_restore_14 (by decide) ?_
    refine go_istoren (pc := 15) (lv' := [(1, .int 0), (0, .ref (AD G 112))]) F dX9_restore_15 (by decide) rfl ?_
    exact go_sub [1, 0] rfl (lb_X9_restore_16 F FU_ V1 0 h)
  · refine go_bipush (pc := 7) (-3) F dX9_restore_7 (by decide) ?_
    exact go_iretW (pc := 9) F dX9_restore_9 h
set_option maxRecDepth 100000 in
set_option maxHeartbeats 4000000 in
theorem lb_X9_flagWith_7 {E : En} {G : Gm} (F : Fx E G (AG G) RX9 cX9_flagWith 5 (some .int) 1 22 0 0) {V : Wd} {x1 : Int32} {x2 : Int32} {z : Int32} : ∀ (n : Nat) (x3 : Int32) (x4 : Int32), f_X9_flagWith_7 V x1 x2 n x3 x4 = some z → Go E G (AG G) 0 0 (MQq E G (some (.int z)) V) 5 V 7 [(0, .ref (AD G 112)), (1, .int x1), (2, .int x2), (3, .int x3), (4, .int x4)] [] := by
  intro n
  induction n with
  | zero => intro x3 x4 h; cases h
  | succ n ih =>
    intro x3 x4 h
    rw [f_X9_flagWith_7] at h
    refine go_iload (pc := 7) F dX9_flagWith_7 4 rfl ?_
    refine go_if_lt (pc := 9) 47 F dX9_flagWith_9 (by decide) h (fun c5 h => ?_) (fun c5 h => ?_)
    · refine go_iloadn (pc := 47) F dX9_flagWith_47 3 rfl ?_
      exact go_iretR (pc := 48) F dX9_flagWith_48 h
    · refine go_aloadn (pc := 12) F dX9_flagWith_12 0 rfl ?_
      refine go_iload (pc := 13) F dX9_flagWith_13 4 rfl ?_
      refine go_iconst (pc := 15) 0 F dX9_flagWith_15 (by decide) ?_
      obtain ⟨y1, hy1, h⟩ := ob_ h
      refine cv_X9_49 (pc := 16) F dX9_flagWith_16 rfl (ct_X9_ofFlag (enL E) G V x4 0 y1 hy1) (by decide) (by decide) (Nat.le_of_ble_eq_true rfl) ?_
      refine go_iloadn (pc := 19) F dX9_flagWith_19 1 rfl ?_
      refine go_icmp_ne (pc := 20) 39 F dX9_flagWith_20 (by decide) h (fun c4 h => ?_) (fun c4 h => ?_)
      · refine go_iloadn (pc := 39) F dX9_flagWith_39 3 rfl ?_
        refine go_istoren (pc := 40) (lv' := [(3, .int x3), (0, .ref (AD G 112)), (1, .int x1), (2, .int x2), (4, .int x4)]) F dX9_flagWith_40 (by decide) rfl ?_
        refine go_iinc (pc := 41) (x4 + (-1)) (lv' := [(4, .int (x4 + (-1))), (3, .int x3), (0, .ref (AD G 112)), (1, .int x1), (2, .int x2)]) F dX9_flagWith_41 (k := 4) rfl rfl (by decide) rfl ?_
        refine go_goto (pc := 44) 7 F dX9_flagWith_44 (by decide) ?_
        exact go_sub [2, 3, 4, 1, 0] rfl (ih x3 (x4 + (-1)) h)
      · refine go_aloadn (pc := 23) F dX9_flagWith_23 0 rfl ?_
        refine go_iload (pc := 24) F dX9_flagWith_24 4 rfl ?_
        refine go_iconst (pc := 26) 1 F dX9_flagWith_26 (by decide) ?_
        obtain ⟨y2, hy2, h⟩ := ob_ h
        refine cv_X9_49 (pc := 27) F dX9_flagWith_27 rfl (ct_X9_ofFlag (enL E) G V x4 1 y2 hy2) (by decide) (by decide) (Nat.le_of_ble_eq_true rfl) ?_
        refine go_iloadn (pc := 30) F dX9_flagWith_30 2 rfl ?_
        refine go_icmp_ne (pc := 31) 39 F dX9_flagWith_31 (by decide) h (fun c3 h => ?_) (fun c3 h => ?_)
        · refine go_iloadn (pc := 39) F dX9_flagWith_39 3 rfl ?_
          refine go_istoren (pc := 40) (lv' := [(3, .int x3), (0, .ref (AD G 112)), (1, .int x1), (2, .int x2), (4, .int x4)]) F dX9_flagWith_40 (by decide) rfl ?_
          refine go_iinc (pc := 41) (x4 + (-1)) (lv' := [(4, .int (x4 + (-1))), (3, .int x3), (0, .ref (AD G 112)), (1, .int x1), (2, .int x2)]) F dX9_flagWith_41 (k := 4) rfl rfl (by decide) rfl ?_
          refine go_goto (pc := 44) 7 F dX9_flagWith_44 (by decide) ?_
          exact go_sub [2, 3, 4, 1, 0] rfl (ih x3 (x4 + (-1)) h)
        · refine go_iload (pc := 34) F dX9_flagWith_34 4 rfl ?_
          refine go_goto (pc := 36) 40 F dX9_flagWith_36 (by decide) ?_
          refine go_istoren (pc := 40) (lv' := [(3, .int x4), (0, .ref (AD G 112)), (1, .int x1), (2, .int x2), (4, .int x4)]) F dX9_flagWith_40 (by decide) rfl ?_
          refine go_iinc (pc := 41) (x4 + (-1)) (lv' := [(4, .int (x4 + (-1))), (3, .int x4), (0, .ref (AD G 112)), (1, .int x1), (2, .int x2)]) F dX9_flagWith_41 (k := 4) rfl rfl (by decide) rfl ?_
          refine go_goto (pc := 44) 7 F dX9_flagWith_44 (by decide) ?_
          exact go_sub [2, 3, 4, 1, 0] rfl (ih x4 (x4 + (-1)) h)
set_option maxRecDepth 100000 in
set_option maxHeartbeats 4000000 in
theorem ct_X9_flagWith (l : Launch) (G : Gm) (V : Wd) (x1 : Int32) (x2 : Int32) (z : Int32) (h : f_X9_flagWith V x1 x2 = some z) : Ct l G yX9_flagWith cX9_flagWith 5 (some .int) 1 22 [.ref (AD G 112), .int x1, .int x2] V (some (.int z)) V := by
  refine Ct.of (own := RX9) (by decide +kernel) rfl (Nat.le_of_ble_eq_true rfl) (fun E F he => ?_)
  clear he
  refine go_sub (lv' := [(0, .ref (AD G 112)), (1, .int x1), (2, .int x2)]) [0, 1, 2] rfl ?_
  unfold f_X9_flagWith at h
  refine go_bipush (pc := 0) (-6) F dX9_flagWith_0 (by decide) ?_
  refine go_istoren (pc := 2) (lv' := [(3, .int (-6)), (0, .ref (AD G 112)), (1, .int x1), (2, .int x2)]) F dX9_flagWith_2 (by decide) rfl ?_
  refine go_bipush (pc := 3) 9 F dX9_flagWith_3 (by decide) ?_
  refine go_istore (pc := 5) (lv' := [(4, .int 9), (3, .int (-6)), (0, .ref (AD G 112)), (1, .int x1), (2, .int x2)]) F dX9_flagWith_5 (by decide) rfl ?_
  exact go_sub [2, 3, 4, 1, 0] rfl (lb_X9_flagWith_7 F FU_ (-6) 9 h)
set_option maxRecDepth 100000 in
set_option maxHeartbeats 4000000 in
theorem lb_X9_paint_94 {E : En} {G : Gm} (F : Fx E G (AG G) RX9 cX9_paint 7 (some .int) 2 42 0 0) {x1 : Int32} {x2 : Int32} {x3 : Int32} {x4 : Int32} {z : Int32 × Wd} : ∀ (n : Nat) (V : Wd) (x5 : Int32) (x6 : Int32), f_X9_paint_94 x1 x2 x3 x4 n V x5 x6 = some z → Go E G (AG G) 0 0 (MQq E G (some (.int z.1)) z.2) 7 V 94 [(0, .ref (AD G 112)), (2, .int x2), (3, .int x3), (5, .int x5), (6, .int x6)] [] := by
  intro n
  induction n with
  | zero => intro V x5 x6 h; cases h
  | succ n ih =>
    intro V x5 x6 h
    rw [f_X9_paint_94] at h
    refine go_iload (pc := 94) F dX9_paint_94 4 rfl ?_
    refine go_bipush (pc := 96) 10 F dX9_paint_96 (by decide) ?_
    refine go_icmp_ge (pc := 98) 139 F dX9_paint_98 (by decide) h (fun c16 h => ?_) (fun c16 h => ?_)
    · refine go_iload (pc := 139) F dX9_paint_139 3 rfl ?_
      exact go_iretW (pc := 141) F dX9_paint_141 h
    · refine go_iload (pc := 101) F dX9_paint_101 3 rfl ?_
      refine go_aloadn (pc := 103) F dX9_paint_103 0 rfl ?_
      refine go_iload (pc := 104) F dX9_paint_104 4 rfl ?_
      refine go_iconst (pc := 106) 0 F dX9_paint_106 (by decide) ?_
      obtain ⟨y9, hy9, h⟩ := ob_ h
      refine cv_X9_49 (pc := 107) F dX9_paint_107 rfl (ct_X9_ofFlag (enL E) G V x6 0 y9 hy9) (by decide) (by decide) (Nat.le_of_ble_eq_true rfl) ?_
      refine go_iloadn (pc := 110) F dX9_paint_110 1 rfl ?_
      refine go_icmp_ne (pc := 111) 129 F dX9_paint_111 (by decide) h (fun c15 h => ?_) (fun c15 h => ?_)
      · refine go_iconst (pc := 129) 0 F dX9_paint_129 (by decide) ?_
        refine go_iadd (pc := 130) F dX9_paint_130 ?_
        refine go_topi h (fun y10 h => ?_)
        refine go_istore (pc := 131) (lv' := [(5, .int y10), (0, .ref (AD G 112)), (2, .int x2), (3, .int x3), (6, .int x6)]) F dX9_paint_131 (by decide) rfl ?_
        refine go_iinc (pc := 133) (x6 + 1) (lv' := [(6, .int (x6 + 1)), (5, .int y10), (0, .ref (AD G 112)), (2, .int x2), (3, .int x3)]) F dX9_paint_133 (k := 4) rfl rfl (by decide) rfl ?_
        refine go_goto (pc := 136) 94 F dX9_paint_136 (by decide) ?_
        exact go_sub [2, 3, 4, 1, 0] rfl (ih V y10 (x6 + 1) h)
      · refine go_aloadn (pc := 114) F dX9_paint_114 0 rfl ?_
        refine go_iload (pc := 115) F dX9_paint_115 4 rfl ?_
        refine go_iconst (pc := 117) 1 F dX9_paint_117 (by decide) ?_
        obtain ⟨y11, hy11, h⟩ := ob_ h
        refine cv_X9_49 (pc := 118) F dX9_paint_118 rfl (ct_X9_ofFlag (enL E) G V x6 1 y11 hy11) (by decide) (by decide) (Nat.le_of_ble_eq_true rfl) ?_
        refine go_iloadn (pc := 121) F dX9_paint_121 2 rfl ?_
        refine go_icmp_ne (pc := 122) 129 F dX9_paint_122 (by decide) h (fun c14 h => ?_) (fun c14 h => ?_)
        · refine go_iconst (pc := 129) 0 F dX9_paint_129 (by decide) ?_
          refine go_iadd (pc := 130) F dX9_paint_130 ?_
          refine go_topi h (fun y12 h => ?_)
          refine go_istore (pc := 131) (lv' := [(5, .int y12), (0, .ref (AD G 112)), (2, .int x2), (3, .int x3), (6, .int x6)]) F dX9_paint_131 (by decide) rfl ?_
          refine go_iinc (pc := 133) (x6 + 1) (lv' := [(6, .int (x6 + 1)), (5, .int y12), (0, .ref (AD G 112)), (2, .int x2), (3, .int x3)]) F dX9_paint_133 (k := 4) rfl rfl (by decide) rfl ?_
          refine go_goto (pc := 136) 94 F dX9_paint_136 (by decide) ?_
          exact go_sub [2, 3, 4, 1, 0] rfl (ih V y12 (x6 + 1) h)
        · refine go_iconst (pc := 125) 1 F dX9_paint_125 (by decide) ?_
          refine go_goto (pc := 126) 130 F dX9_paint_126 (by decide) ?_
          refine go_iadd (pc := 130) F dX9_paint_130 ?_
          refine go_topi h (fun y13 h => ?_)
          refine go_istore (pc := 131) (lv' := [(5, .int y13), (0, .ref (AD G 112)), (2, .int x2), (3, .int x3), (6, .int x6)]) F dX9_paint_131 (by decide) rfl ?_
          refine go_iinc (pc := 133) (x6 + 1) (lv' := [(6, .int (x6 + 1)), (5, .int y13), (0, .ref (AD G 112)), (2, .int x2), (3, .int x3)]) F dX9_paint_133 (k := 4) rfl rfl (by decide) rfl ?_
          refine go_goto (pc := 136) 94 F dX9_paint_136 (by decide) ?_
          exact go_sub [2, 3, 4, 1, 0] rfl (ih V y13 (x6 + 1) h)
set_option maxRecDepth 100000 in
set_option maxHeartbeats 4000000 in
theorem ct_X9_paint (l : Launch) (G : Gm) (V : Wd) (x1 : Int32) (x2 : Int32) (x3 : Int32) (x4 : Int32) (z : Int32 × Wd) (h : f_X9_paint V x1 x2 x3 x4 = some z) : Ct l G yX9_paint cX9_paint 7 (some .int) 2 42 [.ref (AD G 112), .int x1, .int x2, .int x3, .int x4] V (some (.int z.1)) z.2 := by
  refine Ct.of (own := RX9) (by decide +kernel) rfl (Nat.le_of_ble_eq_true rfl) (fun E F he => ?_)
  clear he
  refine go_sub (lv' := [(0, .ref (AD G 112)), (1, .int x1), (2, .int x2), (3, .int x3), (4, .int x4)]) [0, 1, 2, 3, 4] rfl ?_
  unfold f_X9_paint at h
  refine go_iloadn (pc := 0) F dX9_paint_0 1 rfl ?_
  refine cv_X9_53 (pc := 1) F dX9_paint_1 (ct_X9_isFlag (enL E) G V x1) (by decide) (by decide) (Nat.le_of_ble_eq_true rfl) ?_
  refine go_if_ne (pc := 4) 9 F dX9_paint_4 (by decide) h (fun c8 h => ?_) (fun c8 h => ?_)
  · refine go_iloadn (pc := 9) F dX9_paint_9 2 rfl ?_
    refine go_iconst (pc := 10) 0 F dX9_paint_10 (by decide) ?_
    refine go_bipush (pc := 11) 7 F dX9_paint_11 (by decide) ?_
    refine cv_X9_26 (pc := 13) F dX9_paint_13 (ct_X9_in (enL E) G V x2 0 7) (by decide) (by decide) (Nat.le_of_ble_eq_true rfl) ?_
    refine go_if_eq (pc := 16) 40 F dX9_paint_16 (by decide) h (fun c7 h => ?_) (fun c7 h => ?_)
    · refine go_bipush (pc := 40) (-2) F dX9_paint_40 (by decide) ?_
      exact go_iretW (pc := 42) F dX9_paint_42 h
    · refine go_iloadn (pc := 19) F dX9_paint_19 3 rfl ?_
      refine go_iconst (pc := 20) 0 F dX9_paint_20 (by decide) ?_
      refine go_bipush (pc := 21) 7 F dX9_paint_21 (by decide) ?_
      refine cv_X9_26 (pc := 23) F dX9_paint_23 (ct_X9_in (enL E) G V x3 0 7) (by decide) (by decide) (Nat.le_of_ble_eq_true rfl) ?_
      refine go_if_eq (pc := 26) 40 F dX9_paint_26 (by decide) h (fun c6 h => ?_) (fun c6 h => ?_)
      · refine go_bipush (pc := 40) (-2) F dX9_paint_40 (by decide) ?_
        exact go_iretW (pc := 42) F dX9_paint_42 h
      · refine go_iload (pc := 29) F dX9_paint_29 4 rfl ?_
        refine go_iconst (pc := 31) 0 F dX9_paint_31 (by decide) ?_
        refine go_bipush (pc := 32) 9 F dX9_paint_32 (by decide) ?_
        refine cv_X9_26 (pc := 34) F dX9_paint_34 (ct_X9_in (enL E) G V x4 0 9) (by decide) (by decide) (Nat.le_of_ble_eq_true rfl) ?_
        refine go_if_ne (pc := 37) 43 F dX9_paint_37 (by decide) h (fun c5 h => ?_) (fun c5 h => ?_)
        · refine go_aloadn (pc := 43) F dX9_paint_43 0 rfl ?_
          obtain ⟨V1, hV1, h⟩ := ob_ h
          refine cv_X9_57 (pc := 44) F dX9_paint_44 rfl (ct_X9_recordAndDown (enL E) G V V1 hV1) (by decide) (by decide) (Nat.le_of_ble_eq_true rfl) ?_
          refine go_aloadn (pc := 47) F dX9_paint_47 0 rfl ?_
          refine gf_X9_7 (pc := 48) F dX9_paint_48 rfl ?_
          refine go_bipush (pc := 51) 8 F dX9_paint_51 (by decide) ?_
          refine go_iconst (pc := 53) 3 F dX9_paint_53 (by decide) ?_
          refine go_iloadn (pc := 54) F dX9_paint_54 1 rfl ?_
          refine go_imul (pc := 55) F dX9_paint_55 ?_
          refine go_iadd (pc := 56) F dX9_paint_56 ?_
          refine go_iloadn (pc := 57) F dX9_paint_57 2 rfl ?_
          refine go_iast (pc := 58) 136 F dX9_paint_58 rfl (by decide) h (fun V2 h => ?_)
          refine go_aloadn (pc := 59) F dX9_paint_59 0 rfl ?_
          refine gf_X9_7 (pc := 60) F dX9_paint_60 rfl ?_
          refine go_bipush (pc := 63) 8 F dX9_paint_63 (by decide) ?_
          refine go_iconst (pc := 65) 3 F dX9_paint_65 (by decide) ?_
          refine go_iloadn (pc := 66) F dX9_paint_66 1 rfl ?_
          refine go_imul (pc := 67) F dX9_paint_67 ?_
          refine go_iadd (pc := 68) F dX9_paint_68 ?_
          refine go_iconst (pc := 69) 1 F dX9_paint_69 (by decide) ?_
          refine go_iadd (pc := 70) F dX9_paint_70 ?_
          refine go_iloadn (pc := 71) F dX9_paint_71 3 rfl ?_
          refine go_iast (pc := 72) 136 F dX9_paint_72 rfl (by decide) h (fun V3 h => ?_)
          refine go_aloadn (pc := 73) F dX9_paint_73 0 rfl ?_
          refine gf_X9_7 (pc := 74) F dX9_paint_74 rfl ?_
          refine go_bipush (pc := 77) 8 F dX9_paint_77 (by decide) ?_
          refine go_iconst (pc := 79) 3 F dX9_paint_79 (by decide) ?_
          refine go_iloadn (pc := 80) F dX9_paint_80 1 rfl ?_
          refine go_imul (pc := 81) F dX9_paint_81 ?_
          refine go_iadd (pc := 82) F dX9_paint_82 ?_
          refine go_iconst (pc := 83) 2 F dX9_paint_83 (by decide) ?_
          refine go_iadd (pc := 84) F dX9_paint_84 ?_
          refine go_iload (pc := 85) F dX9_paint_85 4 rfl ?_
          refine go_iast (pc := 87) 136 F dX9_paint_87 rfl (by decide) h (fun V4 h => ?_)
          refine go_iconst (pc := 88) 0 F dX9_paint_88 (by decide) ?_
          refine go_istore (pc := 89) (lv' := [(5, .int 0), (0, .ref (AD G 112)), (1, .int x1), (2, .int x2), (3, .int x3), (4, .int x4)]) F dX9_paint_89 (by decide) rfl ?_
          refine go_iconst (pc := 91) 0 F dX9_paint_91 (by decide) ?_
          refine go_istore (pc := 92) (lv' := [(6, .int 0), (5, .int 0), (0, .ref (AD G 112)), (1, .int x1), (2, .int x2), (3, .int x3), (4, .int x4)]) F dX9_paint_92 (by decide) rfl ?_
          exact go_sub [2, 4, 5, 1, 0] rfl (lb_X9_paint_94 F FU_ V4 0 0 h)
        · refine go_bipush (pc := 40) (-2) F dX9_paint_40 (by decide) ?_
          exact go_iretW (pc := 42) F dX9_paint_42 h
  · refine go_iconst (pc := 7) (-1) F dX9_paint_7 (by decide) ?_
    exact go_iretW (pc := 8) F dX9_paint_8 h
set_option maxRecDepth 100000 in
set_option maxHeartbeats 4000000 in
theorem lb_X9_used_12 {E : En} {G : Gm} (F : Fx E G (AG G) RX9 cX9_used 5 (some .int) 1 22 0 0) {V : Wd} {x1 : Int32} {K4 : Int32 → Int32 → Option (Int32)} {z : Int32} (hK4 : ∀ (a2 : Int32) (a3 : Int32), K4 a2 a3 = some z → Go E G (AG G) 0 0 (MQq E G (some (.int z)) V) 5 V 4 [(0, .ref (AD G 112)), (1, .int x1), (2, .int a2), (3, .int a3)] []) : ∀ (n : Nat) (x2 : Int32) (x3 : Int32) (x4 : Int32), f_X9_used_12 V x1 K4 n x2 x3 x4 = some z → Go E G (AG G) 0 0 (MQq E G (some (.int z)) V) 5 V 12 [(0, .ref (AD G 112)), (1, .int x1), (2, .int x2), (3, .int x3), (4, .int x4)] [] := by
  intro n
  induction n with
  | zero => intro x2 x3 x4 h; cases h
  | succ n ih =>
    intro x2 x3 x4 h
    rw [f_X9_used_12] at h
    refine go_iload (pc := 12) F dX9_used_12 4 rfl ?_
    refine go_aloadn (pc := 14) F dX9_used_14 0 rfl ?_
    refine go_iloadn (pc := 15) F dX9_used_15 3 rfl ?_
    obtain ⟨y2, hy2, h⟩ := ob_ h
    refine cv_X9_37 (pc := 16) F dX9_used_16 rfl (ct_X9_many (enL E) G V x3 y2 hy2) (by decide) (by decide) (Nat.le_of_ble_eq_true rfl) ?_
    refine go_icmp_gt (pc := 19) 47 F dX9_used_19 (by decide) h (fun c7 h => ?_) (fun c7 h => ?_)
    · refine go_iinc (pc := 47) (x3 + 1) (lv' := [(3, .int (x3 + 1)), (0, .ref (AD G 112)), (1, .int x1), (2, .int x2), (4, .int x4)]) F dX9_used_47 (k := 3) rfl rfl (by decide) rfl ?_
      refine go_goto (pc := 50) 4 F dX9_used_50 (by decide) ?_
      exact go_sub [1, 2, 3, 0] rfl (hK4 x2 (x3 + 1) h)
    · refine go_iloadn (pc := 22) F dX9_used_22 2 rfl ?_
      refine go_aloadn (pc := 23) F dX9_used_23 0 rfl ?_
      refine go_iloadn (pc := 24) F dX9_used_24 3 rfl ?_
      refine go_iload (pc := 25) F dX9_used_25 4 rfl ?_
      obtain ⟨y3, hy3, h⟩ := ob_ h
      refine cv_X9_60 (pc := 27) F dX9_used_27 rfl (ct_X9_signOn (enL E) G V x3 x4 y3 hy3) (by decide) (by decide) (Nat.le_of_ble_eq_true rfl) ?_
      refine go_iloadn (pc := 30) F dX9_used_30 1 rfl ?_
      refine go_icmp_ne (pc := 31) 38 F dX9_used_31 (by decide) h (fun c6 h => ?_) (fun c6 h => ?_)
      · refine go_iconst (pc := 38) 0 F dX9_used_38 (by decide) ?_
        refine go_iadd (pc := 39) F dX9_used_39 ?_
        refine go_topi h (fun y4 h => ?_)
        refine go_istoren (pc := 40) (lv' := [(2, .int y4), (0, .ref (AD G 112)), (1, .int x1), (3, .int x3), (4, .int x4)]) F dX9_used_40 (by decide) rfl ?_
        refine go_iinc (pc := 41) (x4 + 1) (lv' := [(4, .int (x4 + 1)), (2, .int y4), (0, .ref (AD G 112)), (1, .int x1), (3, .int x3)]) F dX9_used_41 (k := 4) rfl rfl (by decide) rfl ?_
        refine go_goto (pc := 44) 12 F dX9_used_44 (by decide) ?_
        exact go_sub [2, 3, 1, 4, 0] rfl (ih y4 x3 (x4 + 1) h)
      · refine go_iconst (pc := 34) 1 F dX9_used_34 (by decide) ?_
        refine go_goto (pc := 35) 39 F dX9_used_35 (by decide) ?_
        refine go_iadd (pc := 39) F dX9_used_39 ?_
        refine go_topi h (fun y5 h => ?_)
        refine go_istoren (pc := 40) (lv' := [(2, .int y5), (0, .ref (AD G 112)), (1, .int x1), (3, .int x3), (4, .int x4)]) F dX9_used_40 (by decide) rfl ?_
        refine go_iinc (pc := 41) (x4 + 1) (lv' := [(4, .int (x4 + 1)), (2, .int y5), (0, .ref (AD G 112)), (1, .int x1), (3, .int x3)]) F dX9_used_41 (k := 4) rfl rfl (by decide) rfl ?_
        refine go_goto (pc := 44) 12 F dX9_used_44 (by decide) ?_
        exact go_sub [2, 3, 1, 4, 0] rfl (ih y5 x3 (x4 + 1) h)
set_option maxRecDepth 100000 in
set_option maxHeartbeats 4000000 in
theorem lb_X9_used_4 {E : En} {G : Gm} (F : Fx E G (AG G) RX9 cX9_used 5 (some .int) 1 22 0 0) {V : Wd} {x1 : Int32} {z : Int32} : ∀ (n : Nat) (x2 : Int32) (x3 : Int32), f_X9_used_4 V x1 n x2 x3 = some z → Go E G (AG G) 0 0 (MQq E G (some (.int z)) V) 5 V 4 [(0, .ref (AD G 112)), (1, .int x1), (2, .int x2), (3, .int x3)] [] := by
  intro n
  induction n with
  | zero => intro x2 x3 h; cases h
  | succ n ih =>
    intro x2 x3 h
    rw [f_X9_used_4] at h
    refine go_iloadn (pc := 4) F dX9_used_4 3 rfl ?_
    refine go_iconst (pc := 5) 5 F dX9_used_5 (by decide) ?_
    refine go_icmp_ge (pc := 6) 53 F dX9_used_6 (by decide) h (fun c1 h => ?_) (fun c1 h => ?_)
    · refine go_iloadn (pc := 53) F dX9_used_53 2 rfl ?_
      exact go_iretR (pc := 54) F dX9_used_54 h
    · refine go_iconst (pc := 9) 1 F dX9_used_9 (by decide) ?_
      refine go_istore (pc := 10) (lv' := [(4, .int 1), (0, .ref (AD G 112)), (1, .int x1), (2, .int x2), (3, .int x3)]) F dX9_used_10 (by decide) rfl ?_
      exact go_sub [1, 2, 3, 4, 0] rfl (lb_X9_used_12 F (fun a2 a3 h => ih a2 a3 h) FU_ x2 x3 1 h)
set_option maxRecDepth 100000 in
set_option maxHeartbeats 4000000 in
theorem ct_X9_used (l : Launch) (G : Gm) (V : Wd) (x1 : Int32) (z : Int32) (h : f_X9_used V x1 = some z) : Ct l G yX9_used cX9_used 5 (some .int) 1 22 [.ref (AD G 112), .int x1] V (some (.int z)) V := by
  refine Ct.of (own := RX9) (by decide +kernel) rfl (Nat.le_of_ble_eq_true rfl) (fun E F he => ?_)
  clear he
  refine go_sub (lv' := [(0, .ref (AD G 112)), (1, .int x1)]) [0, 1] rfl ?_
  unfold f_X9_used at h
  refine go_iconst (pc := 0) 0 F dX9_used_0 (by decide) ?_
  refine go_istoren (pc := 1) (lv' := [(2, .int 0), (0, .ref (AD G 112)), (1, .int x1)]) F dX9_used_1 (by decide) rfl ?_
  refine go_iconst (pc := 2) 0 F dX9_used_2 (by decide) ?_
  refine go_istoren (pc := 3) (lv' := [(3, .int 0), (2, .int 0), (0, .ref (AD G 112)), (1, .int x1)]) F dX9_used_3 (by decide) rfl ?_
  exact go_sub [2, 3, 1, 0] rfl (lb_X9_used_4 F FU_ 0 0 h)
set_option maxRecDepth 100000 in
set_option maxHeartbeats 4000000 in
theorem lb_X9_mostUsed_4 {E : En} {G : Gm} (F : Fx E G (AG G) RX9 cX9_mostUsed 3 (some .int) 2 46 0 0) {V : Wd} {z : Int32} : ∀ (n : Nat) (x1 : Int32) (x2 : Int32), f_X9_mostUsed_4 V n x1 x2 = some z → Go E G (AG G) 0 0 (MQq E G (some (.int z)) V) 3 V 4 [(0, .ref (AD G 112)), (1, .int x1), (2, .int x2)] [] := by
  intro n
  induction n with
  | zero => intro x1 x2 h; cases h
  | succ n ih =>
    intro x1 x2 h
    rw [f_X9_mostUsed_4] at h
    refine go_iloadn (pc := 4) F dX9_mostUsed_4 2 rfl ?_
    refine go_bipush (pc := 5) 13 F dX9_mostUsed_5 (by decide) ?_
    refine go_icmp_gt (pc := 7) 35 F dX9_mostUsed_7 (by decide) h (fun c4 h => ?_) (fun c4 h => ?_)
    · refine go_iloadn (pc := 35) F dX9_mostUsed_35 1 rfl ?_
      exact go_iretR (pc := 36) F dX9_mostUsed_36 h
    · refine go_aloadn (pc := 10) F dX9_mostUsed_10 0 rfl ?_
      refine go_iloadn (pc := 11) F dX9_mostUsed_11 2 rfl ?_
      obtain ⟨y1, hy1, h⟩ := ob_ h
      refine cv_X9_63 (pc := 12) F dX9_mostUsed_12 rfl (ct_X9_used (enL E) G V x2 y1 hy1) (by decide) (by decide) (Nat.le_of_ble_eq_true rfl) ?_
      refine go_iloadn (pc := 15) F dX9_mostUsed_15 1 rfl ?_
      refine go_icmp_le (pc := 16) 27 F dX9_mostUsed_16 (by decide) h (fun c3 h => ?_) (fun c3 h => ?_)
      · refine go_iloadn (pc := 27) F dX9_mostUsed_27 1 rfl ?_
        refine go_istoren (pc := 28) (lv' := [(1, .int x1), (0, .ref (AD G 112)), (2, .int x2)]) F dX9_mostUsed_28 (by decide) rfl ?_
        refine go_iinc (pc := 29) (x2 + 1) (lv' := [(2, .int (x2 + 1)), (1, .int x1), (0, .ref (AD G 112))]) F dX9_mostUsed_29 (k := 2) rfl rfl (by decide) rfl ?_
        refine go_goto (pc := 32) 4 F dX9_mostUsed_32 (by decide) ?_
        exact go_sub [2, 1, 0] rfl (ih x1 (x2 + 1) h)
      · refine go_aloadn (pc := 19) F dX9_mostUsed_19 0 rfl ?_
        refine go_iloadn (pc := 20) F dX9_mostUsed_20 2 rfl ?_
        obtain ⟨y2, hy2, h⟩ := ob_ h
        refine cv_X9_63 (pc := 21) F dX9_mostUsed_21 rfl (ct_X9_used (enL E) G V x2 y2 hy2) (by decide) (by decide) (Nat.le_of_ble_eq_true rfl) ?_
        refine go_goto (pc := 24) 28 F dX9_mostUsed_24 (by decide) ?_
        refine go_istoren (pc := 28) (lv' := [(1, .int y2), (0, .ref (AD G 112)), (2, .int x2)]) F dX9_mostUsed_28 (by decide) rfl ?_
        refine go_iinc (pc := 29) (x2 + 1) (lv' := [(2, .int (x2 + 1)), (1, .int y2), (0, .ref (AD G 112))]) F dX9_mostUsed_29 (k := 2) rfl rfl (by decide) rfl ?_
        refine go_goto (pc := 32) 4 F dX9_mostUsed_32 (by decide) ?_
        exact go_sub [2, 1, 0] rfl (ih y2 (x2 + 1) h)
set_option maxRecDepth 100000 in
set_option maxHeartbeats 4000000 in
theorem ct_X9_mostUsed (l : Launch) (G : Gm) (V : Wd) (z : Int32) (h : f_X9_mostUsed V = some z) : Ct l G yX9_mostUsed cX9_mostUsed 3 (some .int) 2 46 [.ref (AD G 112)] V (some (.int z)) V := by
  refine Ct.of (own := RX9) (by decide +kernel) rfl (Nat.le_of_ble_eq_true rfl) (fun E F he => ?_)
  clear he
  refine go_sub (lv' := [(0, .ref (AD G 112))]) [0] rfl ?_
  unfold f_X9_mostUsed at h
  refine go_iconst (pc := 0) 0 F dX9_mostUsed_0 (by decide) ?_
  refine go_istoren (pc := 1) (lv' := [(1, .int 0), (0, .ref (AD G 112))]) F dX9_mostUsed_1 (by decide) rfl ?_
  refine go_iconst (pc := 2) 0 F dX9_mostUsed_2 (by decide) ?_
  refine go_istoren (pc := 3) (lv' := [(2, .int 0), (1, .int 0), (0, .ref (AD G 112))]) F dX9_mostUsed_3 (by decide) rfl ?_
  exact go_sub [2, 1, 0] rfl (lb_X9_mostUsed_4 F FU_ 0 0 h)
set_option maxRecDepth 100000 in
set_option maxHeartbeats 4000000 in
theorem ct_X9_setStock (l : Launch) (G : Gm) (V : Wd) (x1 : Int32) (z : Int32 × Wd) (h : f_X9_setStock V x1 = some z) : Ct l G yX9_setStock cX9_setStock 3 (some .int) 3 68 [.ref (AD G 112), .int x1] V (some (.int z.1)) z.2 := by
  refine Ct.of (own := RX9) (by decide +kernel) rfl (Nat.le_of_ble_eq_true rfl) (fun E F he => ?_)
  clear he
  refine go_sub (lv' := [(0, .ref (AD G 112)), (1, .int x1)]) [0, 1] rfl ?_
  unfold f_X9_setStock at h
  refine go_iloadn (pc := 0) F dX9_setStock_0 1 rfl ?_
  refine go_iconst (pc := 1) 1 F dX9_setStock_1 (by decide) ?_
  refine go_iconst (pc := 2) 3 F dX9_setStock_2 (by decide) ?_
  refine cv_X9_26 (pc := 3) F dX9_setStock_3 (ct_X9_in (enL E) G V x1 1 3) (by decide) (by decide) (Nat.le_of_ble_eq_true rfl) ?_
  refine go_if_ne (pc := 6) 12 F dX9_setStock_6 (by decide) h (fun c6 h => ?_) (fun c6 h => ?_)
  · refine go_aloadn (pc := 12) F dX9_setStock_12 0 rfl ?_
    obtain ⟨y1, hy1, h⟩ := ob_ h
    refine cv_X9_66 (pc := 13) F dX9_setStock_13 rfl (ct_X9_mostUsed (enL E) G V y1 hy1) (by decide) (by decide) (Nat.le_of_ble_eq_true rfl) ?_
    refine go_iloadn (pc := 16) F dX9_setStock_16 1 rfl ?_
    refine go_icmp_le (pc := 17) 23 F dX9_setStock_17 (by decide) h (fun c5 h => ?_) (fun c5 h => ?_)
    · refine go_aloadn (pc := 23) F dX9_setStock_23 0 rfl ?_
      obtain ⟨V2, hV2, h⟩ := ob_ h
      refine cv_X9_34 (pc := 24) F dX9_setStock_24 rfl (ct_X9_record (enL E) G V V2 hV2) (by decide) (by decide) (Nat.le_of_ble_eq_true rfl) ?_
      refine go_aloadn (pc := 27) F dX9_setStock_27 0 rfl ?_
      refine gf_X9_7 (pc := 28) F dX9_setStock_28 rfl ?_
      refine go_iconst (pc := 31) 0 F dX9_setStock_31 (by decide) ?_
      refine go_iald (pc := 32) 136 F dX9_setStock_32 rfl (by decide) h (fun y3 h => ?_)
      refine go_istoren (pc := 33) (lv' := [(2, .int y3), (0, .ref (AD G 112)), (1, .int x1)]) F dX9_setStock_33 (by decide) rfl ?_
      refine go_aloadn (pc := 34) F dX9_setStock_34 1 rfl ?_
      refine gf_X9_7 (pc := 35) F dX9_setStock_35 rfl ?_
      refine go_iconst (pc := 38) 0 F dX9_setStock_38 (by decide) ?_
      refine go_iloadn (pc := 39) F dX9_setStock_39 2 rfl ?_
      refine go_iast (pc := 40) 136 F dX9_setStock_40 rfl (by decide) h (fun V4 h => ?_)
      refine go_iloadn (pc := 41) F dX9_setStock_41 0 rfl ?_
      exact go_iretW (pc := 42) F dX9_setStock_42 h
    · refine go_bipush (pc := 20) (-3) F dX9_setStock_20 (by decide) ?_
      exact go_iretW (pc := 22) F dX9_setStock_22 h
  · refine go_bipush (pc := 9) (-2) F dX9_setStock_9 (by decide) ?_
    exact go_iretW (pc := 11) F dX9_setStock_11 h
set_option maxRecDepth 100000 in
set_option maxHeartbeats 4000000 in
theorem ct_X9_setWind (l : Launch) (G : Gm) (V : Wd) (x1 : Int32) (x2 : Int32) (z : Int32 × Wd) (h : f_X9_setWind V x1 x2 = some z) : Ct l G yX9_setWind cX9_setWind 4 (some .int) 2 42 [.ref (AD G 112), .int x1, .int x2] V (some (.int z.1)) z.2 := by
  refine Ct.of (own := RX9) (by decide +kernel) rfl (Nat.le_of_ble_eq_true rfl) (fun E F he => ?_)
  clear he
  refine go_sub (lv' := [(0, .ref (AD G 112)), (1, .int x1), (2, .int x2)]) [0, 1, 2] rfl ?_
  unfold f_X9_setWind at h
  refine go_iloadn (pc := 0) F dX9_setWind_0 1 rfl ?_
  refine go_iconst (pc := 1) 0 F dX9_setWind_1 (by decide) ?_
  refine go_bipush (pc := 2) 9 F dX9_setWind_2 (by decide) ?_
  refine cv_X9_26 (pc := 4) F dX9_setWind_4 (ct_X9_in (enL E) G V x1 0 9) (by decide) (by decide) (Nat.le_of_ble_eq_true rfl) ?_
  refine go_if_eq (pc := 7) 17 F dX9_setWind_7 (by decide) h (fun c6 h => ?_) (fun c6 h => ?_)
  · refine go_bipush (pc := 17) (-2) F dX9_setWind_17 (by decide) ?_
    exact go_iretW (pc := 19) F dX9_setWind_19 h
  · refine go_iloadn (pc := 10) F dX9_setWind_10 2 rfl ?_
    refine cv_X9_69 (pc := 11) F dX9_setWind_11 (ct_X9_isSide (enL E) G V x2) (by decide) (by decide) (Nat.le_of_ble_eq_true rfl) ?_
    refine go_if_ne (pc := 14) 20 F dX9_setWind_14 (by decide) h (fun c5 h => ?_) (fun c5 h => ?_)
    · refine go_aloadn (pc := 20) F dX9_setWind_20 0 rfl ?_
      obtain ⟨V1, hV1, h⟩ := ob_ h
      refine cv_X9_57 (pc := 21) F dX9_setWind_21 rfl (ct_X9_recordAndDown (enL E) G V V1 hV1) (by decide) (by decide) (Nat.le_of_ble_eq_true rfl) ?_
      refine go_aloadn (pc := 24) F dX9_setWind_24 0 rfl ?_
      refine gf_X9_7 (pc := 25) F dX9_setWind_25 rfl ?_
      refine go_iconst (pc := 28) 1 F dX9_setWind_28 (by decide) ?_
      refine go_iald (pc := 29) 136 F dX9_setWind_29 rfl (by decide) h (fun y2 h => ?_)
      refine go_istoren (pc := 30) (lv' := [(3, .int y2), (0, .ref (AD G 112)), (1, .int x1), (2, .int x2)]) F dX9_setWind_30 (by decide) rfl ?_
      refine go_aloadn (pc := 31) F dX9_setWind_31 1 rfl ?_
      refine gf_X9_7 (pc := 32) F dX9_setWind_32 rfl ?_
      refine go_iconst (pc := 35) 1 F dX9_setWind_35 (by decide) ?_
      refine go_iloadn (pc := 36) F dX9_setWind_36 2 rfl ?_
      refine go_iast (pc := 37) 136 F dX9_setWind_37 rfl (by decide) h (fun V3 h => ?_)
      refine go_aloadn (pc := 38) F dX9_setWind_38 1 rfl ?_
      refine gf_X9_7 (pc := 39) F dX9_setWind_39 rfl ?_
      refine go_iconst (pc := 42) 2 F dX9_setWind_42 (by decide) ?_
      refine go_iloadn (pc := 43) F dX9_setWind_43 3 rfl ?_
      refine go_iast (pc := 44) 136 F dX9_setWind_44 rfl (by decide) h (fun V4 h => ?_)
      refine go_iloadn (pc := 45) F dX9_setWind_45 0 rfl ?_
      exact go_iretW (pc := 46) F dX9_setWind_46 h
    · refine go_bipush (pc := 17) (-2) F dX9_setWind_17 (by decide) ?_
      exact go_iretW (pc := 19) F dX9_setWind_19 h
set_option maxRecDepth 100000 in
set_option maxHeartbeats 4000000 in
theorem ct_X9_flag (l : Launch) (G : Gm) (V : Wd) (x1 : Int32) (x2 : Int32) (z : Int32) (h : f_X9_flag V x1 x2 = some z) : Ct l G yX9_flag cX9_flag 3 (some .int) 2 46 [.ref (AD G 112), .int x1, .int x2] V (some (.int z)) V := by
  refine Ct.of (own := RX9) (by decide +kernel) rfl (Nat.le_of_ble_eq_true rfl) (fun E F he => ?_)
  clear he
  refine go_sub (lv' := [(0, .ref (AD G 112)), (1, .int x1), (2, .int x2)]) [0, 1, 2] rfl ?_
  unfold f_X9_flag at h
  refine go_iloadn (pc := 0) F dX9_flag_0 1 rfl ?_
  refine cv_X9_53 (pc := 1) F dX9_flag_1 (ct_X9_isFlag (enL E) G V x1) (by decide) (by decide) (Nat.le_of_ble_eq_true rfl) ?_
  refine go_if_ne (pc := 4) 9 F dX9_flag_4 (by decide) h (fun c14 h => ?_) (fun c14 h => ?_)
  · refine go_iloadn (pc := 9) F dX9_flag_9 2 rfl ?_
    refine go_sw h (fun c1 h => ?_) (fun c1 h => ?_)
    · refine go_tabI (pc := 10) 44 F dX9_flag_10 c1 (by decide) (by decide) rfl (by decide) ?_
      refine go_aloadn (pc := 44) F dX9_flag_44 0 rfl ?_
      refine go_iloadn (pc := 45) F dX9_flag_45 1 rfl ?_
      refine go_iloadn (pc := 46) F dX9_flag_46 2 rfl ?_
      obtain ⟨y2, hy2, h⟩ := ob_ h
      refine cv_X9_49 (pc := 47) F dX9_flag_47 rfl (ct_X9_ofFlag (enL E) G V x1 x2 y2 hy2) (by decide) (by decide) (Nat.le_of_ble_eq_true rfl) ?_
      exact go_iretR (pc := 50) F dX9_flag_50 h
    · refine go_sw h (fun c3 h => ?_) (fun c3 h => ?_)
      · refine go_tabI (pc := 10) 44 F dX9_flag_10 c3 (by decide) (by decide) rfl (by decide) ?_
        refine go_aloadn (pc := 44) F dX9_flag_44 0 rfl ?_
        refine go_iloadn (pc := 45) F dX9_flag_45 1 rfl ?_
        refine go_iloadn (pc := 46) F dX9_flag_46 2 rfl ?_
        obtain ⟨y4, hy4, h⟩ := ob_ h
        refine cv_X9_49 (pc := 47) F dX9_flag_47 rfl (ct_X9_ofFlag (enL E) G V x1 x2 y4 hy4) (by decide) (by decide) (Nat.le_of_ble_eq_true rfl) ?_
        exact go_iretR (pc := 50) F dX9_flag_50 h
      · refine go_sw h (fun c5 h => ?_) (fun c5 h => ?_)
        · refine go_tabI (pc := 10) 44 F dX9_flag_10 c5 (by decide) (by decide) rfl (by decide) ?_
          refine go_aloadn (pc := 44) F dX9_flag_44 0 rfl ?_
          refine go_iloadn (pc := 45) F dX9_flag_45 1 rfl ?_
          refine go_iloadn (pc := 46) F dX9_flag_46 2 rfl ?_
          obtain ⟨y6, hy6, h⟩ := ob_ h
          refine cv_X9_49 (pc := 47) F dX9_flag_47 rfl (ct_X9_ofFlag (enL E) G V x1 x2 y6 hy6) (by decide) (by decide) (Nat.le_of_ble_eq_true rfl) ?_
          exact go_iretR (pc := 50) F dX9_flag_50 h
        · refine go_sw h (fun c7 h => ?_) (fun c7 h => ?_)
          · refine go_tabI (pc := 10) 51 F dX9_flag_10 c7 (by decide) (by decide) rfl (by decide) ?_
            refine go_aloadn (pc := 51) F dX9_flag_51 0 rfl ?_
            refine gf_X9_7 (pc := 52) F dX9_flag_52 rfl ?_
            refine go_iconst (pc := 55) 0 F dX9_flag_55 (by decide) ?_
            refine go_iald (pc := 56) 136 F dX9_flag_56 rfl (by decide) h (fun y8 h => ?_)
            refine go_aloadn (pc := 57) F dX9_flag_57 0 rfl ?_
            refine go_iloadn (pc := 58) F dX9_flag_58 1 rfl ?_
            obtain ⟨y9, hy9, h⟩ := ob_ h
            refine cv_X9_63 (pc := 59) F dX9_flag_59 rfl (ct_X9_used (enL E) G V x1 y9 hy9) (by decide) (by decide) (Nat.le_of_ble_eq_true rfl) ?_
            refine go_isub (pc := 62) F dX9_flag_62 ?_
            exact go_iretR (pc := 63) F dX9_flag_63 h
          · refine go_sw h (fun c10 h => ?_) (fun c10 h => ?_)
            · refine go_tabI (pc := 10) 64 F dX9_flag_10 c10 (by decide) (by decide) rfl (by decide) ?_
              refine go_aloadn (pc := 64) F dX9_flag_64 0 rfl ?_
              refine go_aloadn (pc := 65) F dX9_flag_65 0 rfl ?_
              refine go_iloadn (pc := 66) F dX9_flag_66 1 rfl ?_
              refine go_iconst (pc := 67) 1 F dX9_flag_67 (by decide) ?_
              obtain ⟨y11, hy11, h⟩ := ob_ h
              refine cv_X9_49 (pc := 68) F dX9_flag_68 rfl (ct_X9_ofFlag (enL E) G V x1 1 y11 hy11) (by decide) (by decide) (Nat.le_of_ble_eq_true rfl) ?_
              refine go_aloadn (pc := 71) F dX9_flag_71 0 rfl ?_
              refine go_iloadn (pc := 72) F dX9_flag_72 1 rfl ?_
              refine go_iconst (pc := 73) 0 F dX9_flag_73 (by decide) ?_
              obtain ⟨y12, hy12, h⟩ := ob_ h
              refine cv_X9_49 (pc := 74) F dX9_flag_74 rfl (ct_X9_ofFlag (enL E) G V x1 0 y12 hy12) (by decide) (by decide) (Nat.le_of_ble_eq_true rfl) ?_
              obtain ⟨y13, hy13, h⟩ := ob_ h
              refine cv_X9_72 (pc := 77) F dX9_flag_77 rfl (ct_X9_flagWith (enL E) G V y11 y12 y13 hy13) (by decide) (by decide) (Nat.le_of_ble_eq_true rfl) ?_
              exact go_iretR (pc := 80) F dX9_flag_80 h
            · refine go_tabO (pc := 10) 81 F dX9_flag_10 (tab_o 5 (by decide) (by decide) (fun j hj => by rcases (show j = 0 ∨ j = 1 ∨ j = 2 ∨ j = 3 ∨ j = 4 by omega) with rfl | rfl | rfl | rfl | rfl <;> first | exact c1 | exact c3 | exact c5 | exact c7 | exact c10)) (by decide) ?_
              refine go_bipush (pc := 81) (-2) F dX9_flag_81 (by decide) ?_
              exact go_iretR (pc := 83) F dX9_flag_83 h
  · refine go_iconst (pc := 7) (-1) F dX9_flag_7 (by decide) ?_
    exact go_iretR (pc := 8) F dX9_flag_8 h
set_option maxRecDepth 100000 in
set_option maxHeartbeats 4000000 in
theorem ct_X9_isSign (l : Launch) (G : Gm) (V : Wd) (x0 : Int32) : Ct l G yX9_isSign cX9_isSign 1 (some .boolean) 2 42 [.int x0] V (some (.int (f_X9_isSign x0))) V := by
  generalize h : f_X9_isSign x0 = z
  refine Ct.of (own := RX9) (by decide +kernel) rfl (Nat.le_of_ble_eq_true rfl) (fun E F he => ?_)
  clear he
  refine go_sub (lv' := [(0, .int x0)]) [0] rfl ?_
  unfold f_X9_isSign at h
  refine go_iloadn (pc := 0) F dX9_isSign_0 0 rfl ?_
  refine cv_X9_53 (pc := 1) F dX9_isSign_1 (ct_X9_isFlag (enL E) G V x0) (by decide) (by decide) (Nat.le_of_ble_eq_true rfl) ?_
  refine go_if_ne (pc := 4) 18 F dX9_isSign_4 (by decide) h (fun c2 h => ?_) (fun c2 h => ?_)
  · refine go_iconst (pc := 18) 1 F dX9_isSign_18 (by decide) ?_
    refine go_goto (pc := 19) 23 F dX9_isSign_19 (by decide) ?_
    exact go_zretT (pc := 23) F dX9_isSign_23 rfl h
  · refine go_iloadn (pc := 7) F dX9_isSign_7 0 rfl ?_
    refine go_bipush (pc := 8) 11 F dX9_isSign_8 (by decide) ?_
    refine go_bipush (pc := 10) 13 F dX9_isSign_10 (by decide) ?_
    refine cv_X9_26 (pc := 12) F dX9_isSign_12 (ct_X9_in (enL E) G V x0 11 13) (by decide) (by decide) (Nat.le_of_ble_eq_true rfl) ?_
    refine go_if_eq (pc := 15) 22 F dX9_isSign_15 (by decide) h (fun c1 h => ?_) (fun c1 h => ?_)
    · refine go_iconst (pc := 22) 0 F dX9_isSign_22 (by decide) ?_
      exact go_zretT (pc := 23) F dX9_isSign_23 rfl h
    · refine go_iconst (pc := 18) 1 F dX9_isSign_18 (by decide) ?_
      refine go_goto (pc := 19) 23 F dX9_isSign_19 (by decide) ?_
      exact go_zretT (pc := 23) F dX9_isSign_23 rfl h
set_option maxRecDepth 100000 in
set_option maxHeartbeats 4000000 in
theorem ct_X9_putOn (l : Launch) (G : Gm) (V : Wd) (x1 : Int32) (x2 : Int32) (z : Wd) (h : f_X9_putOn V x1 x2 = some z) : Ct l G yX9_putOn cX9_putOn 3 none 1 21 [.ref (AD G 112), .int x1, .int x2] V none z := by
  refine Ct.of (own := RX9) (by decide +kernel) rfl (Nat.le_of_ble_eq_true rfl) (fun E F he => ?_)
  clear he
  refine go_sub (lv' := [(0, .ref (AD G 112)), (1, .int x1), (2, .int x2)]) [0, 1, 2] rfl ?_
  unfold f_X9_putOn at h
  refine go_aloadn (pc := 0) F dX9_putOn_0 0 rfl ?_
  refine gf_X9_7 (pc := 1) F dX9_putOn_1 rfl ?_
  refine go_bipush (pc := 4) 38 F dX9_putOn_4 (by decide) ?_
  refine go_iconst (pc := 6) 5 F dX9_putOn_6 (by decide) ?_
  refine go_iloadn (pc := 7) F dX9_putOn_7 1 rfl ?_
  refine go_imul (pc := 8) F dX9_putOn_8 ?_
  refine go_iadd (pc := 9) F dX9_putOn_9 ?_
  refine go_dup2 (pc := 10) F dX9_putOn_10 rfl rfl ?_
  refine go_iald (pc := 11) 136 F dX9_putOn_11 rfl (by decide) h (fun y1 h => ?_)
  refine go_iconst (pc := 12) 1 F dX9_putOn_12 (by decide) ?_
  refine go_iadd (pc := 13) F dX9_putOn_13 ?_
  refine go_iast (pc := 14) 136 F dX9_putOn_14 rfl (by decide) h (fun V2 h => ?_)
  refine go_aloadn (pc := 15) F dX9_putOn_15 0 rfl ?_
  refine gf_X9_7 (pc := 16) F dX9_putOn_16 rfl ?_
  refine go_bipush (pc := 19) 38 F dX9_putOn_19 (by decide) ?_
  refine go_iconst (pc := 21) 5 F dX9_putOn_21 (by decide) ?_
  refine go_iloadn (pc := 22) F dX9_putOn_22 1 rfl ?_
  refine go_imul (pc := 23) F dX9_putOn_23 ?_
  refine go_iadd (pc := 24) F dX9_putOn_24 ?_
  refine go_aloadn (pc := 25) F dX9_putOn_25 0 rfl ?_
  refine go_iloadn (pc := 26) F dX9_putOn_26 1 rfl ?_
  obtain ⟨y3, hy3, h⟩ := ob_ h
  refine cv_X9_37 (pc := 27) F dX9_putOn_27 rfl (ct_X9_many (enL E) G V2 x1 y3 hy3) (by decide) (by decide) (Nat.le_of_ble_eq_true rfl) ?_
  refine go_iadd (pc := 30) F dX9_putOn_30 ?_
  refine go_iloadn (pc := 31) F dX9_putOn_31 2 rfl ?_
  refine go_iast (pc := 32) 136 F dX9_putOn_32 rfl (by decide) h (fun V4 h => ?_)
  exact go_vretW (pc := 33) F dX9_putOn_33 h
set_option maxRecDepth 100000 in
set_option maxHeartbeats 4000000 in
theorem lb_X9_bend_37 {E : En} {G : Gm} (F : Fx E G (AG G) RX9 cX9_bend 3 (some .int) 3 62 0 0) {x1 : Int32} {x2 : Int32} {z : Int32 × Wd} (V : Wd) (h : f_X9_bend_37 x1 x2 V = some z) : Go E G (AG G) 0 0 (MQq E G (some (.int z.1)) z.2) 3 V 37 [(0, .ref (AD G 112)), (1, .int x1), (2, .int x2)] [] := by
  unfold f_X9_bend_37 at h
  refine go_aloadn (pc := 37) F dX9_bend_37 0 rfl ?_
  refine go_iloadn (pc := 38) F dX9_bend_38 1 rfl ?_
  obtain ⟨y6, hy6, h⟩ := ob_ h
  refine cv_X9_37 (pc := 39) F dX9_bend_39 rfl (ct_X9_many (enL E) G V x1 y6 hy6) (by decide) (by decide) (Nat.le_of_ble_eq_true rfl) ?_
  refine go_iconst (pc := 42) 4 F dX9_bend_42 (by decide) ?_
  refine go_icmp_eq (pc := 43) 60 F dX9_bend_43 (by decide) h (fun c13 h => ?_) (fun c13 h => ?_)
  · refine go_bipush (pc := 60) (-4) F dX9_bend_60 (by decide) ?_
    exact go_iretW (pc := 62) F dX9_bend_62 h
  · refine go_aloadn (pc := 46) F dX9_bend_46 0 rfl ?_
    refine go_iloadn (pc := 47) F dX9_bend_47 2 rfl ?_
    obtain ⟨y7, hy7, h⟩ := ob_ h
    refine cv_X9_63 (pc := 48) F dX9_bend_48 rfl (ct_X9_used (enL E) G V x2 y7 hy7) (by decide) (by decide) (Nat.le_of_ble_eq_true rfl) ?_
    refine go_aloadn (pc := 51) F dX9_bend_51 0 rfl ?_
    refine gf_X9_7 (pc := 52) F dX9_bend_52 rfl ?_
    refine go_iconst (pc := 55) 0 F dX9_bend_55 (by decide) ?_
    refine go_iald (pc := 56) 136 F dX9_bend_56 rfl (by decide) h (fun y8 h => ?_)
    refine go_icmp_ne (pc := 57) 63 F dX9_bend_57 (by decide) h (fun c12 h => ?_) (fun c12 h => ?_)
    · refine go_aloadn (pc := 63) F dX9_bend_63 0 rfl ?_
      obtain ⟨V9, hV9, h⟩ := ob_ h
      refine cv_X9_57 (pc := 64) F dX9_bend_64 rfl (ct_X9_recordAndDown (enL E) G V V9 hV9) (by decide) (by decide) (Nat.le_of_ble_eq_true rfl) ?_
      refine go_aloadn (pc := 67) F dX9_bend_67 0 rfl ?_
      refine go_iloadn (pc := 68) F dX9_bend_68 1 rfl ?_
      refine go_iloadn (pc := 69) F dX9_bend_69 2 rfl ?_
      obtain ⟨V10, hV10, h⟩ := ob_ h
      refine cv_X9_81 (pc := 70) F dX9_bend_70 rfl (ct_X9_putOn (enL E) G V9 x1 x2 V10 hV10) (by decide) (by decide) (Nat.le_of_ble_eq_true rfl) ?_
      refine go_aloadn (pc := 73) F dX9_bend_73 0 rfl ?_
      refine go_iloadn (pc := 74) F dX9_bend_74 1 rfl ?_
      obtain ⟨y11, hy11, h⟩ := ob_ h
      refine cv_X9_37 (pc := 75) F dX9_bend_75 rfl (ct_X9_many (enL E) G V10 x1 y11 hy11) (by decide) (by decide) (Nat.le_of_ble_eq_true rfl) ?_
      exact go_iretW (pc := 78) F dX9_bend_78 h
    · refine go_bipush (pc := 60) (-4) F dX9_bend_60 (by decide) ?_
      exact go_iretW (pc := 62) F dX9_bend_62 h
set_option maxRecDepth 100000 in
set_option maxHeartbeats 4000000 in
theorem ct_X9_bend (l : Launch) (G : Gm) (V : Wd) (x1 : Int32) (x2 : Int32) (z : Int32 × Wd) (h : f_X9_bend V x1 x2 = some z) : Ct l G yX9_bend cX9_bend 3 (some .int) 3 62 [.ref (AD G 112), .int x1, .int x2] V (some (.int z.1)) z.2 := by
  refine Ct.of (own := RX9) (by decide +kernel) rfl (Nat.le_of_ble_eq_true rfl) (fun E F he => ?_)
  clear he
  refine go_sub (lv' := [(0, .ref (AD G 112)), (1, .int x1), (2, .int x2)]) [0, 1, 2] rfl ?_
  unfold f_X9_bend at h
  refine go_iloadn (pc := 0) F dX9_bend_0 1 rfl ?_
  refine cv_X9_75 (pc := 1) F dX9_bend_1 (ct_X9_isHalyard (enL E) G V x1) (by decide) (by decide) (Nat.le_of_ble_eq_true rfl) ?_
  refine go_if_eq (pc := 4) 14 F dX9_bend_4 (by decide) h (fun c5 h => ?_) (fun c5 h => ?_)
  · refine go_iconst (pc := 14) (-1) F dX9_bend_14 (by decide) ?_
    exact go_iretW (pc := 15) F dX9_bend_15 h
  · refine go_iloadn (pc := 7) F dX9_bend_7 2 rfl ?_
    refine cv_X9_78 (pc := 8) F dX9_bend_8 (ct_X9_isSign (enL E) G V x2) (by decide) (by decide) (Nat.le_of_ble_eq_true rfl) ?_
    refine go_if_ne (pc := 11) 16 F dX9_bend_11 (by decide) h (fun c4 h => ?_) (fun c4 h => ?_)
    · refine go_iloadn (pc := 16) F dX9_bend_16 2 rfl ?_
      refine go_bipush (pc := 17) 10 F dX9_bend_17 (by decide) ?_
      refine go_icmp_le (pc := 19) 37 F dX9_bend_19 (by decide) h (fun c3 h => ?_) (fun c3 h => ?_)
      · exact go_sub [0, 1, 2] rfl (lb_X9_bend_37 F V h)
      · refine go_iloadn (pc := 22) F dX9_bend_22 2 rfl ?_
        refine go_bipush (pc := 23) 10 F dX9_bend_23 (by decide) ?_
        refine go_isub (pc := 25) F dX9_bend_25 ?_
        refine go_aloadn (pc := 26) F dX9_bend_26 0 rfl ?_
        refine go_iloadn (pc := 27) F dX9_bend_27 1 rfl ?_
        obtain ⟨y1, hy1, h⟩ := ob_ h
        refine cv_X9_37 (pc := 28) F dX9_bend_28 rfl (ct_X9_many (enL E) G V x1 y1 hy1) (by decide) (by decide) (Nat.le_of_ble_eq_true rfl) ?_
        refine go_icmp_le (pc := 31) 37 F dX9_bend_31 (by decide) h (fun c2 h => ?_) (fun c2 h => ?_)
        · exact go_sub [0, 1, 2] rfl (lb_X9_bend_37 F V h)
        · refine go_bipush (pc := 34) (-3) F dX9_bend_34 (by decide) ?_
          exact go_iretW (pc := 36) F dX9_bend_36 h
    · refine go_iconst (pc := 14) (-1) F dX9_bend_14 (by decide) ?_
      exact go_iretW (pc := 15) F dX9_bend_15 h

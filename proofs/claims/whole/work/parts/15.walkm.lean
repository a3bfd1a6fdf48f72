set_option maxRecDepth 100000 in
set_option maxHeartbeats 4000000 in
theorem lb_X9_bestEntry_50 {E : En} {G : Gm} (F : Fx E G (AG G) RX9 cX9_bestEntry 5 (some .int) 4 93 0 0) {V : Wd} {x1 : Int32} {K18 : Int32 → Int32 → Option (Int32)} {z : Int32} (hK18 : ∀ (a2 : Int32) (a3 : Int32), K18 a2 a3 = some z → Go E G (AG G) 0 0 (MQq E G (some (.int z)) V) 5 V 18 [(0, .ref (AD G 112)), (1, .int x1), (2, .int a2), (3, .int a3)] []) (x2 : Int32) (x3 : Int32) (s0 : Int32) (h : f_X9_bestEntry_50 V x1 K18 x2 x3 s0 = some z) : Go E G (AG G) 0 0 (MQq E G (some (.int z)) V) 5 V 50 [(0, .ref (AD G 112)), (1, .int x1), (2, .int x2), (3, .int x3)] [.int s0] := by
  unfold f_X9_bestEntry_50 at h
  refine go_istore (pc := 50) (lv' := [(4, .int s0), (0, .ref (AD G 112)), (1, .int x1), (2, .int x2), (3, .int x3)]) F dX9_bestEntry_50 (by decide) rfl ?_
  refine go_iload (pc := 52) F dX9_bestEntry_52 0 rfl ?_
  refine go_if_eq (pc := 54) 86 F dX9_bestEntry_54 (by decide) h (fun c12 h => ?_) (fun c12 h => ?_)
  · refine go_iloadn (pc := 86) F dX9_bestEntry_86 3 rfl ?_
    refine go_istoren (pc := 87) (lv' := [(2, .int x2), (4, .int s0), (0, .ref (AD G 112)), (1, .int x1), (3, .int x3)]) F dX9_bestEntry_87 (by decide) rfl ?_
    refine go_iinc (pc := 88) (x3 + 1) (lv' := [(3, .int (x3 + 1)), (2, .int x2), (4, .int s0), (0, .ref (AD G 112)), (1, .int x1)]) F dX9_bestEntry_88 (k := 4) rfl rfl (by decide) rfl ?_
    refine go_goto (pc := 91) 18 F dX9_bestEntry_91 (by decide) ?_
    exact go_sub [3, 4, 1, 0] rfl (hK18 x2 (x3 + 1) h)
  · refine go_iloadn (pc := 57) F dX9_bestEntry_57 3 rfl ?_
    refine go_bipush (pc := 58) (-6) F dX9_bestEntry_58 (by decide) ?_
    refine go_icmp_eq (pc := 60) 82 F dX9_bestEntry_60 (by decide) h (fun c11 h => ?_) (fun c11 h => ?_)
    · refine go_iloadn (pc := 82) F dX9_bestEntry_82 4 rfl ?_
      refine go_goto (pc := 83) 87 F dX9_bestEntry_83 (by decide) ?_
      refine go_istoren (pc := 87) (lv' := [(2, .int x3), (4, .int s0), (0, .ref (AD G 112)), (1, .int x1), (3, .int x3)]) F dX9_bestEntry_87 (by decide) rfl ?_
      refine go_iinc (pc := 88) (x3 + 1) (lv' := [(3, .int (x3 + 1)), (2, .int x3), (4, .int s0), (0, .ref (AD G 112)), (1, .int x1)]) F dX9_bestEntry_88 (k := 4) rfl rfl (by decide) rfl ?_
      refine go_goto (pc := 91) 18 F dX9_bestEntry_91 (by decide) ?_
      exact go_sub [3, 4, 1, 0] rfl (hK18 x3 (x3 + 1) h)
    · refine go_aloadn (pc := 63) F dX9_bestEntry_63 1 rfl ?_
      refine go_iloadn (pc := 64) F dX9_bestEntry_64 4 rfl ?_
      obtain ⟨y8, hy8, h⟩ := ob_ h
      refine cv_X9_119 (pc := 65) F dX9_bestEntry_65 rfl (ct_X9_codeOf (enL E) G V x3 y8 hy8) (by decide) (by decide) (Nat.le_of_ble_eq_true rfl) ?_
      refine cv_X9_137 (pc := 68) F dX9_bestEntry_68 (ct_X9_lengthOf (enL E) G V y8) (by decide) (by decide) (Nat.le_of_ble_eq_true rfl) ?_
      refine go_aloadn (pc := 71) F dX9_bestEntry_71 1 rfl ?_
      refine go_iloadn (pc := 72) F dX9_bestEntry_72 3 rfl ?_
      obtain ⟨y9, hy9, h⟩ := ob_ h
      refine cv_X9_119 (pc := 73) F dX9_bestEntry_73 rfl (ct_X9_codeOf (enL E) G V x2 y9 hy9) (by decide) (by decide) (Nat.le_of_ble_eq_true rfl) ?_
      refine cv_X9_137 (pc := 76) F dX9_bestEntry_76 (ct_X9_lengthOf (enL E) G V y9) (by decide) (by decide) (Nat.le_of_ble_eq_true rfl) ?_
      refine go_icmp_ge (pc := 79) 86 F dX9_bestEntry_79 (by decide) h (fun c10 h => ?_) (fun c10 h => ?_)
      · refine go_iloadn (pc := 86) F dX9_bestEntry_86 3 rfl ?_
        refine go_istoren (pc := 87) (lv' := [(2, .int x2), (4, .int s0), (0, .ref (AD G 112)), (1, .int x1), (3, .int x3)]) F dX9_bestEntry_87 (by decide) rfl ?_
        refine go_iinc (pc := 88) (x3 + 1) (lv' := [(3, .int (x3 + 1)), (2, .int x2), (4, .int s0), (0, .ref (AD G 112)), (1, .int x1)]) F dX9_bestEntry_88 (k := 4) rfl rfl (by decide) rfl ?_
        refine go_goto (pc := 91) 18 F dX9_bestEntry_91 (by decide) ?_
        exact go_sub [3, 4, 1, 0] rfl (hK18 x2 (x3 + 1) h)
      · refine go_iloadn (pc := 82) F dX9_bestEntry_82 4 rfl ?_
        refine go_goto (pc := 83) 87 F dX9_bestEntry_83 (by decide) ?_
        refine go_istoren (pc := 87) (lv' := [(2, .int x3), (4, .int s0), (0, .ref (AD G 112)), (1, .int x1), (3, .int x3)]) F dX9_bestEntry_87 (by decide) rfl ?_
        refine go_iinc (pc := 88) (x3 + 1) (lv' := [(3, .int (x3 + 1)), (2, .int x3), (4, .int s0), (0, .ref (AD G 112)), (1, .int x1)]) F dX9_bestEntry_88 (k := 4) rfl rfl (by decide) rfl ?_
        refine go_goto (pc := 91) 18 F dX9_bestEntry_91 (by decide) ?_
        exact go_sub [3, 4, 1, 0] rfl (hK18 x3 (x3 + 1) h)
set_option maxRecDepth 100000 in
set_option maxHeartbeats 4000000 in
theorem lb_X9_bestEntry_49 {E : En} {G : Gm} (F : Fx E G (AG G) RX9 cX9_bestEntry 5 (some .int) 4 93 0 0) {V : Wd} {x1 : Int32} {K18 : Int32 → Int32 → Option (Int32)} {z : Int32} (hK18 : ∀ (a2 : Int32) (a3 : Int32), K18 a2 a3 = some z → Go E G (AG G) 0 0 (MQq E G (some (.int z)) V) 5 V 18 [(0, .ref (AD G 112)), (1, .int x1), (2, .int a2), (3, .int a3)] []) (x2 : Int32) (x3 : Int32) (h : f_X9_bestEntry_49 V x1 K18 x2 x3 = some z) : Go E G (AG G) 0 0 (MQq E G (some (.int z)) V) 5 V 49 [(0, .ref (AD G 112)), (1, .int x1), (2, .int x2), (3, .int x3)] [] := by
  unfold f_X9_bestEntry_49 at h
  refine go_iconst (pc := 49) 0 F dX9_bestEntry_49 (by decide) ?_
  exact go_sub [0, 1, 2, 3] rfl (lb_X9_bestEntry_50 F hK18 x2 x3 0 h)
set_option maxRecDepth 100000 in
set_option maxHeartbeats 4000000 in
theorem lb_X9_bestEntry_18 {E : En} {G : Gm} (F : Fx E G (AG G) RX9 cX9_bestEntry 5 (some .int) 4 93 0 0) {V : Wd} {x1 : Int32} {z : Int32} : ∀ (n : Nat) (x2 : Int32) (x3 : Int32), f_X9_bestEntry_18 V x1 n x2 x3 = some z → Go E G (AG G) 0 0 (MQq E G (some (.int z)) V) 5 V 18 [(0, .ref (AD G 112)), (1, .int x1), (2, .int x2), (3, .int x3)] [] := by
  intro n
  induction n with
  | zero => intro x2 x3 h; cases h
  | succ n ih =>
    intro x2 x3 h
    rw [f_X9_bestEntry_18] at h
    refine go_iloadn (pc := 18) F dX9_bestEntry_18 3 rfl ?_
    refine go_aloadn (pc := 19) F dX9_bestEntry_19 0 rfl ?_
    refine gf_X9_7 (pc := 20) F dX9_bestEntry_20 rfl ?_
    refine go_iconst (pc := 23) 5 F dX9_bestEntry_23 (by decide) ?_
    refine go_iald (pc := 24) 136 F dX9_bestEntry_24 rfl (by decide) h (fun y2 h => ?_)
    refine go_icmp_ge (pc := 25) 94 F dX9_bestEntry_25 (by decide) h (fun c7 h => ?_) (fun c7 h => ?_)
    · refine go_iloadn (pc := 94) F dX9_bestEntry_94 2 rfl ?_
      exact go_iretR (pc := 95) F dX9_bestEntry_95 h
    · refine go_aloadn (pc := 28) F dX9_bestEntry_28 0 rfl ?_
      refine go_iloadn (pc := 29) F dX9_bestEntry_29 3 rfl ?_
      obtain ⟨y3, hy3, h⟩ := ob_ h
      refine cv_X9_116 (pc := 30) F dX9_bestEntry_30 rfl (ct_X9_wordOf (enL E) G V x3 y3 hy3) (by decide) (by decide) (Nat.le_of_ble_eq_true rfl) ?_
      refine go_iloadn (pc := 33) F dX9_bestEntry_33 1 rfl ?_
      refine go_icmp_ne (pc := 34) 49 F dX9_bestEntry_34 (by decide) h (fun c6 h => ?_) (fun c6 h => ?_)
      · exact go_sub [0, 1, 2, 3] rfl (lb_X9_bestEntry_49 F (fun a2 a3 h => ih a2 a3 h) x2 x3 h)
      · refine go_aloadn (pc := 37) F dX9_bestEntry_37 0 rfl ?_
        refine go_iloadn (pc := 38) F dX9_bestEntry_38 3 rfl ?_
        obtain ⟨y4, hy4, h⟩ := ob_ h
        refine cv_X9_140 (pc := 39) F dX9_bestEntry_39 rfl (ct_X9_isKnownAs (enL E) G V x3 y4 hy4) (by decide) (by decide) (Nat.le_of_ble_eq_true rfl) ?_
        refine go_if_eq (pc := 42) 49 F dX9_bestEntry_42 (by decide) h (fun c5 h => ?_) (fun c5 h => ?_)
        · exact go_sub [0, 1, 2, 3] rfl (lb_X9_bestEntry_49 F (fun a2 a3 h => ih a2 a3 h) x2 x3 h)
        · refine go_iconst (pc := 45) 1 F dX9_bestEntry_45 (by decide) ?_
          refine go_goto (pc := 46) 50 F dX9_bestEntry_46 (by decide) ?_
          exact go_sub [0, 1, 2, 3] rfl (lb_X9_bestEntry_50 F (fun a2 a3 h => ih a2 a3 h) x2 x3 1 h)
set_option maxRecDepth 100000 in
set_option maxHeartbeats 4000000 in
theorem ct_X9_bestEntry (l : Launch) (G : Gm) (V : Wd) (x1 : Int32) (z : Int32) (h : f_X9_bestEntry V x1 = some z) : Ct l G yX9_bestEntry cX9_bestEntry 5 (some .int) 4 93 [.ref (AD G 112), .int x1] V (some (.int z)) V := by
  refine Ct.of (own := RX9) (by decide +kernel) rfl (Nat.le_of_ble_eq_true rfl) (fun E F he => ?_)
  clear he
  refine go_sub (lv' := [(0, .ref (AD G 112)), (1, .int x1)]) [0, 1] rfl ?_
  unfold f_X9_bestEntry at h
  refine go_iloadn (pc := 0) F dX9_bestEntry_0 1 rfl ?_
  refine go_iconst (pc := 1) 0 F dX9_bestEntry_1 (by decide) ?_
  refine go_bipush (pc := 2) 99 F dX9_bestEntry_2 (by decide) ?_
  refine cv_X9_26 (pc := 4) F dX9_bestEntry_4 (ct_X9_in (enL E) G V x1 0 99) (by decide) (by decide) (Nat.le_of_ble_eq_true rfl) ?_
  refine go_if_ne (pc := 7) 13 F dX9_bestEntry_7 (by decide) h (fun c1 h => ?_) (fun c1 h => ?_)
  · refine go_bipush (pc := 13) (-6) F dX9_bestEntry_13 (by decide) ?_
    refine go_istoren (pc := 15) (lv' := [(2, .int (-6)), (0, .ref (AD G 112)), (1, .int x1)]) F dX9_bestEntry_15 (by decide) rfl ?_
    refine go_iconst (pc := 16) 0 F dX9_bestEntry_16 (by decide) ?_
    refine go_istoren (pc := 17) (lv' := [(3, .int 0), (2, .int (-6)), (0, .ref (AD G 112)), (1, .int x1)]) F dX9_bestEntry_17 (by decide) rfl ?_
    exact go_sub [2, 3, 1, 0] rfl (lb_X9_bestEntry_18 F FU_ (-6) 0 h)
  · refine go_bipush (pc := 10) (-2) F dX9_bestEntry_10 (by decide) ?_
    exact go_iretR (pc := 12) F dX9_bestEntry_12 h
set_option maxRecDepth 100000 in
set_option maxHeartbeats 4000000 in
theorem ct_X9_append (l : Launch) (G : Gm) (V : Wd) (x1 : Int32) (z : Int32 × Wd) (h : f_X9_append V x1 = some z) : Ct l G yX9_append cX9_append 2 (some .int) 1 22 [.ref (AD G 112), .int x1] V (some (.int z.1)) z.2 := by
  refine Ct.of (own := RX9) (by decide +kernel) rfl (Nat.le_of_ble_eq_true rfl) (fun E F he => ?_)
  clear he
  refine go_sub (lv' := [(0, .ref (AD G 112)), (1, .int x1)]) [0, 1] rfl ?_
  unfold f_X9_append at h
  refine go_iloadn (pc := 0) F dX9_append_0 1 rfl ?_
  refine go_bipush (pc := 1) 33 F dX9_append_1 (by decide) ?_
  refine go_bipush (pc := 3) 126 F dX9_append_3 (by decide) ?_
  refine cv_X9_26 (pc := 5) F dX9_append_5 (ct_X9_in (enL E) G V x1 33 126) (by decide) (by decide) (Nat.le_of_ble_eq_true rfl) ?_
  refine go_if_ne (pc := 8) 14 F dX9_append_8 (by decide) h (fun c4 h => ?_) (fun c4 h => ?_)
  · refine go_aloadn (pc := 14) F dX9_append_14 0 rfl ?_
    refine gf_X9_143 (pc := 15) F dX9_append_15 rfl ?_
    refine go_bipush (pc := 18) 50 F dX9_append_18 (by decide) ?_
    refine go_icmp_ne (pc := 20) 26 F dX9_append_20 (by decide) h (fun c3 h => ?_) (fun c3 h => ?_)
    · refine go_aloadn (pc := 26) F dX9_append_26 0 rfl ?_
      refine gf_X9_19 (pc := 27) F dX9_append_27 rfl ?_
      refine go_aloadn (pc := 30) F dX9_append_30 0 rfl ?_
      refine gf_X9_143 (pc := 31) F dX9_append_31 rfl ?_
      refine go_iloadn (pc := 34) F dX9_append_34 1 rfl ?_
      refine go_i2c (pc := 35) F dX9_append_35 ?_
      refine go_cast (pc := 36) F dX9_append_36 rfl h (fun V1 h => ?_)
      refine go_aloadn (pc := 37) F dX9_append_37 0 rfl ?_
      refine go_dup (pc := 38) F dX9_append_38 rfl ?_
      refine gf_X9_143 (pc := 39) F dX9_append_39 rfl ?_
      refine go_iconst (pc := 42) 1 F dX9_append_42 (by decide) ?_
      refine go_iadd (pc := 43) F dX9_append_43 ?_
      refine pf_X9_143 (pc := 44) F dX9_append_44 rfl h (fun V2 h => ?_)
      refine go_aloadn (pc := 47) F dX9_append_47 0 rfl ?_
      refine gf_X9_143 (pc := 48) F dX9_append_48 rfl ?_
      exact go_iretW (pc := 51) F dX9_append_51 h
    · refine go_bipush (pc := 23) (-4) F dX9_append_23 (by decide) ?_
      exact go_iretW (pc := 25) F dX9_append_25 h
  · refine go_bipush (pc := 11) (-2) F dX9_append_11 (by decide) ?_
    exact go_iretW (pc := 13) F dX9_append_13 h
set_option maxRecDepth 100000 in
set_option maxHeartbeats 4000000 in
theorem ct_X9_clearText (l : Launch) (G : Gm) (V : Wd) (z : Int32 × Wd) (h : f_X9_clearText V = some z) : Ct l G yX9_clearText cX9_clearText 2 (some .int) 0 0 [.ref (AD G 112)] V (some (.int z.1)) z.2 := by
  refine Ct.of (own := RX9) (by decide +kernel) rfl (Nat.le_of_ble_eq_true rfl) (fun E F he => ?_)
  clear he
  refine go_sub (lv' := [(0, .ref (AD G 112))]) [0] rfl ?_
  unfold f_X9_clearText at h
  refine go_aloadn (pc := 0) F dX9_clearText_0 0 rfl ?_
  refine gf_X9_143 (pc := 1) F dX9_clearText_1 rfl ?_
  refine go_topi h (fun y1 h => ?_)
  refine go_istoren (pc := 4) (lv' := [(1, .int y1), (0, .ref (AD G 112))]) F dX9_clearText_4 (by decide) rfl ?_
  refine go_aloadn (pc := 5) F dX9_clearText_5 1 rfl ?_
  refine go_iconst (pc := 6) 0 F dX9_clearText_6 (by decide) ?_
  refine pf_X9_143 (pc := 7) F dX9_clearText_7 rfl h (fun V2 h => ?_)
  refine go_iloadn (pc := 10) F dX9_clearText_10 0 rfl ?_
  exact go_iretW (pc := 11) F dX9_clearText_11 h
set_option maxRecDepth 100000 in
set_option maxHeartbeats 4000000 in
theorem ct_X9_letter (l : Launch) (G : Gm) (V : Wd) (z : Int32) (h : f_X9_letter V = some z) : Ct l G yX9_letter cX9_letter 1 (some .int) 0 0 [.ref (AD G 112)] V (some (.int z)) V := by
  refine Ct.of (own := RX9) (by decide +kernel) rfl (Nat.le_of_ble_eq_true rfl) (fun E F he => ?_)
  clear he
  refine go_sub (lv' := [(0, .ref (AD G 112))]) [0] rfl ?_
  unfold f_X9_letter at h
  refine go_aloadn (pc := 0) F dX9_letter_0 0 rfl ?_
  refine gf_X9_146 (pc := 1) F dX9_letter_1 rfl ?_
  refine go_aloadn (pc := 4) F dX9_letter_4 0 rfl ?_
  refine gf_X9_143 (pc := 5) F dX9_letter_5 rfl ?_
  refine go_icmp_ge (pc := 8) 23 F dX9_letter_8 (by decide) h (fun c2 h => ?_) (fun c2 h => ?_)
  · refine go_bipush (pc := 23) (-6) F dX9_letter_23 (by decide) ?_
    exact go_iretR (pc := 25) F dX9_letter_25 h
  · refine go_aloadn (pc := 11) F dX9_letter_11 0 rfl ?_
    refine gf_X9_19 (pc := 12) F dX9_letter_12 rfl ?_
    refine go_aloadn (pc := 15) F dX9_letter_15 0 rfl ?_
    refine gf_X9_146 (pc := 16) F dX9_letter_16 rfl ?_
    refine go_cald (pc := 19) F dX9_letter_19 rfl h (fun y1 h => ?_)
    refine go_goto (pc := 20) 25 F dX9_letter_20 (by decide) ?_
    exact go_iretR (pc := 25) F dX9_letter_25 h
set_option maxRecDepth 100000 in
set_option maxHeartbeats 4000000 in
theorem ct_X9_wants (l : Launch) (G : Gm) (V : Wd) (x1 : Int32) (z : Wd) (h : f_X9_wants V x1 = some z) : Ct l G yX9_wants cX9_wants 2 none 0 0 [.ref (AD G 112), .int x1] V none z := by
  refine Ct.of (own := RX9) (by decide +kernel) rfl (Nat.le_of_ble_eq_true rfl) (fun E F he => ?_)
  clear he
  refine go_sub (lv' := [(0, .ref (AD G 112)), (1, .int x1)]) [0, 1] rfl ?_
  unfold f_X9_wants at h
  refine go_aloadn (pc := 0) F dX9_wants_0 0 rfl ?_
  refine gf_X9_149 (pc := 1) F dX9_wants_1 rfl ?_
  refine go_bipush (pc := 4) (-6) F dX9_wants_4 (by decide) ?_
  refine go_icmp_ne (pc := 6) 36 F dX9_wants_6 (by decide) h (fun c6 h => ?_) (fun c6 h => ?_)
  · exact go_vretW (pc := 36) F dX9_wants_36 h
  · refine go_aloadn (pc := 9) F dX9_wants_9 0 rfl ?_
    refine go_iloadn (pc := 10) F dX9_wants_10 1 rfl ?_
    refine go_if_eq (pc := 11) 19 F dX9_wants_11 (by decide) h (fun c5 h => ?_) (fun c5 h => ?_)
    · refine go_aloadn (pc := 19) F dX9_wants_19 0 rfl ?_
      refine gf_X9_146 (pc := 20) F dX9_wants_20 rfl ?_
      refine pf_X9_149 (pc := 23) F dX9_wants_23 rfl h (fun V1 h => ?_)
      refine go_aloadn (pc := 26) F dX9_wants_26 0 rfl ?_
      refine go_dup (pc := 27) F dX9_wants_27 rfl ?_
      refine gf_X9_146 (pc := 28) F dX9_wants_28 rfl ?_
      refine go_iconst (pc := 31) 1 F dX9_wants_31 (by decide) ?_
      refine go_iadd (pc := 32) F dX9_wants_32 ?_
      refine pf_X9_146 (pc := 33) F dX9_wants_33 rfl h (fun V2 h => ?_)
      exact go_vretW (pc := 36) F dX9_wants_36 h
    · refine go_bipush (pc := 14) (-6) F dX9_wants_14 (by decide) ?_
      refine go_goto (pc := 16) 23 F dX9_wants_16 (by decide) ?_
      refine pf_X9_149 (pc := 23) F dX9_wants_23 rfl h (fun V3 h => ?_)
      refine go_aloadn (pc := 26) F dX9_wants_26 0 rfl ?_
      refine go_dup (pc := 27) F dX9_wants_27 rfl ?_
      refine gf_X9_146 (pc := 28) F dX9_wants_28 rfl ?_
      refine go_iconst (pc := 31) 1 F dX9_wants_31 (by decide) ?_
      refine go_iadd (pc := 32) F dX9_wants_32 ?_
      refine pf_X9_146 (pc := 33) F dX9_wants_33 rfl h (fun V4 h => ?_)
      exact go_vretW (pc := 36) F dX9_wants_36 h
set_option maxRecDepth 100000 in
set_option maxHeartbeats 4000000 in
theorem ct_X9_figure (l : Launch) (G : Gm) (V : Wd) (x1 : Int32) (x2 : Int32) (z : Int32 × Wd) (h : f_X9_figure V x1 x2 = some z) : Ct l G yX9_figure cX9_figure 4 (some .int) 1 22 [.ref (AD G 112), .int x1, .int x2] V (some (.int z.1)) z.2 := by
  refine Ct.of (own := RX9) (by decide +kernel) rfl (Nat.le_of_ble_eq_true rfl) (fun E F he => ?_)
  clear he
  refine go_sub (lv' := [(0, .ref (AD G 112)), (1, .int x1), (2, .int x2)]) [0, 1, 2] rfl ?_
  unfold f_X9_figure at h
  refine go_aloadn (pc := 0) F dX9_figure_0 0 rfl ?_
  obtain ⟨y1, hy1, h⟩ := ob_ h
  refine cv_X9_152 (pc := 1) F dX9_figure_1 rfl (ct_X9_letter (enL E) G V y1 hy1) (by decide) (by decide) (Nat.le_of_ble_eq_true rfl) ?_
  refine go_bipush (pc := 4) 48 F dX9_figure_4 (by decide) ?_
  refine go_isub (pc := 6) F dX9_figure_6 ?_
  refine go_topi h (fun y2 h => ?_)
  refine go_istoren (pc := 7) (lv' := [(3, .int y2), (0, .ref (AD G 112)), (1, .int x1), (2, .int x2)]) F dX9_figure_7 (by decide) rfl ?_
  refine go_aloadn (pc := 8) F dX9_figure_8 1 rfl ?_
  refine go_iloadn (pc := 9) F dX9_figure_9 0 rfl ?_
  refine go_iloadn (pc := 10) F dX9_figure_10 2 rfl ?_
  refine go_iloadn (pc := 11) F dX9_figure_11 3 rfl ?_
  refine cv_X9_26 (pc := 12) F dX9_figure_12 (ct_X9_in (enL E) G V y2 x1 x2) (by decide) (by decide) (Nat.le_of_ble_eq_true rfl) ?_
  obtain ⟨V3, hV3, h⟩ := ob_ h
  refine cv_X9_155 (pc := 15) F dX9_figure_15 rfl (ct_X9_wants (enL E) G V (f_X9_in y2 x1 x2) V3 hV3) (by decide) (by decide) (Nat.le_of_ble_eq_true rfl) ?_
  refine go_iloadn (pc := 18) F dX9_figure_18 0 rfl ?_
  exact go_iretW (pc := 19) F dX9_figure_19 h
set_option maxRecDepth 100000 in
set_option maxHeartbeats 4000000 in
theorem ct_X9_isSignNext (l : Launch) (G : Gm) (V : Wd) (x1 : Int32) (z : Int32) (h : f_X9_isSignNext V x1 = some z) : Ct l G yX9_isSignNext cX9_isSignNext 2 (some .boolean) 1 22 [.ref (AD G 112), .int x1] V (some (.int z)) V := by
  refine Ct.of (own := RX9) (by decide +kernel) rfl (Nat.le_of_ble_eq_true rfl) (fun E F he => ?_)
  clear he
  refine go_sub (lv' := [(0, .ref (AD G 112)), (1, .int x1)]) [0, 1] rfl ?_
  unfold f_X9_isSignNext at h
  refine go_aloadn (pc := 0) F dX9_isSignNext_0 0 rfl ?_
  obtain ⟨y1, hy1, h⟩ := ob_ h
  refine cv_X9_152 (pc := 1) F dX9_isSignNext_1 rfl (ct_X9_letter (enL E) G V y1 hy1) (by decide) (by decide) (Nat.le_of_ble_eq_true rfl) ?_
  refine go_bipush (pc := 4) 48 F dX9_isSignNext_4 (by decide) ?_
  refine go_bipush (pc := 6) 57 F dX9_isSignNext_6 (by decide) ?_
  refine cv_X9_26 (pc := 8) F dX9_isSignNext_8 (ct_X9_in (enL E) G V y1 48 57) (by decide) (by decide) (Nat.le_of_ble_eq_true rfl) ?_
  refine go_if_ne (pc := 11) 27 F dX9_isSignNext_11 (by decide) h (fun c5 h => ?_) (fun c5 h => ?_)
  · refine go_iconst (pc := 27) 1 F dX9_isSignNext_27 (by decide) ?_
    refine go_goto (pc := 28) 32 F dX9_isSignNext_28 (by decide) ?_
    exact go_zretR (pc := 32) F dX9_isSignNext_32 rfl h
  · refine go_aloadn (pc := 14) F dX9_isSignNext_14 0 rfl ?_
    obtain ⟨y2, hy2, h⟩ := ob_ h
    refine cv_X9_152 (pc := 15) F dX9_isSignNext_15 rfl (ct_X9_letter (enL E) G V y2 hy2) (by decide) (by decide) (Nat.le_of_ble_eq_true rfl) ?_
    refine go_bipush (pc := 18) 114 F dX9_isSignNext_18 (by decide) ?_
    refine go_icmp_ne (pc := 20) 31 F dX9_isSignNext_20 (by decide) h (fun c4 h => ?_) (fun c4 h => ?_)
    · refine go_iconst (pc := 31) 0 F dX9_isSignNext_31 (by decide) ?_
      exact go_zretR (pc := 32) F dX9_isSignNext_32 rfl h
    · refine go_iloadn (pc := 23) F dX9_isSignNext_23 1 rfl ?_
      refine go_if_le (pc := 24) 31 F dX9_isSignNext_24 (by decide) h (fun c3 h => ?_) (fun c3 h => ?_)
      · refine go_iconst (pc := 31) 0 F dX9_isSignNext_31 (by decide) ?_
        exact go_zretR (pc := 32) F dX9_isSignNext_32 rfl h
      · refine go_iconst (pc := 27) 1 F dX9_isSignNext_27 (by decide) ?_
        refine go_goto (pc := 28) 32 F dX9_isSignNext_28 (by decide) ?_
        exact go_zretR (pc := 32) F dX9_isSignNext_32 rfl h
set_option maxRecDepth 100000 in
set_option maxHeartbeats 4000000 in
theorem lb_X9_readSign_90 {E : En} {G : Gm} (F : Fx E G (AG G) RX9 cX9_readSign 4 none 2 45 0 0) {x1 : Int32} {z : Wd} (V : Wd) (x3 : Int32) (h : f_X9_readSign_90 x1 V x3 = some z) : Go E G (AG G) 0 0 (MQq E G none z) 4 V 90 [(0, .ref (AD G 112)), (1, .int x1), (3, .int x3)] [] := by
  unfold f_X9_readSign_90 at h
  refine go_aloadn (pc := 90) F dX9_readSign_90 0 rfl ?_
  refine gf_X9_149 (pc := 91) F dX9_readSign_91 rfl ?_
  refine go_bipush (pc := 94) (-6) F dX9_readSign_94 (by decide) ?_
  refine go_icmp_ne (pc := 96) 129 F dX9_readSign_96 (by decide) h (fun c14 h => ?_) (fun c14 h => ?_)
  · exact go_vretW (pc := 129) F dX9_readSign_129 h
  · refine go_aloadn (pc := 99) F dX9_readSign_99 0 rfl ?_
    refine gf_X9_23 (pc := 100) F dX9_readSign_100 rfl ?_
    refine go_iconst (pc := 103) 5 F dX9_readSign_103 (by decide) ?_
    refine go_iloadn (pc := 104) F dX9_readSign_104 1 rfl ?_
    refine go_imul (pc := 105) F dX9_readSign_105 ?_
    refine go_dup2 (pc := 106) F dX9_readSign_106 rfl rfl ?_
    refine go_iald (pc := 107) 25 F dX9_readSign_107 rfl (by decide) h (fun y10 h => ?_)
    refine go_iconst (pc := 108) 1 F dX9_readSign_108 (by decide) ?_
    refine go_iadd (pc := 109) F dX9_readSign_109 ?_
    refine go_iast (pc := 110) 25 F dX9_readSign_110 rfl (by decide) h (fun V11 h => ?_)
    refine go_aloadn (pc := 111) F dX9_readSign_111 0 rfl ?_
    refine gf_X9_23 (pc := 112) F dX9_readSign_112 rfl ?_
    refine go_iconst (pc := 115) 5 F dX9_readSign_115 (by decide) ?_
    refine go_iloadn (pc := 116) F dX9_readSign_116 1 rfl ?_
    refine go_imul (pc := 117) F dX9_readSign_117 ?_
    refine go_aloadn (pc := 118) F dX9_readSign_118 0 rfl ?_
    refine gf_X9_23 (pc := 119) F dX9_readSign_119 rfl ?_
    refine go_iconst (pc := 122) 5 F dX9_readSign_122 (by decide) ?_
    refine go_iloadn (pc := 123) F dX9_readSign_123 1 rfl ?_
    refine go_imul (pc := 124) F dX9_readSign_124 ?_
    refine go_iald (pc := 125) 25 F dX9_readSign_125 rfl (by decide) h (fun y12 h => ?_)
    refine go_iadd (pc := 126) F dX9_readSign_126 ?_
    refine go_iloadn (pc := 127) F dX9_readSign_127 2 rfl ?_
    refine go_iast (pc := 128) 25 F dX9_readSign_128 rfl (by decide) h (fun V13 h => ?_)
    exact go_vretW (pc := 129) F dX9_readSign_129 h
set_option maxRecDepth 100000 in
set_option maxHeartbeats 4000000 in
theorem lb_X9_readSign_85 {E : En} {G : Gm} (F : Fx E G (AG G) RX9 cX9_readSign 4 none 2 45 0 0) {x1 : Int32} {z : Wd} (V : Wd) (s0 : Int32) (s1 : Int32) (s3 : Int32) (h : f_X9_readSign_85 x1 V s0 s1 s3 = some z) : Go E G (AG G) 0 0 (MQq E G none z) 4 V 85 [(0, .ref (AD G 112)), (1, .int x1)] [.int s0, .int s1, .ref (AD G 112), .int s3] := by
  unfold f_X9_readSign_85 at h
  obtain ⟨q15, hq15, h⟩ := ob_ h
  refine cv_X9_162 (pc := 85) F dX9_readSign_85 rfl (ct_X9_figure (enL E) G V s1 s0 q15 hq15) (by decide) (by decide) (Nat.le_of_ble_eq_true rfl) ?_
  refine go_iadd (pc := 88) F dX9_readSign_88 ?_
  refine go_topi h (fun y16 h => ?_)
  refine go_istoren (pc := 89) (lv' := [(3, .int y16), (0, .ref (AD G 112)), (1, .int x1)]) F dX9_readSign_89 (by decide) rfl ?_
  exact go_sub [1, 2, 0] rfl (lb_X9_readSign_90 F q15.2 y16 h)
set_option maxRecDepth 100000 in
set_option maxHeartbeats 4000000 in
theorem lb_X9_readSign_45 {E : En} {G : Gm} (F : Fx E G (AG G) RX9 cX9_readSign 4 none 2 45 0 0) {x1 : Int32} {z : Wd} (V : Wd) (x2 : Int32) (s0 : Int32) (h : f_X9_readSign_45 x1 V x2 s0 = some z) : Go E G (AG G) 0 0 (MQq E G none z) 4 V 45 [(0, .ref (AD G 112)), (1, .int x1), (2, .int x2)] [.int s0] := by
  unfold f_X9_readSign_45 at h
  refine go_istoren (pc := 45) (lv' := [(3, .int s0), (0, .ref (AD G 112)), (1, .int x1), (2, .int x2)]) F dX9_readSign_45 (by decide) rfl ?_
  refine go_aloadn (pc := 46) F dX9_readSign_46 1 rfl ?_
  refine gf_X9_149 (pc := 47) F dX9_readSign_47 rfl ?_
  refine go_bipush (pc := 50) (-6) F dX9_readSign_50 (by decide) ?_
  refine go_icmp_ne (pc := 52) 90 F dX9_readSign_52 (by decide) h (fun c9 h => ?_) (fun c9 h => ?_)
  · exact go_sub [1, 2, 0] rfl (lb_X9_readSign_90 F V s0 h)
  · refine go_aloadn (pc := 55) F dX9_readSign_55 1 rfl ?_
    refine gf_X9_19 (pc := 56) F dX9_readSign_56 rfl ?_
    refine go_aloadn (pc := 59) F dX9_readSign_59 1 rfl ?_
    refine gf_X9_146 (pc := 60) F dX9_readSign_60 rfl ?_
    refine go_iconst (pc := 63) 1 F dX9_readSign_63 (by decide) ?_
    refine go_isub (pc := 64) F dX9_readSign_64 ?_
    refine go_cald (pc := 65) F dX9_readSign_65 rfl h (fun y6 h => ?_)
    refine go_bipush (pc := 66) 114 F dX9_readSign_66 (by decide) ?_
    refine go_icmp_ne (pc := 68) 90 F dX9_readSign_68 (by decide) h (fun c8 h => ?_) (fun c8 h => ?_)
    · exact go_sub [1, 2, 0] rfl (lb_X9_readSign_90 F V s0 h)
    · refine go_bipush (pc := 71) 10 F dX9_readSign_71 (by decide) ?_
      refine go_aloadn (pc := 73) F dX9_readSign_73 1 rfl ?_
      refine go_iconst (pc := 74) 1 F dX9_readSign_74 (by decide) ?_
      refine go_iloadn (pc := 75) F dX9_readSign_75 3 rfl ?_
      refine go_iconst (pc := 76) 3 F dX9_readSign_76 (by decide) ?_
      refine go_icmp_ge (pc := 77) 84 F dX9_readSign_77 (by decide) h (fun c7 h => ?_) (fun c7 h => ?_)
      · refine go_iconst (pc := 84) 3 F dX9_readSign_84 (by decide) ?_
        exact go_sub [1, 2] rfl (lb_X9_readSign_85 F V 3 1 10 h)
      · refine go_iloadn (pc := 80) F dX9_readSign_80 3 rfl ?_
        refine go_goto (pc := 81) 85 F dX9_readSign_81 (by decide) ?_
        exact go_sub [1, 2] rfl (lb_X9_readSign_85 F V x2 1 10 h)
set_option maxRecDepth 100000 in
set_option maxHeartbeats 4000000 in
theorem ct_X9_readSign (l : Launch) (G : Gm) (V : Wd) (x1 : Int32) (z : Wd) (h : f_X9_readSign V x1 = some z) : Ct l G yX9_readSign cX9_readSign 4 none 2 45 [.ref (AD G 112), .int x1] V none z := by
  refine Ct.of (own := RX9) (by decide +kernel) rfl (Nat.le_of_ble_eq_true rfl) (fun E F he => ?_)
  clear he
  refine go_sub (lv' := [(0, .ref (AD G 112)), (1, .int x1)]) [0, 1] rfl ?_
  unfold f_X9_readSign at h
  refine go_aloadn (pc := 0) F dX9_readSign_0 0 rfl ?_
  refine gf_X9_23 (pc := 1) F dX9_readSign_1 rfl ?_
  refine go_iconst (pc := 4) 5 F dX9_readSign_4 (by decide) ?_
  refine go_iloadn (pc := 5) F dX9_readSign_5 1 rfl ?_
  refine go_imul (pc := 6) F dX9_readSign_6 ?_
  refine go_iald (pc := 7) 25 F dX9_readSign_7 rfl (by decide) h (fun y1 h => ?_)
  refine go_istoren (pc := 8) (lv' := [(2, .int y1), (0, .ref (AD G 112)), (1, .int x1)]) F dX9_readSign_8 (by decide) rfl ?_
  refine go_aloadn (pc := 9) F dX9_readSign_9 1 rfl ?_
  refine go_aloadn (pc := 10) F dX9_readSign_10 1 rfl ?_
  refine go_iloadn (pc := 11) F dX9_readSign_11 0 rfl ?_
  obtain ⟨y2, hy2, h⟩ := ob_ h
  refine cv_X9_159 (pc := 12) F dX9_readSign_12 rfl (ct_X9_isSignNext (enL E) G V y1 y2 hy2) (by decide) (by decide) (Nat.le_of_ble_eq_true rfl) ?_
  obtain ⟨V3, hV3, h⟩ := ob_ h
  refine cv_X9_155 (pc := 15) F dX9_readSign_15 rfl (ct_X9_wants (enL E) G V y2 V3 hV3) (by decide) (by decide) (Nat.le_of_ble_eq_true rfl) ?_
  refine go_aloadn (pc := 18) F dX9_readSign_18 1 rfl ?_
  refine gf_X9_149 (pc := 19) F dX9_readSign_19 rfl ?_
  refine go_bipush (pc := 22) (-6) F dX9_readSign_22 (by decide) ?_
  refine go_icmp_ne (pc := 24) 44 F dX9_readSign_24 (by decide) h (fun c5 h => ?_) (fun c5 h => ?_)
  · refine go_iconst (pc := 44) 0 F dX9_readSign_44 (by decide) ?_
    exact go_sub [1, 2, 0] rfl (lb_X9_readSign_45 F V3 y1 0 h)
  · refine go_aloadn (pc := 27) F dX9_readSign_27 1 rfl ?_
    refine gf_X9_19 (pc := 28) F dX9_readSign_28 rfl ?_
    refine go_aloadn (pc := 31) F dX9_readSign_31 1 rfl ?_
    refine gf_X9_146 (pc := 32) F dX9_readSign_32 rfl ?_
    refine go_iconst (pc := 35) 1 F dX9_readSign_35 (by decide) ?_
    refine go_isub (pc := 36) F dX9_readSign_36 ?_
    refine go_cald (pc := 37) F dX9_readSign_37 rfl h (fun y4 h => ?_)
    refine go_bipush (pc := 38) 48 F dX9_readSign_38 (by decide) ?_
    refine go_isub (pc := 40) F dX9_readSign_40 ?_
    refine go_goto (pc := 41) 45 F dX9_readSign_41 (by decide) ?_
    exact go_sub [1, 2, 0] rfl (lb_X9_readSign_45 F V3 y1 (y4 - 48) h)
set_option maxRecDepth 100000 in
set_option maxHeartbeats 4000000 in
theorem lb_X9_readHoist_49 {E : En} {G : Gm} (F : Fx E G (AG G) RX9 cX9_readHoist 2 none 3 68 0 0) {z : Wd} : ∀ (n : Nat) (V : Wd) (x1 : Int32), f_X9_readHoist_49 n V x1 = some z → Go E G (AG G) 0 0 (MQq E G none z) 2 V 49 [(0, .ref (AD G 112)), (1, .int x1)] [] := by
  intro n
  induction n with
  | zero => intro V x1 h; cases h
  | succ n ih =>
    intro V x1 h
    rw [f_X9_readHoist_49] at h
    refine go_aloadn (pc := 49) F dX9_readHoist_49 0 rfl ?_
    refine gf_X9_149 (pc := 50) F dX9_readHoist_50 rfl ?_
    refine go_bipush (pc := 53) (-6) F dX9_readHoist_53 (by decide) ?_
    refine go_icmp_ne (pc := 55) 93 F dX9_readHoist_55 (by decide) h (fun c18 h => ?_) (fun c18 h => ?_)
    · exact go_vretW (pc := 93) F dX9_readHoist_93 h
    · refine go_aloadn (pc := 58) F dX9_readHoist_58 0 rfl ?_
      refine gf_X9_23 (pc := 59) F dX9_readHoist_59 rfl ?_
      refine go_iconst (pc := 62) 5 F dX9_readHoist_62 (by decide) ?_
      refine go_iloadn (pc := 63) F dX9_readHoist_63 1 rfl ?_
      refine go_imul (pc := 64) F dX9_readHoist_64 ?_
      refine go_iald (pc := 65) 25 F dX9_readHoist_65 rfl (by decide) h (fun y12 h => ?_)
      refine go_iconst (pc := 66) 4 F dX9_readHoist_66 (by decide) ?_
      refine go_icmp_ge (pc := 67) 93 F dX9_readHoist_67 (by decide) h (fun c17 h => ?_) (fun c17 h => ?_)
      · exact go_vretW (pc := 93) F dX9_readHoist_93 h
      · refine go_aloadn (pc := 70) F dX9_readHoist_70 0 rfl ?_
        refine go_aloadn (pc := 71) F dX9_readHoist_71 0 rfl ?_
        refine gf_X9_23 (pc := 72) F dX9_readHoist_72 rfl ?_
        refine go_iconst (pc := 75) 5 F dX9_readHoist_75 (by decide) ?_
        refine go_iloadn (pc := 76) F dX9_readHoist_76 1 rfl ?_
        refine go_imul (pc := 77) F dX9_readHoist_77 ?_
        refine go_iald (pc := 78) 25 F dX9_readHoist_78 rfl (by decide) h (fun y13 h => ?_)
        obtain ⟨y14, hy14, h⟩ := ob_ h
        refine cv_X9_159 (pc := 79) F dX9_readHoist_79 rfl (ct_X9_isSignNext (enL E) G V y13 y14 hy14) (by decide) (by decide) (Nat.le_of_ble_eq_true rfl) ?_
        refine go_if_eq (pc := 82) 93 F dX9_readHoist_82 (by decide) h (fun c16 h => ?_) (fun c16 h => ?_)
        · exact go_vretW (pc := 93) F dX9_readHoist_93 h
        · refine go_aloadn (pc := 85) F dX9_readHoist_85 0 rfl ?_
          refine go_iloadn (pc := 86) F dX9_readHoist_86 1 rfl ?_
          obtain ⟨V15, hV15, h⟩ := ob_ h
          refine cv_X9_168 (pc := 87) F dX9_readHoist_87 rfl (ct_X9_readSign (enL E) G V x1 V15 hV15) (by decide) (by decide) (Nat.le_of_ble_eq_true rfl) ?_
          refine go_goto (pc := 90) 49 F dX9_readHoist_90 (by decide) ?_
          exact go_sub [0, 1] rfl (ih V15 x1 h)
set_option maxRecDepth 100000 in
set_option maxHeartbeats 4000000 in
theorem ct_X9_readHoist (l : Launch) (G : Gm) (V : Wd) (z : Wd) (h : f_X9_readHoist V = some z) : Ct l G yX9_readHoist cX9_readHoist 2 none 3 68 [.ref (AD G 112)] V none z := by
  refine Ct.of (own := RX9) (by decide +kernel) rfl (Nat.le_of_ble_eq_true rfl) (fun E F he => ?_)
  clear he
  refine go_sub (lv' := [(0, .ref (AD G 112))]) [0] rfl ?_
  unfold f_X9_readHoist at h
  refine go_aloadn (pc := 0) F dX9_readHoist_0 0 rfl ?_
  refine go_aloadn (pc := 1) F dX9_readHoist_1 0 rfl ?_
  refine gf_X9_165 (pc := 2) F dX9_readHoist_2 rfl ?_
  refine go_iconst (pc := 5) 1 F dX9_readHoist_5 (by decide) ?_
  refine go_iadd (pc := 6) F dX9_readHoist_6 ?_
  refine go_iconst (pc := 7) 4 F dX9_readHoist_7 (by decide) ?_
  obtain ⟨q1, hq1, h⟩ := ob_ h
  refine cv_X9_162 (pc := 8) F dX9_readHoist_8 rfl (ct_X9_figure (enL E) G V ((V 112 8) + 1) 4 q1 hq1) (by decide) (by decide) (Nat.le_of_ble_eq_true rfl) ?_
  refine go_istoren (pc := 11) (lv' := [(1, .int q1.1), (0, .ref (AD G 112))]) F dX9_readHoist_11 (by decide) rfl ?_
  refine go_aloadn (pc := 12) F dX9_readHoist_12 1 rfl ?_
  refine go_aloadn (pc := 13) F dX9_readHoist_13 1 rfl ?_
  obtain ⟨y2, hy2, h⟩ := ob_ h
  refine cv_X9_152 (pc := 14) F dX9_readHoist_14 rfl (ct_X9_letter (enL E) G q1.2 y2 hy2) (by decide) (by decide) (Nat.le_of_ble_eq_true rfl) ?_
  refine go_bipush (pc := 17) 58 F dX9_readHoist_17 (by decide) ?_
  refine go_icmp_ne (pc := 19) 26 F dX9_readHoist_19 (by decide) h (fun c11 h => ?_) (fun c11 h => ?_)
  · refine go_iconst (pc := 26) 0 F dX9_readHoist_26 (by decide) ?_
    obtain ⟨V3, hV3, h⟩ := ob_ h
    refine cv_X9_155 (pc := 27) F dX9_readHoist_27 rfl (ct_X9_wants (enL E) G q1.2 0 V3 hV3) (by decide) (by decide) (Nat.le_of_ble_eq_true rfl) ?_
    refine go_aloadn (pc := 30) F dX9_readHoist_30 1 rfl ?_
    refine gf_X9_149 (pc := 31) F dX9_readHoist_31 rfl ?_
    refine go_bipush (pc := 34) (-6) F dX9_readHoist_34 (by decide) ?_
    refine go_icmp_ne (pc := 36) 49 F dX9_readHoist_36 (by decide) h (fun c6 h => ?_) (fun c6 h => ?_)
    · exact go_sub [1, 0] rfl (lb_X9_readHoist_49 F FU_ V3 q1.1 h)
    · refine go_aloadn (pc := 39) F dX9_readHoist_39 1 rfl ?_
      refine go_iloadn (pc := 40) F dX9_readHoist_40 0 rfl ?_
      refine pf_X9_165 (pc := 41) F dX9_readHoist_41 rfl h (fun V4 h => ?_)
      refine go_aloadn (pc := 44) F dX9_readHoist_44 1 rfl ?_
      refine go_iloadn (pc := 45) F dX9_readHoist_45 0 rfl ?_
      obtain ⟨V5, hV5, h⟩ := ob_ h
      refine cv_X9_168 (pc := 46) F dX9_readHoist_46 rfl (ct_X9_readSign (enL E) G V4 q1.1 V5 hV5) (by decide) (by decide) (Nat.le_of_ble_eq_true rfl) ?_
      exact go_sub [1, 0] rfl (lb_X9_readHoist_49 F FU_ V5 q1.1 h)
  · refine go_iconst (pc := 22) 1 F dX9_readHoist_22 (by decide) ?_
    refine go_goto (pc := 23) 27 F dX9_readHoist_23 (by decide) ?_
    obtain ⟨V7, hV7, h⟩ := ob_ h
    refine cv_X9_155 (pc := 27) F dX9_readHoist_27 rfl (ct_X9_wants (enL E) G q1.2 1 V7 hV7) (by decide) (by decide) (Nat.le_of_ble_eq_true rfl) ?_
    refine go_aloadn (pc := 30) F dX9_readHoist_30 1 rfl ?_
    refine gf_X9_149 (pc := 31) F dX9_readHoist_31 rfl ?_
    refine go_bipush (pc := 34) (-6) F dX9_readHoist_34 (by decide) ?_
    refine go_icmp_ne (pc := 36) 49 F dX9_readHoist_36 (by decide) h (fun c10 h => ?_) (fun c10 h => ?_)
    · exact go_sub [1, 0] rfl (lb_X9_readHoist_49 F FU_ V7 q1.1 h)
    · refine go_aloadn (pc := 39) F dX9_readHoist_39 1 rfl ?_
      refine go_iloadn (pc := 40) F dX9_readHoist_40 0 rfl ?_
      refine pf_X9_165 (pc := 41) F dX9_readHoist_41 rfl h (fun V8 h => ?_)
      refine go_aloadn (pc := 44) F dX9_readHoist_44 1 rfl ?_
      refine go_iloadn (pc := 45) F dX9_readHoist_45 0 rfl ?_
      obtain ⟨V9, hV9, h⟩ := ob_ h
      refine cv_X9_168 (pc := 46) F dX9_readHoist_46 rfl (ct_X9_readSign (enL E) G V8 q1.1 V9 hV9) (by decide) (by decide) (Nat.le_of_ble_eq_true rfl) ?_
      exact go_sub [1, 0] rfl (lb_X9_readHoist_49 F FU_ V9 q1.1 h)
set_option maxRecDepth 100000 in
set_option maxHeartbeats 4000000 in
theorem lb_X9_errorPosition_72 {E : En} {G : Gm} (F : Fx E G (AG G) RX9 cX9_errorPosition 2 (some .int) 4 89 0 0) {K39 : Wd → Int32 → Option (Int32 × Wd)} {z : Int32 × Wd} (hK39 : ∀ (V1 : Wd) (a1 : Int32), K39 V1 a1 = some z → Go E G (AG G) 0 0 (MQq E G (some (.int z.1)) z.2) 2 V1 39 [(0, .ref (AD G 112)), (1, .int a1)] []) (V : Wd) (s0 : Int32) (h : f_X9_errorPosition_72 K39 V s0 = some z) : Go E G (AG G) 0 0 (MQq E G (some (.int z.1)) z.2) 2 V 72 [(0, .ref (AD G 112))] [.int s0] := by
  unfold f_X9_errorPosition_72 at h
  refine go_istoren (pc := 72) (lv' := [(1, .int s0), (0, .ref (AD G 112))]) F dX9_errorPosition_72 (by decide) rfl ?_
  refine go_iloadn (pc := 73) F dX9_errorPosition_73 0 rfl ?_
  refine go_if_eq (pc := 74) 39 F dX9_errorPosition_74 (by decide) h (fun c19 h => ?_) (fun c19 h => ?_)
  · exact go_sub [1, 0] rfl (hK39 V s0 h)
  · refine go_aloadn (pc := 77) F dX9_errorPosition_77 1 rfl ?_
    refine go_aloadn (pc := 78) F dX9_errorPosition_78 1 rfl ?_
    obtain ⟨y10, hy10, h⟩ := ob_ h
    refine cv_X9_152 (pc := 79) F dX9_errorPosition_79 rfl (ct_X9_letter (enL E) G V y10 hy10) (by decide) (by decide) (Nat.le_of_ble_eq_true rfl) ?_
    refine go_bipush (pc := 82) 44 F dX9_errorPosition_82 (by decide) ?_
    refine go_icmp_ne (pc := 84) 99 F dX9_errorPosition_84 (by decide) h (fun c18 h => ?_) (fun c18 h => ?_)
    · refine go_iconst (pc := 99) 0 F dX9_errorPosition_99 (by decide) ?_
      obtain ⟨V11, hV11, h⟩ := ob_ h
      refine cv_X9_155 (pc := 100) F dX9_errorPosition_100 rfl (ct_X9_wants (enL E) G V 0 V11 hV11) (by decide) (by decide) (Nat.le_of_ble_eq_true rfl) ?_
      refine go_aloadn (pc := 103) F dX9_errorPosition_103 1 rfl ?_
      refine gf_X9_149 (pc := 104) F dX9_errorPosition_104 rfl ?_
      refine go_bipush (pc := 107) (-6) F dX9_errorPosition_107 (by decide) ?_
      refine go_icmp_ne (pc := 109) 116 F dX9_errorPosition_109 (by decide) h (fun c12 h => ?_) (fun c12 h => ?_)
      · refine go_iconst (pc := 116) 0 F dX9_errorPosition_116 (by decide) ?_
        refine go_istoren (pc := 117) (lv' := [(1, .int 0), (0, .ref (AD G 112))]) F dX9_errorPosition_117 (by decide) rfl ?_
        refine go_goto (pc := 118) 39 F dX9_errorPosition_118 (by decide) ?_
        exact go_sub [1, 0] rfl (hK39 V11 0 h)
      · refine go_iconst (pc := 112) 1 F dX9_errorPosition_112 (by decide) ?_
        refine go_goto (pc := 113) 117 F dX9_errorPosition_113 (by decide) ?_
        refine go_istoren (pc := 117) (lv' := [(1, .int 1), (0, .ref (AD G 112))]) F dX9_errorPosition_117 (by decide) rfl ?_
        refine go_goto (pc := 118) 39 F dX9_errorPosition_118 (by decide) ?_
        exact go_sub [1, 0] rfl (hK39 V11 1 h)
    · refine go_aloadn (pc := 87) F dX9_errorPosition_87 1 rfl ?_
      refine gf_X9_165 (pc := 88) F dX9_errorPosition_88 rfl ?_
      refine go_iconst (pc := 91) 4 F dX9_errorPosition_91 (by decide) ?_
      refine go_icmp_ge (pc := 92) 99 F dX9_errorPosition_92 (by decide) h (fun c17 h => ?_) (fun c17 h => ?_)
      · refine go_iconst (pc := 99) 0 F dX9_errorPosition_99 (by decide) ?_
        obtain ⟨V13, hV13, h⟩ := ob_ h
        refine cv_X9_155 (pc := 100) F dX9_errorPosition_100 rfl (ct_X9_wants (enL E) G V 0 V13 hV13) (by decide) (by decide) (Nat.le_of_ble_eq_true rfl) ?_
        refine go_aloadn (pc := 103) F dX9_errorPosition_103 1 rfl ?_
        refine gf_X9_149 (pc := 104) F dX9_errorPosition_104 rfl ?_
        refine go_bipush (pc := 107) (-6) F dX9_errorPosition_107 (by decide) ?_
        refine go_icmp_ne (pc := 109) 116 F dX9_errorPosition_109 (by decide) h (fun c14 h => ?_) (fun c14 h => ?_)
        · refine go_iconst (pc := 116) 0 F dX9_errorPosition_116 (by decide) ?_
          refine go_istoren (pc := 117) (lv' := [(1, .int 0), (0, .ref (AD G 112))]) F dX9_errorPosition_117 (by decide) rfl ?_
          refine go_goto (pc := 118) 39 F dX9_errorPosition_118 (by decide) ?_
          exact go_sub [1, 0] rfl (hK39 V13 0 h)
        · refine go_iconst (pc := 112) 1 F dX9_errorPosition_112 (by decide) ?_
          refine go_goto (pc := 113) 117 F dX9_errorPosition_113 (by decide) ?_
          refine go_istoren (pc := 117) (lv' := [(1, .int 1), (0, .ref (AD G 112))]) F dX9_errorPosition_117 (by decide) rfl ?_
          refine go_goto (pc := 118) 39 F dX9_errorPosition_118 (by decide) ?_
          exact go_sub [1, 0] rfl (hK39 V13 1 h)
      · refine go_iconst (pc := 95) 1 F dX9_errorPosition_95 (by decide) ?_
        refine go_goto (pc := 96) 100 F dX9_errorPosition_96 (by decide) ?_
        obtain ⟨V15, hV15, h⟩ := ob_ h
        refine cv_X9_155 (pc := 100) F dX9_errorPosition_100 rfl (ct_X9_wants (enL E) G V 1 V15 hV15) (by decide) (by decide) (Nat.le_of_ble_eq_true rfl) ?_
        refine go_aloadn (pc := 103) F dX9_errorPosition_103 1 rfl ?_
        refine gf_X9_149 (pc := 104) F dX9_errorPosition_104 rfl ?_
        refine go_bipush (pc := 107) (-6) F dX9_errorPosition_107 (by decide) ?_
        refine go_icmp_ne (pc := 109) 116 F dX9_errorPosition_109 (by decide) h (fun c16 h => ?_) (fun c16 h => ?_)
        · refine go_iconst (pc := 116) 0 F dX9_errorPosition_116 (by decide) ?_
          refine go_istoren (pc := 117) (lv' := [(1, .int 0), (0, .ref (AD G 112))]) F dX9_errorPosition_117 (by decide) rfl ?_
          refine go_goto (pc := 118) 39 F dX9_errorPosition_118 (by decide) ?_
          exact go_sub [1, 0] rfl (hK39 V15 0 h)
        · refine go_iconst (pc := 112) 1 F dX9_errorPosition_112 (by decide) ?_
          refine go_goto (pc := 113) 117 F dX9_errorPosition_113 (by decide) ?_
          refine go_istoren (pc := 117) (lv' := [(1, .int 1), (0, .ref (AD G 112))]) F dX9_errorPosition_117 (by decide) rfl ?_
          refine go_goto (pc := 118) 39 F dX9_errorPosition_118 (by decide) ?_
          exact go_sub [1, 0] rfl (hK39 V15 1 h)
set_option maxRecDepth 100000 in
set_option maxHeartbeats 4000000 in
theorem lb_X9_errorPosition_71 {E : En} {G : Gm} (F : Fx E G (AG G) RX9 cX9_errorPosition 2 (some .int) 4 89 0 0) {K39 : Wd → Int32 → Option (Int32 × Wd)} {z : Int32 × Wd} (hK39 : ∀ (V1 : Wd) (a1 : Int32), K39 V1 a1 = some z → Go E G (AG G) 0 0 (MQq E G (some (.int z.1)) z.2) 2 V1 39 [(0, .ref (AD G 112)), (1, .int a1)] []) (V : Wd) (h : f_X9_errorPosition_71 K39 V = some z) : Go E G (AG G) 0 0 (MQq E G (some (.int z.1)) z.2) 2 V 71 [(0, .ref (AD G 112))] [] := by
  unfold f_X9_errorPosition_71 at h
  refine go_iconst (pc := 71) 0 F dX9_errorPosition_71 (by decide) ?_
  exact go_sub [0] rfl (lb_X9_errorPosition_72 F hK39 V 0 h)
set_option maxRecDepth 100000 in
set_option maxHeartbeats 4000000 in
theorem lb_X9_errorPosition_39 {E : En} {G : Gm} (F : Fx E G (AG G) RX9 cX9_errorPosition 2 (some .int) 4 89 0 0) {z : Int32 × Wd} : ∀ (n : Nat) (V : Wd) (x1 : Int32), f_X9_errorPosition_39 n V x1 = some z → Go E G (AG G) 0 0 (MQq E G (some (.int z.1)) z.2) 2 V 39 [(0, .ref (AD G 112)), (1, .int x1)] [] := by
  intro n
  induction n with
  | zero => intro V x1 h; cases h
  | succ n ih =>
    intro V x1 h
    rw [f_X9_errorPosition_39] at h
    refine go_iloadn (pc := 39) F dX9_errorPosition_39 1 rfl ?_
    refine go_if_eq (pc := 40) 121 F dX9_errorPosition_40 (by decide) h (fun c9 h => ?_) (fun c9 h => ?_)
    · refine go_aloadn (pc := 121) F dX9_errorPosition_121 0 rfl ?_
      refine gf_X9_149 (pc := 122) F dX9_errorPosition_122 rfl ?_
      exact go_iretW (pc := 125) F dX9_errorPosition_125 h
    · refine go_aloadn (pc := 43) F dX9_errorPosition_43 0 rfl ?_
      obtain ⟨V6, hV6, h⟩ := ob_ h
      refine cv_X9_172 (pc := 44) F dX9_errorPosition_44 rfl (ct_X9_readHoist (enL E) G V V6 hV6) (by decide) (by decide) (Nat.le_of_ble_eq_true rfl) ?_
      refine go_aloadn (pc := 47) F dX9_errorPosition_47 0 rfl ?_
      refine gf_X9_149 (pc := 48) F dX9_errorPosition_48 rfl ?_
      refine go_bipush (pc := 51) (-6) F dX9_errorPosition_51 (by decide) ?_
      refine go_icmp_ne (pc := 53) 71 F dX9_errorPosition_53 (by decide) h (fun c8 h => ?_) (fun c8 h => ?_)
      · exact go_sub [0] rfl (lb_X9_errorPosition_71 F (fun V1 a1 h => ih V1 a1 h) V6 h)
      · refine go_aloadn (pc := 56) F dX9_errorPosition_56 0 rfl ?_
        refine gf_X9_146 (pc := 57) F dX9_errorPosition_57 rfl ?_
        refine go_aloadn (pc := 60) F dX9_errorPosition_60 0 rfl ?_
        refine gf_X9_143 (pc := 61) F dX9_errorPosition_61 rfl ?_
        refine go_icmp_ge (pc := 64) 71 F dX9_errorPosition_64 (by decide) h (fun c7 h => ?_) (fun c7 h => ?_)
        · exact go_sub [0] rfl (lb_X9_errorPosition_71 F (fun V1 a1 h => ih V1 a1 h) V6 h)
        · refine go_iconst (pc := 67) 1 F dX9_errorPosition_67 (by decide) ?_
          refine go_goto (pc := 68) 72 F dX9_errorPosition_68 (by decide) ?_
          exact go_sub [0] rfl (lb_X9_errorPosition_72 F (fun V1 a1 h => ih V1 a1 h) V6 1 h)
set_option maxRecDepth 100000 in
set_option maxHeartbeats 4000000 in
theorem lb_X9_errorPosition_21 {E : En} {G : Gm} (F : Fx E G (AG G) RX9 cX9_errorPosition 2 (some .int) 4 89 0 0) {z : Int32 × Wd} (V : Wd) (h : f_X9_errorPosition_21 V = some z) : Go E G (AG G) 0 0 (MQq E G (some (.int z.1)) z.2) 2 V 21 [(0, .ref (AD G 112))] [] := by
  unfold f_X9_errorPosition_21 at h
  refine go_aloadn (pc := 21) F dX9_errorPosition_21 0 rfl ?_
  refine go_iconst (pc := 22) (-1) F dX9_errorPosition_22 (by decide) ?_
  refine pf_X9_165 (pc := 23) F dX9_errorPosition_23 rfl h (fun V3 h => ?_)
  refine go_aloadn (pc := 26) F dX9_errorPosition_26 0 rfl ?_
  refine go_iconst (pc := 27) 0 F dX9_errorPosition_27 (by decide) ?_
  refine pf_X9_146 (pc := 28) F dX9_errorPosition_28 rfl h (fun V4 h => ?_)
  refine go_aloadn (pc := 31) F dX9_errorPosition_31 0 rfl ?_
  refine go_bipush (pc := 32) (-6) F dX9_errorPosition_32 (by decide) ?_
  refine pf_X9_149 (pc := 34) F dX9_errorPosition_34 rfl h (fun V5 h => ?_)
  refine go_iconst (pc := 37) 1 F dX9_errorPosition_37 (by decide) ?_
  refine go_istoren (pc := 38) (lv' := [(1, .int 1), (0, .ref (AD G 112))]) F dX9_errorPosition_38 (by decide) rfl ?_
  exact go_sub [1, 0] rfl (lb_X9_errorPosition_39 F FU_ V5 1 h)
set_option maxRecDepth 100000 in
set_option maxHeartbeats 4000000 in
theorem lb_X9_errorPosition_2 {E : En} {G : Gm} (F : Fx E G (AG G) RX9 cX9_errorPosition 2 (some .int) 4 89 0 0) {z : Int32 × Wd} : ∀ (n : Nat) (V : Wd) (x1 : Int32), f_X9_errorPosition_2 n V x1 = some z → Go E G (AG G) 0 0 (MQq E G (some (.int z.1)) z.2) 2 V 2 [(0, .ref (AD G 112)), (1, .int x1)] [] := by
  intro n
  induction n with
  | zero => intro V x1 h; cases h
  | succ n ih =>
    intro V x1 h
    rw [f_X9_errorPosition_2] at h
    refine go_iloadn (pc := 2) F dX9_errorPosition_2 1 rfl ?_
    refine go_bipush (pc := 3) 25 F dX9_errorPosition_3 (by decide) ?_
    refine go_icmp_ge (pc := 5) 21 F dX9_errorPosition_5 (by decide) h (fun c2 h => ?_) (fun c2 h => ?_)
    · exact go_sub [0] rfl (lb_X9_errorPosition_21 F V h)
    · refine go_aloadn (pc := 8) F dX9_errorPosition_8 0 rfl ?_
      refine gf_X9_23 (pc := 9) F dX9_errorPosition_9 rfl ?_
      refine go_iloadn (pc := 12) F dX9_errorPosition_12 1 rfl ?_
      refine go_iconst (pc := 13) 0 F dX9_errorPosition_13 (by decide) ?_
      refine go_iast (pc := 14) 25 F dX9_errorPosition_14 rfl (by decide) h (fun V1 h => ?_)
      refine go_iinc (pc := 15) (x1 + 1) (lv' := [(1, .int (x1 + 1)), (0, .ref (AD G 112))]) F dX9_errorPosition_15 (k := 1) rfl rfl (by decide) rfl ?_
      refine go_goto (pc := 18) 2 F dX9_errorPosition_18 (by decide) ?_
      exact go_sub [1, 0] rfl (ih V1 (x1 + 1) h)
set_option maxRecDepth 100000 in
set_option maxHeartbeats 4000000 in
theorem ct_X9_errorPosition (l : Launch) (G : Gm) (V : Wd) (z : Int32 × Wd) (h : f_X9_errorPosition V = some z) : Ct l G yX9_errorPosition cX9_errorPosition 2 (some .int) 4 89 [.ref (AD G 112)] V (some (.int z.1)) z.2 := by
  refine Ct.of (own := RX9) (by decide +kernel) rfl (Nat.le_of_ble_eq_true rfl) (fun E F he => ?_)
  clear he
  refine go_sub (lv' := [(0, .ref (AD G 112))]) [0] rfl ?_
  unfold f_X9_errorPosition at h
  refine go_iconst (pc := 0) 0 F dX9_errorPosition_0 (by decide) ?_
  refine go_istoren (pc := 1) (lv' := [(1, .int 0), (0, .ref (AD G 112))]) F dX9_errorPosition_1 (by decide) rfl ?_
  exact go_sub [1, 0] rfl (lb_X9_errorPosition_2 F FU_ V 0 h)
set_option maxRecDepth 100000 in
set_option maxHeartbeats 4000000 in
theorem lb_X9_neededOf_12 {E : En} {G : Gm} (F : Fx E G (AG G) RX9 cX9_neededOf 5 (some .int) 0 0 0 0) {V : Wd} {x1 : Int32} {K4 : Int32 → Int32 → Option (Int32)} {z : Int32} (hK4 : ∀ (a2 : Int32) (a3 : Int32), K4 a2 a3 = some z → Go E G (AG G) 0 0 (MQq E G (some (.int z)) V) 5 V 4 [(0, .ref (AD G 112)), (1, .int x1), (2, .int a2), (3, .int a3)] []) : ∀ (n : Nat) (x2 : Int32) (x3 : Int32) (x4 : Int32), f_X9_neededOf_12 V x1 K4 n x2 x3 x4 = some z → Go E G (AG G) 0 0 (MQq E G (some (.int z)) V) 5 V 12 [(0, .ref (AD G 112)), (1, .int x1), (2, .int x2), (3, .int x3), (4, .int x4)] [] := by
  intro n
  induction n with
  | zero => intro x2 x3 x4 h; cases h
  | succ n ih =>
    intro x2 x3 x4 h
    rw [f_X9_neededOf_12] at h
    refine go_iload (pc := 12) F dX9_neededOf_12 4 rfl ?_
    refine go_aloadn (pc := 14) F dX9_neededOf_14 0 rfl ?_
    refine gf_X9_23 (pc := 15) F dX9_neededOf_15 rfl ?_
    refine go_iconst (pc := 18) 5 F dX9_neededOf_18 (by decide) ?_
    refine go_iloadn (pc := 19) F dX9_neededOf_19 3 rfl ?_
    refine go_imul (pc := 20) F dX9_neededOf_20 ?_
    refine go_iald (pc := 21) 25 F dX9_neededOf_21 rfl (by decide) h (fun y2 h => ?_)
    refine go_icmp_gt (pc := 22) 54 F dX9_neededOf_22 (by decide) h (fun c7 h => ?_) (fun c7 h => ?_)
    · refine go_iinc (pc := 54) (x3 + 1) (lv' := [(3, .int (x3 + 1)), (0, .ref (AD G 112)), (1, .int x1), (2, .int x2), (4, .int x4)]) F dX9_neededOf_54 (k := 3) rfl rfl (by decide) rfl ?_
      refine go_goto (pc := 57) 4 F dX9_neededOf_57 (by decide) ?_
      exact go_sub [1, 2, 3, 0] rfl (hK4 x2 (x3 + 1) h)
    · refine go_iloadn (pc := 25) F dX9_neededOf_25 2 rfl ?_
      refine go_aloadn (pc := 26) F dX9_neededOf_26 0 rfl ?_
      refine gf_X9_23 (pc := 27) F dX9_neededOf_27 rfl ?_
      refine go_iconst (pc := 30) 5 F dX9_neededOf_30 (by decide) ?_
      refine go_iloadn (pc := 31) F dX9_neededOf_31 3 rfl ?_
      refine go_imul (pc := 32) F dX9_neededOf_32 ?_
      refine go_iload (pc := 33) F dX9_neededOf_33 4 rfl ?_
      refine go_iadd (pc := 35) F dX9_neededOf_35 ?_
      refine go_iald (pc := 36) 25 F dX9_neededOf_36 rfl (by decide) h (fun y3 h => ?_)
      refine go_iloadn (pc := 37) F dX9_neededOf_37 1 rfl ?_
      refine go_icmp_ne (pc := 38) 45 F dX9_neededOf_38 (by decide) h (fun c6 h => ?_) (fun c6 h => ?_)
      · refine go_iconst (pc := 45) 0 F dX9_neededOf_45 (by decide) ?_
        refine go_iadd (pc := 46) F dX9_neededOf_46 ?_
        refine go_topi h (fun y4 h => ?_)
        refine go_istoren (pc := 47) (lv' := [(2, .int y4), (0, .ref (AD G 112)), (1, .int x1), (3, .int x3), (4, .int x4)]) F dX9_neededOf_47 (by decide) rfl ?_
        refine go_iinc (pc := 48) (x4 + 1) (lv' := [(4, .int (x4 + 1)), (2, .int y4), (0, .ref (AD G 112)), (1, .int x1), (3, .int x3)]) F dX9_neededOf_48 (k := 4) rfl rfl (by decide) rfl ?_
        refine go_goto (pc := 51) 12 F dX9_neededOf_51 (by decide) ?_
        exact go_sub [2, 3, 1, 4, 0] rfl (ih y4 x3 (x4 + 1) h)
      · refine go_iconst (pc := 41) 1 F dX9_neededOf_41 (by decide) ?_
        refine go_goto (pc := 42) 46 F dX9_neededOf_42 (by decide) ?_
        refine go_iadd (pc := 46) F dX9_neededOf_46 ?_
        refine go_topi h (fun y5 h => ?_)
        refine go_istoren (pc := 47) (lv' := [(2, .int y5), (0, .ref (AD G 112)), (1, .int x1), (3, .int x3), (4, .int x4)]) F dX9_neededOf_47 (by decide) rfl ?_
        refine go_iinc (pc := 48) (x4 + 1) (lv' := [(4, .int (x4 + 1)), (2, .int y5), (0, .ref (AD G 112)), (1, .int x1), (3, .int x3)]) F dX9_neededOf_48 (k := 4) rfl rfl (by decide) rfl ?_
        refine go_goto (pc := 51) 12 F dX9_neededOf_51 (by decide) ?_
        exact go_sub [2, 3, 1, 4, 0] rfl (ih y5 x3 (x4 + 1) h)
set_option maxRecDepth 100000 in
set_option maxHeartbeats 4000000 in
theorem lb_X9_neededOf_4 {E : En} {G : Gm} (F : Fx E G (AG G) RX9 cX9_neededOf 5 (some .int) 0 0 0 0) {V : Wd} {x1 : Int32} {z : Int32} : ∀ (n : Nat) (x2 : Int32) (x3 : Int32), f_X9_neededOf_4 V x1 n x2 x3 = some z → Go E G (AG G) 0 0 (MQq E G (some (.int z)) V) 5 V 4 [(0, .ref (AD G 112)), (1, .int x1), (2, .int x2), (3, .int x3)] [] := by
  intro n
  induction n with
  | zero => intro x2 x3 h; cases h
  | succ n ih =>
    intro x2 x3 h
    rw [f_X9_neededOf_4] at h
    refine go_iloadn (pc := 4) F dX9_neededOf_4 3 rfl ?_
    refine go_iconst (pc := 5) 5 F dX9_neededOf_5 (by decide) ?_
    refine go_icmp_ge (pc := 6) 60 F dX9_neededOf_6 (by decide) h (fun c1 h => ?_) (fun c1 h => ?_)
    · refine go_iloadn (pc := 60) F dX9_neededOf_60 2 rfl ?_
      exact go_iretR (pc := 61) F dX9_neededOf_61 h
    · refine go_iconst (pc := 9) 1 F dX9_neededOf_9 (by decide) ?_
      refine go_istore (pc := 10) (lv' := [(4, .int 1), (0, .ref (AD G 112)), (1, .int x1), (2, .int x2), (3, .int x3)]) F dX9_neededOf_10 (by decide) rfl ?_
      exact go_sub [1, 2, 3, 4, 0] rfl (lb_X9_neededOf_12 F (fun a2 a3 h => ih a2 a3 h) FU_ x2 x3 1 h)
set_option maxRecDepth 100000 in
set_option maxHeartbeats 4000000 in
theorem ct_X9_neededOf (l : Launch) (G : Gm) (V : Wd) (x1 : Int32) (z : Int32) (h : f_X9_neededOf V x1 = some z) : Ct l G yX9_neededOf cX9_neededOf 5 (some .int) 0 0 [.ref (AD G 112), .int x1] V (some (.int z)) V := by
  refine Ct.of (own := RX9) (by decide +kernel) rfl (Nat.le_of_ble_eq_true rfl) (fun E F he => ?_)
  clear he
  refine go_sub (lv' := [(0, .ref (AD G 112)), (1, .int x1)]) [0, 1] rfl ?_
  unfold f_X9_neededOf at h
  refine go_iconst (pc := 0) 0 F dX9_neededOf_0 (by decide) ?_
  refine go_istoren (pc := 1) (lv' := [(2, .int 0), (0, .ref (AD G 112)), (1, .int x1)]) F dX9_neededOf_1 (by decide) rfl ?_
  refine go_iconst (pc := 2) 0 F dX9_neededOf_2 (by decide) ?_
  refine go_istoren (pc := 3) (lv' := [(3, .int 0), (2, .int 0), (0, .ref (AD G 112)), (1, .int x1)]) F dX9_neededOf_3 (by decide) rfl ?_
  exact go_sub [2, 3, 1, 0] rfl (lb_X9_neededOf_4 F FU_ 0 0 h)
set_option maxRecDepth 100000 in
set_option maxHeartbeats 4000000 in
theorem lb_X9_hoist_60 {E : En} {G : Gm} (F : Fx E G (AG G) RX9 cX9_hoist 3 (some .int) 5 110 0 0) {K53 : Wd → Int32 → Option (Int32 × Wd)} {z : Int32 × Wd} (hK53 : ∀ (V1 : Wd) (a1 : Int32), K53 V1 a1 = some z → Go E G (AG G) 0 0 (MQq E G (some (.int z.1)) z.2) 3 V1 53 [(0, .ref (AD G 112)), (1, .int a1)] []) : ∀ (n : Nat) (V : Wd) (x1 : Int32) (x2 : Int32), f_X9_hoist_60 K53 n V x1 x2 = some z → Go E G (AG G) 0 0 (MQq E G (some (.int z.1)) z.2) 3 V 60 [(0, .ref (AD G 112)), (1, .int x1), (2, .int x2)] [] := by
  intro n
  induction n with
  | zero => intro V x1 x2 h; cases h
  | succ n ih =>
    intro V x1 x2 h
    rw [f_X9_hoist_60] at h
    refine go_iloadn (pc := 60) F dX9_hoist_60 2 rfl ?_
    refine go_aloadn (pc := 61) F dX9_hoist_61 0 rfl ?_
    refine gf_X9_23 (pc := 62) F dX9_hoist_62 rfl ?_
    refine go_iconst (pc := 65) 5 F dX9_hoist_65 (by decide) ?_
    refine go_iloadn (pc := 66) F dX9_hoist_66 1 rfl ?_
    refine go_imul (pc := 67) F dX9_hoist_67 ?_
    refine go_iald (pc := 68) 25 F dX9_hoist_68 rfl (by decide) h (fun y12 h => ?_)
    refine go_icmp_gt (pc := 69) 93 F dX9_hoist_69 (by decide) h (fun c15 h => ?_) (fun c15 h => ?_)
    · refine go_iinc (pc := 93) (x1 + 1) (lv' := [(1, .int (x1 + 1)), (0, .ref (AD G 112)), (2, .int x2)]) F dX9_hoist_93 (k := 1) rfl rfl (by decide) rfl ?_
      refine go_goto (pc := 96) 53 F dX9_hoist_96 (by decide) ?_
      exact go_sub [1, 0] rfl (hK53 V (x1 + 1) h)
    · refine go_aloadn (pc := 72) F dX9_hoist_72 0 rfl ?_
      refine go_iloadn (pc := 73) F dX9_hoist_73 1 rfl ?_
      refine go_aloadn (pc := 74) F dX9_hoist_74 0 rfl ?_
      refine gf_X9_23 (pc := 75) F dX9_hoist_75 rfl ?_
      refine go_iconst (pc := 78) 5 F dX9_hoist_78 (by decide) ?_
      refine go_iloadn (pc := 79) F dX9_hoist_79 1 rfl ?_
      refine go_imul (pc := 80) F dX9_hoist_80 ?_
      refine go_iloadn (pc := 81) F dX9_hoist_81 2 rfl ?_
      refine go_iadd (pc := 82) F dX9_hoist_82 ?_
      refine go_iald (pc := 83) 25 F dX9_hoist_83 rfl (by decide) h (fun y13 h => ?_)
      obtain ⟨V14, hV14, h⟩ := ob_ h
      refine cv_X9_81 (pc := 84) F dX9_hoist_84 rfl (ct_X9_putOn (enL E) G V x1 y13 V14 hV14) (by decide) (by decide) (Nat.le_of_ble_eq_true rfl) ?_
      refine go_iinc (pc := 87) (x2 + 1) (lv' := [(2, .int (x2 + 1)), (0, .ref (AD G 112)), (1, .int x1)]) F dX9_hoist_87 (k := 2) rfl rfl (by decide) rfl ?_
      refine go_goto (pc := 90) 60 F dX9_hoist_90 (by decide) ?_
      exact go_sub [1, 2, 0] rfl (ih V14 x1 (x2 + 1) h)
set_option maxRecDepth 100000 in
set_option maxHeartbeats 4000000 in
theorem lb_X9_hoist_53 {E : En} {G : Gm} (F : Fx E G (AG G) RX9 cX9_hoist 3 (some .int) 5 110 0 0) {z : Int32 × Wd} : ∀ (n : Nat) (V : Wd) (x1 : Int32), f_X9_hoist_53 n V x1 = some z → Go E G (AG G) 0 0 (MQq E G (some (.int z.1)) z.2) 3 V 53 [(0, .ref (AD G 112)), (1, .int x1)] [] := by
  intro n
  induction n with
  | zero => intro V x1 h; cases h
  | succ n ih =>
    intro V x1 h
    rw [f_X9_hoist_53] at h
    refine go_iloadn (pc := 53) F dX9_hoist_53 1 rfl ?_
    refine go_iconst (pc := 54) 5 F dX9_hoist_54 (by decide) ?_
    refine go_icmp_ge (pc := 55) 99 F dX9_hoist_55 (by decide) h (fun c11 h => ?_) (fun c11 h => ?_)
    · refine go_aloadn (pc := 99) F dX9_hoist_99 0 rfl ?_
      refine go_iconst (pc := 100) 0 F dX9_hoist_100 (by decide) ?_
      refine pf_X9_143 (pc := 101) F dX9_hoist_101 rfl h (fun V9 h => ?_)
      refine go_aloadn (pc := 104) F dX9_hoist_104 0 rfl ?_
      obtain ⟨y10, hy10, h⟩ := ob_ h
      refine cv_X9_45 (pc := 105) F dX9_hoist_105 rfl (ct_X9_allSigns (enL E) G V9 y10 hy10) (by decide) (by decide) (Nat.le_of_ble_eq_true rfl) ?_
      exact go_iretW (pc := 108) F dX9_hoist_108 h
    · refine go_iconst (pc := 58) 1 F dX9_hoist_58 (by decide) ?_
      refine go_istoren (pc := 59) (lv' := [(2, .int 1), (0, .ref (AD G 112)), (1, .int x1)]) F dX9_hoist_59 (by decide) rfl ?_
      exact go_sub [1, 2, 0] rfl (lb_X9_hoist_60 F (fun V1 a1 h => ih V1 a1 h) FU_ V x1 1 h)
set_option maxRecDepth 100000 in
set_option maxHeartbeats 4000000 in
theorem lb_X9_hoist_14 {E : En} {G : Gm} (F : Fx E G (AG G) RX9 cX9_hoist 3 (some .int) 5 110 0 0) {z : Int32 × Wd} : ∀ (n : Nat) (V : Wd) (x1 : Int32), f_X9_hoist_14 n V x1 = some z → Go E G (AG G) 0 0 (MQq E G (some (.int z.1)) z.2) 3 V 14 [(0, .ref (AD G 112)), (1, .int x1)] [] := by
  intro n
  induction n with
  | zero => intro V x1 h; cases h
  | succ n ih =>
    intro V x1 h
    rw [f_X9_hoist_14] at h
    refine go_iloadn (pc := 14) F dX9_hoist_14 1 rfl ?_
    refine go_bipush (pc := 15) 13 F dX9_hoist_15 (by decide) ?_
    refine go_icmp_gt (pc := 17) 43 F dX9_hoist_17 (by decide) h (fun c8 h => ?_) (fun c8 h => ?_)
    · refine go_aloadn (pc := 43) F dX9_hoist_43 0 rfl ?_
      obtain ⟨V3, hV3, h⟩ := ob_ h
      refine cv_X9_57 (pc := 44) F dX9_hoist_44 rfl (ct_X9_recordAndDown (enL E) G V V3 hV3) (by decide) (by decide) (Nat.le_of_ble_eq_true rfl) ?_
      refine go_aloadn (pc := 47) F dX9_hoist_47 0 rfl ?_
      obtain ⟨V4, hV4, h⟩ := ob_ h
      refine cv_X9_97 (pc := 48) F dX9_hoist_48 rfl (ct_X9_makeEmpty (enL E) G V3 V4 hV4) (by decide) (by decide) (Nat.le_of_ble_eq_true rfl) ?_
      refine go_iconst (pc := 51) 0 F dX9_hoist_51 (by decide) ?_
      refine go_istoren (pc := 52) (lv' := [(1, .int 0), (0, .ref (AD G 112))]) F dX9_hoist_52 (by decide) rfl ?_
      exact go_sub [1, 0] rfl (lb_X9_hoist_53 F FU_ V4 0 h)
    · refine go_aloadn (pc := 20) F dX9_hoist_20 0 rfl ?_
      refine go_iloadn (pc := 21) F dX9_hoist_21 1 rfl ?_
      obtain ⟨y5, hy5, h⟩ := ob_ h
      refine cv_X9_178 (pc := 22) F dX9_hoist_22 rfl (ct_X9_neededOf (enL E) G V x1 y5 hy5) (by decide) (by decide) (Nat.le_of_ble_eq_true rfl) ?_
      refine go_aloadn (pc := 25) F dX9_hoist_25 0 rfl ?_
      refine gf_X9_7 (pc := 26) F dX9_hoist_26 rfl ?_
      refine go_iconst (pc := 29) 0 F dX9_hoist_29 (by decide) ?_
      refine go_iald (pc := 30) 136 F dX9_hoist_30 rfl (by decide) h (fun y6 h => ?_)
      refine go_icmp_le (pc := 31) 37 F dX9_hoist_31 (by decide) h (fun c7 h => ?_) (fun c7 h => ?_)
      · refine go_iinc (pc := 37) (x1 + 1) (lv' := [(1, .int (x1 + 1)), (0, .ref (AD G 112))]) F dX9_hoist_37 (k := 1) rfl rfl (by decide) rfl ?_
        refine go_goto (pc := 40) 14 F dX9_hoist_40 (by decide) ?_
        exact go_sub [1, 0] rfl (ih V (x1 + 1) h)
      · refine go_bipush (pc := 34) (-4) F dX9_hoist_34 (by decide) ?_
        exact go_iretW (pc := 36) F dX9_hoist_36 h
set_option maxRecDepth 100000 in
set_option maxHeartbeats 4000000 in
theorem ct_X9_hoist (l : Launch) (G : Gm) (V : Wd) (z : Int32 × Wd) (h : f_X9_hoist V = some z) : Ct l G yX9_hoist cX9_hoist 3 (some .int) 5 110 [.ref (AD G 112)] V (some (.int z.1)) z.2 := by
  refine Ct.of (own := RX9) (by decide +kernel) rfl (Nat.le_of_ble_eq_true rfl) (fun E F he => ?_)
  clear he
  refine go_sub (lv' := [(0, .ref (AD G 112))]) [0] rfl ?_
  unfold f_X9_hoist at h
  refine go_aloadn (pc := 0) F dX9_hoist_0 0 rfl ?_
  obtain ⟨q1, hq1, h⟩ := ob_ h
  refine cv_X9_175 (pc := 1) F dX9_hoist_1 rfl (ct_X9_errorPosition (enL E) G V q1 hq1) (by decide) (by decide) (Nat.le_of_ble_eq_true rfl) ?_
  refine go_bipush (pc := 4) (-6) F dX9_hoist_4 (by decide) ?_
  refine go_icmp_eq (pc := 6) 12 F dX9_hoist_6 (by decide) h (fun c2 h => ?_) (fun c2 h => ?_)
  · refine go_iconst (pc := 12) 0 F dX9_hoist_12 (by decide) ?_
    refine go_istoren (pc := 13) (lv' := [(1, .int 0), (0, .ref (AD G 112))]) F dX9_hoist_13 (by decide) rfl ?_
    exact go_sub [1, 0] rfl (lb_X9_hoist_14 F FU_ q1.2 0 h)
  · refine go_bipush (pc := 9) (-5) F dX9_hoist_9 (by decide) ?_
    exact go_iretW (pc := 11) F dX9_hoist_11 h

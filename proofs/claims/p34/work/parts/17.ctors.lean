def w1_X0 (G : Gm) (h0 : Nat) (q : Nat → Nat) : va_W := [(h0, .inr (0, [.ref (q 0), .ref (q 1), .int 0])), ((q 0), .inl (G.2.2.1, (12, .inl (fun _ => 0)))), ((q 1), .inl (G.2.2.1, (12, .inl (fun _ => 0))))]
set_option maxRecDepth 100000 in
set_option maxHeartbeats 4000000 in
theorem cc_X0 (l : Launch) (G : Gm) (h0 : Nat) : Cc l G yX0_init cX0_init 1 1 14 2 24 [.ref h0] [(h0, .inr (0, [.null, .null, .int 0]))] (w1_X0 G h0) := by
  refine Cc.of (own := RX0) (by decide +kernel) rfl rfl (Nat.le_of_ble_eq_true rfl) (fun E F hi he => ?_)
  clear he
  refine gc_sub (lv' := [(0, .ref h0)]) [0] rfl ?_
  refine gc_aloadn (pc := 0) F dX0_init_0 0 rfl ?_
  refine gc_obj (pc := 1) F dX0_init_1 ml_X0_3 (by decide) (Nat.le_of_ble_eq_true rfl) ?_
  refine gc_aloadn (pc := 4) F dX0_init_4 0 rfl ?_
  refine gc_bipush (pc := 5) 12 F dX0_init_5 (by decide) ?_
  refine gc_newi (pc := 7) (kc := 0) (ks := 0) 12 F dX0_init_7 (by decide) (by decide) (Nat.le_of_ble_eq_true rfl) (by decide) (by decide) (fun a1 => ?_)
  refine gc_putF (pc := 9) (ci := 0) (C := RX0) (T := TX0) (N := 3) (ty := (.array .int)) ([(h0, .inr (0, [.ref a1, .null, .int 0])), (a1, .inl (G.2.2.1, (12, .inl (fun _ => 0))))]) F hi dX0_init_9 0 rfl rfl ib0 tyX0 tyX0_ok nmX0 0 (by decide) fl_X0_9 rfl rfl (by decide +kernel) rfl rfl (Nat.le_of_ble_eq_true rfl) rfl ?_
  refine gc_aloadn (pc := 12) F dX0_init_12 0 rfl ?_
  refine gc_bipush (pc := 13) 12 F dX0_init_13 (by decide) ?_
  refine gc_newi (pc := 15) (kc := 1) (ks := 12) 12 F dX0_init_15 (by decide) (by decide) (Nat.le_of_ble_eq_true rfl) (by decide) (by decide) (fun a2 => ?_)
  refine gc_putF (pc := 17) (ci := 0) (C := RX0) (T := TX0) (N := 3) (ty := (.array .int)) ([(h0, .inr (0, [.ref a1, .ref a2, .int 0])), (a1, .inl (G.2.2.1, (12, .inl (fun _ => 0)))), (a2, .inl (G.2.2.1, (12, .inl (fun _ => 0))))]) F hi dX0_init_17 0 rfl rfl ib0 tyX0 tyX0_ok nmX0 1 (by decide) fl_X0_15 rfl rfl (by decide +kernel) rfl rfl (Nat.le_of_ble_eq_true rfl) rfl ?_
  refine gc_aloadn (pc := 20) F dX0_init_20 0 rfl ?_
  refine gc_iconst (pc := 21) 0 F dX0_init_21 (by decide) ?_
  refine gc_put (pc := 22) (ci := 0) (C := RX0) (T := TX0) (N := 3) (ty := .int) ([(h0, .inr (0, [.ref a1, .ref a2, .int 0])), (a1, .inl (G.2.2.1, (12, .inl (fun _ => 0)))), (a2, .inl (G.2.2.1, (12, .inl (fun _ => 0))))]) F dX0_init_22 0 rfl rfl ib0 tyX0 tyX0_ok nmX0 2 (by decide) fl_X0_18 rfl (by decide +kernel) rfl rfl (Nat.le_of_ble_eq_true rfl) rfl ?_
  obtain ⟨qq, hqq⟩ : ∃ f : Nat → Nat, f = (fun j => match j with | 0 => a1 | 1 => a2 | _ => 0) := ⟨_, rfl⟩
  refine gc_ret (pc := 25) qq F hi dX0_init_25 ?_
  subst hqq
  rfl
def w1_X1 (G : Gm) (h0 : Nat) (q : Nat → Nat) : va_W := [(h0, .inr (1, [.ref (q 0), .ref (q 1), .ref (q 2)])), ((q 0), .inl (G.2.2.1, (10, .inl (upd (upd (upd (upd (upd (upd (upd (upd (upd (upd (fun _ => 0) 0 0) 1 1) 2 2) 3 3) 4 4) 5 5) 6 6) 7 7) 8 0) 9 1)))), ((q 1), .inl (G.2.2.1, (10, .inl (upd (upd (upd (upd (upd (upd (upd (upd (upd (upd (fun _ => 0) 0 1) 1 4) 2 7) 3 2) 4 5) 5 0) 6 3) 7 6) 8 1) 9 4)))), ((q 2), .inl (G.2.2.1, (10, .inl (upd (upd (upd (upd (upd (upd (upd (upd (upd (upd (fun _ => 0) 0 0) 1 0) 2 1) 3 1) 4 2) 5 2) 6 3) 7 3) 8 4) 9 4))))]
set_option maxRecDepth 100000 in
set_option maxHeartbeats 4000000 in
theorem cc_X1 (l : Launch) (G : Gm) (h0 : Nat) : Cc l G yX1_init cX1_init 2 1 14 3 30 [.ref h0] [(h0, .inr (1, [.null, .null, .null]))] (w1_X1 G h0) := by
  refine Cc.of (own := RX1) (by decide +kernel) rfl rfl (Nat.le_of_ble_eq_true rfl) (fun E F hi he => ?_)
  clear he
  refine gc_sub (lv' := [(0, .ref h0)]) [0] rfl ?_
  refine gc_aloadn (pc := 0) F dX1_init_0 0 rfl ?_
  refine gc_obj (pc := 1) F dX1_init_1 ml_X1_3 (by decide) (Nat.le_of_ble_eq_true rfl) ?_
  refine gc_aloadn (pc := 4) F dX1_init_4 0 rfl ?_
  refine gc_bipush (pc := 5) 10 F dX1_init_5 (by decide) ?_
  refine gc_newi (pc := 7) (kc := 0) (ks := 0) 10 F dX1_init_7 (by decide) (by decide) (Nat.le_of_ble_eq_true rfl) (by decide) (by decide) (fun a1 => ?_)
  refine gc_putF (pc := 9) (ci := 1) (C := RX1) (T := TX1) (N := 3) (ty := (.array .int)) ([(h0, .inr (1, [.ref a1, .null, .null])), (a1, .inl (G.2.2.1, (10, .inl (fun _ => 0))))]) F hi dX1_init_9 0 rfl rfl ib1 tyX1 tyX1_ok nmX1 0 (by decide) fl_X1_9 rfl rfl (by decide +kernel) rfl rfl (Nat.le_of_ble_eq_true rfl) rfl ?_
  refine gc_aloadn (pc := 12) F dX1_init_12 0 rfl ?_
  refine gc_bipush (pc := 13) 10 F dX1_init_13 (by decide) ?_
  refine gc_newi (pc := 15) (kc := 1) (ks := 10) 10 F dX1_init_15 (by decide) (by decide) (Nat.le_of_ble_eq_true rfl) (by decide) (by decide) (fun a2 => ?_)
  refine gc_putF (pc := 17) (ci := 1) (C := RX1) (T := TX1) (N := 3) (ty := (.array .int)) ([(h0, .inr (1, [.ref a1, .ref a2, .null])), (a1, .inl (G.2.2.1, (10, .inl (fun _ => 0)))), (a2, .inl (G.2.2.1, (10, .inl (fun _ => 0))))]) F hi dX1_init_17 0 rfl rfl ib1 tyX1 tyX1_ok nmX1 1 (by decide) fl_X1_15 rfl rfl (by decide +kernel) rfl rfl (Nat.le_of_ble_eq_true rfl) rfl ?_
  refine gc_aloadn (pc := 20) F dX1_init_20 0 rfl ?_
  refine gc_bipush (pc := 21) 10 F dX1_init_21 (by decide) ?_
  refine gc_newi (pc := 23) (kc := 2) (ks := 20) 10 F dX1_init_23 (by decide) (by decide) (Nat.le_of_ble_eq_true rfl) (by decide) (by decide) (fun a3 => ?_)
  refine gc_putF (pc := 25) (ci := 1) (C := RX1) (T := TX1) (N := 3) (ty := (.array .int)) ([(h0, .inr (1, [.ref a1, .ref a2, .ref a3])), (a1, .inl (G.2.2.1, (10, .inl (fun _ => 0)))), (a2, .inl (G.2.2.1, (10, .inl (fun _ => 0)))), (a3, .inl (G.2.2.1, (10, .inl (fun _ => 0))))]) F hi dX1_init_25 0 rfl rfl ib1 tyX1 tyX1_ok nmX1 2 (by decide) fl_X1_18 rfl rfl (by decide +kernel) rfl rfl (Nat.le_of_ble_eq_true rfl) rfl ?_
  refine gc_iconst (pc := 28) 0 F dX1_init_28 (by decide) ?_
  refine gc_istoren (pc := 29) (lv' := [(1, .int 0), (0, .ref h0)]) F dX1_init_29 (by decide) rfl ?_
  refine gc_iloadn (pc := 30) F dX1_init_30 0 rfl ?_
  refine gc_bipush (pc := 31) 10 F dX1_init_31 (by decide) ?_
  refine gc_icmp_geF (pc := 33) 75 F dX1_init_33 (by decide) (by decide) ?_
  refine gc_aloadn (pc := 36) F dX1_init_36 1 rfl ?_
  refine gc_get (pc := 37) (ci := 1) (C := RX1) (T := TX1) (N := 3) F dX1_init_37 0 rfl rfl ib1 0 (by decide) fl_X1_9 rfl ?_
  refine gc_iloadn (pc := 40) F dX1_init_40 0 rfl ?_
  refine gc_iloadn (pc := 41) F dX1_init_41 0 rfl ?_
  refine gc_bipush (pc := 42) 8 F dX1_init_42 (by decide) ?_
  refine gc_irem (pc := 44) F dX1_init_44 (by decide) ?_
  refine gc_norm 0 (by decide) ?_
  refine gc_iast (pc := 45) ([(h0, .inr (1, [.ref a1, .ref a2, .ref a3])), (a1, .inl (G.2.2.1, (10, .inl (upd (fun _ => 0) 0 0)))), (a2, .inl (G.2.2.1, (10, .inl (fun _ => 0)))), (a3, .inl (G.2.2.1, (10, .inl (fun _ => 0))))]) F dX1_init_45 1 rfl (by unfold vp_in; decide) rfl ?_
  refine gc_aloadn (pc := 46) F dX1_init_46 1 rfl ?_
  refine gc_get (pc := 47) (ci := 1) (C := RX1) (T := TX1) (N := 3) F dX1_init_47 0 rfl rfl ib1 1 (by decide) fl_X1_15 rfl ?_
  refine gc_iloadn (pc := 50) F dX1_init_50 0 rfl ?_
  refine gc_iconst (pc := 51) 3 F dX1_init_51 (by decide) ?_
  refine gc_iloadn (pc := 52) F dX1_init_52 0 rfl ?_
  refine gc_imul (pc := 53) F dX1_init_53 ?_
  refine gc_norm 0 (by decide) ?_
  refine gc_iconst (pc := 54) 1 F dX1_init_54 (by decide) ?_
  refine gc_iadd (pc := 55) F dX1_init_55 ?_
  refine gc_norm 1 (by decide) ?_
  refine gc_bipush (pc := 56) 8 F dX1_init_56 (by decide) ?_
  refine gc_irem (pc := 58) F dX1_init_58 (by decide) ?_
  refine gc_norm 1 (by decide) ?_
  refine gc_iast (pc := 59) ([(h0, .inr (1, [.ref a1, .ref a2, .ref a3])), (a1, .inl (G.2.2.1, (10, .inl (upd (fun _ => 0) 0 0)))), (a2, .inl (G.2.2.1, (10, .inl (upd (fun _ => 0) 0 1)))), (a3, .inl (G.2.2.1, (10, .inl (fun _ => 0))))]) F dX1_init_59 2 rfl (by unfold vp_in; decide) rfl ?_
  refine gc_aloadn (pc := 60) F dX1_init_60 1 rfl ?_
  refine gc_get (pc := 61) (ci := 1) (C := RX1) (T := TX1) (N := 3) F dX1_init_61 0 rfl rfl ib1 2 (by decide) fl_X1_18 rfl ?_
  refine gc_iloadn (pc := 64) F dX1_init_64 0 rfl ?_
  refine gc_iloadn (pc := 65) F dX1_init_65 0 rfl ?_
  refine gc_iconst (pc := 66) 2 F dX1_init_66 (by decide) ?_
  refine gc_idiv (pc := 67) F dX1_init_67 (by decide) ?_
  refine gc_norm 0 (by decide) ?_
  refine gc_iast (pc := 68) ([(h0, .inr (1, [.ref a1, .ref a2, .ref a3])), (a1, .inl (G.2.2.1, (10, .inl (upd (fun _ => 0) 0 0)))), (a2, .inl (G.2.2.1, (10, .inl (upd (fun _ => 0) 0 1)))), (a3, .inl (G.2.2.1, (10, .inl (upd (fun _ => 0) 0 0))))]) F dX1_init_68 3 rfl (by unfold vp_in; decide) rfl ?_
  refine gc_iinc (pc := 69) 1 (lv' := [(1, .int 1), (0, .ref h0)]) F dX1_init_69 (k := 0) rfl (by decide) (by decide) rfl ?_
  refine gc_goto (pc := 72) 30 F dX1_init_72 (by decide) ?_
  refine gc_iloadn (pc := 30) F dX1_init_30 0 rfl ?_
  refine gc_bipush (pc := 31) 10 F dX1_init_31 (by decide) ?_
  refine gc_icmp_geF (pc := 33) 75 F dX1_init_33 (by decide) (by decide) ?_
  refine gc_aloadn (pc := 36) F dX1_init_36 1 rfl ?_
  refine gc_get (pc := 37) (ci := 1) (C := RX1) (T := TX1) (N := 3) F dX1_init_37 0 rfl rfl ib1 0 (by decide) fl_X1_9 rfl ?_
  refine gc_iloadn (pc := 40) F dX1_init_40 0 rfl ?_
  refine gc_iloadn (pc := 41) F dX1_init_41 0 rfl ?_
  refine gc_bipush (pc := 42) 8 F dX1_init_42 (by decide) ?_
  refine gc_irem (pc := 44) F dX1_init_44 (by decide) ?_
  refine gc_norm 1 (by decide) ?_
  refine gc_iast (pc := 45) ([(h0, .inr (1, [.ref a1, .ref a2, .ref a3])), (a1, .inl (G.2.2.1, (10, .inl (upd (upd (fun _ => 0) 0 0) 1 1)))), (a2, .inl (G.2.2.1, (10, .inl (upd (fun _ => 0) 0 1)))), (a3, .inl (G.2.2.1, (10, .inl (upd (fun _ => 0) 0 0))))]) F dX1_init_45 1 rfl (by unfold vp_in; decide) rfl ?_
  refine gc_aloadn (pc := 46) F dX1_init_46 1 rfl ?_
  refine gc_get (pc := 47) (ci := 1) (C := RX1) (T := TX1) (N := 3) F dX1_init_47 0 rfl rfl ib1 1 (by decide) fl_X1_15 rfl ?_
  refine gc_iloadn (pc := 50) F dX1_init_50 0 rfl ?_
  refine gc_iconst (pc := 51) 3 F dX1_init_51 (by decide) ?_
  refine gc_iloadn (pc := 52) F dX1_init_52 0 rfl ?_
  refine gc_imul (pc := 53) F dX1_init_53 ?_
  refine gc_norm 3 (by decide) ?_
  refine gc_iconst (pc := 54) 1 F dX1_init_54 (by decide) ?_
  refine gc_iadd (pc := 55) F dX1_init_55 ?_
  refine gc_norm 4 (by decide) ?_
  refine gc_bipush (pc := 56) 8 F dX1_init_56 (by decide) ?_
  refine gc_irem (pc := 58) F dX1_init_58 (by decide) ?_
  refine gc_norm 4 (by decide) ?_
  refine gc_iast (pc := 59) ([(h0, .inr (1, [.ref a1, .ref a2, .ref a3])), (a1, .inl (G.2.2.1, (10, .inl (upd (upd (fun _ => 0) 0 0) 1 1)))), (a2, .inl (G.2.2.1, (10, .inl (upd (upd (fun _ => 0) 0 1) 1 4)))), (a3, .inl (G.2.2.1, (10, .inl (upd (fun _ => 0) 0 0))))]) F dX1_init_59 2 rfl (by unfold vp_in; decide) rfl ?_
  refine gc_aloadn (pc := 60) F dX1_init_60 1 rfl ?_
  refine gc_get (pc := 61) (ci := 1) (C := RX1) (T := TX1) (N := 3) F dX1_init_61 0 rfl rfl ib1 2 (by decide) fl_X1_18 rfl ?_
  refine gc_iloadn (pc := 64) F dX1_init_64 0 rfl ?_
  refine gc_iloadn (pc := 65) F dX1_init_65 0 rfl ?_
  refine gc_iconst (pc := 66) 2 F dX1_init_66 (by decide) ?_
  refine gc_idiv (pc := 67) F dX1_init_67 (by decide) ?_
  refine gc_norm 0 (by decide) ?_
  refine gc_iast (pc := 68) ([(h0, .inr (1, [.ref a1, .ref a2, .ref a3])), (a1, .inl (G.2.2.1, (10, .inl (upd (upd (fun _ => 0) 0 0) 1 1)))), (a2, .inl (G.2.2.1, (10, .inl (upd (upd (fun _ => 0) 0 1) 1 4)))), (a3, .inl (G.2.2.1, (10, .inl (upd (upd (fun _ => 0) 0 0) 1 0))))]) F dX1_init_68 3 rfl (by unfold vp_in; decide) rfl ?_
  refine gc_iinc (pc := 69) 2 (lv' := [(1, .int 2), (0, .ref h0)]) F dX1_init_69 (k := 0) rfl (by decide) (by decide) rfl ?_
  refine gc_goto (pc := 72) 30 F dX1_init_72 (by decide) ?_
  refine gc_iloadn (pc := 30) F dX1_init_30 0 rfl ?_
  refine gc_bipush (pc := 31) 10 F dX1_init_31 (by decide) ?_
  refine gc_icmp_geF (pc := 33) 75 F dX1_init_33 (by decide) (by decide) ?_
  refine gc_aloadn (pc := 36) F dX1_init_36 1 rfl ?_
  refine gc_get (pc := 37) (ci := 1) (C := RX1) (T := TX1) (N := 3) F dX1_init_37 0 rfl rfl ib1 0 (by decide) fl_X1_9 rfl ?_
  refine gc_iloadn (pc := 40) F dX1_init_40 0 rfl ?_
  refine gc_iloadn (pc := 41) F dX1_init_41 0 rfl ?_
  refine gc_bipush (pc := 42) 8 F dX1_init_42 (by decide) ?_
  refine gc_irem (pc := 44) F dX1_init_44 (by decide) ?_
  refine gc_norm 2 (by decide) ?_
  refine gc_iast (pc := 45) ([(h0, .inr (1, [.ref a1, .ref a2, .ref a3])), (a1, .inl (G.2.2.1, (10, .inl (upd (upd (upd (fun _ => 0) 0 0) 1 1) 2 2)))), (a2, .inl (G.2.2.1, (10, .inl (upd (upd (fun _ => 0) 0 1) 1 4)))), (a3, .inl (G.2.2.1, (10, .inl (upd (upd (fun _ => 0) 0 0) 1 0))))]) F dX1_init_45 1 rfl (by unfold vp_in; decide) rfl ?_
  refine gc_aloadn (pc := 46) F dX1_init_46 1 rfl ?_
  refine gc_get (pc := 47) (ci := 1) (C := RX1) (T := TX1) (N := 3) F dX1_init_47 0 rfl rfl ib1 1 (by decide) fl_X1_15 rfl ?_
  refine gc_iloadn (pc := 50) F dX1_init_50 0 rfl ?_
  refine gc_iconst (pc := 51) 3 F dX1_init_51 (by decide) ?_
  refine gc_iloadn (pc := 52) F dX1_init_52 0 rfl ?_
  refine gc_imul (pc := 53) F dX1_init_53 ?_
  refine gc_norm 6 (by decide) ?_
  refine gc_iconst (pc := 54) 1 F dX1_init_54 (by decide) ?_
  refine gc_iadd (pc := 55) F dX1_init_55 ?_
  refine gc_norm 7 (by decide) ?_
  refine gc_bipush (pc := 56) 8 F dX1_init_56 (by decide) ?_
  refine gc_irem (pc := 58) F dX1_init_58 (by decide) ?_
  refine gc_norm 7 (by decide) ?_
  refine gc_iast (pc := 59) ([(h0, .inr (1, [.ref a1, .ref a2, .ref a3])), (a1, .inl (G.2.2.1, (10, .inl (upd (upd (upd (fun _ => 0) 0 0) 1 1) 2 2)))), (a2, .inl (G.2.2.1, (10, .inl (upd (upd (upd (fun _ => 0) 0 1) 1 4) 2 7)))), (a3, .inl (G.2.2.1, (10, .inl (upd (upd (fun _ => 0) 0 0) 1 0))))]) F dX1_init_59 2 rfl (by unfold vp_in; decide) rfl ?_
  refine gc_aloadn (pc := 60) F dX1_init_60 1 rfl ?_
  refine gc_get (pc := 61) (ci := 1) (C := RX1) (T := TX1) (N := 3) F dX1_init_61 0 rfl rfl ib1 2 (by decide) fl_X1_18 rfl ?_
  refine gc_iloadn (pc := 64) F dX1_init_64 0 rfl ?_
  refine gc_iloadn (pc := 65) F dX1_init_65 0 rfl ?_
  refine gc_iconst (pc := 66) 2 F dX1_init_66 (by decide) ?_
  refine gc_idiv (pc := 67) F dX1_init_67 (by decide) ?_
  refine gc_norm 1 (by decide) ?_
  refine gc_iast (pc := 68) ([(h0, .inr (1, [.ref a1, .ref a2, .ref a3])), (a1, .inl (G.2.2.1, (10, .inl (upd (upd (upd (fun _ => 0) 0 0) 1 1) 2 2)))), (a2, .inl (G.2.2.1, (10, .inl (upd (upd (upd (fun _ => 0) 0 1) 1 4) 2 7)))), (a3, .inl (G.2.2.1, (10, .inl (upd (upd (upd (fun _ => 0) 0 0) 1 0) 2 1))))]) F dX1_init_68 3 rfl (by unfold vp_in; decide) rfl ?_
  refine gc_iinc (pc := 69) 3 (lv' := [(1, .int 3), (0, .ref h0)]) F dX1_init_69 (k := 0) rfl (by decide) (by decide) rfl ?_
  refine gc_goto (pc := 72) 30 F dX1_init_72 (by decide) ?_
  refine gc_iloadn (pc := 30) F dX1_init_30 0 rfl ?_
  refine gc_bipush (pc := 31) 10 F dX1_init_31 (by decide) ?_
  refine gc_icmp_geF (pc := 33) 75 F dX1_init_33 (by decide) (by decide) ?_
  refine gc_aloadn (pc := 36) F dX1_init_36 1 rfl ?_
  refine gc_get (pc := 37) (ci := 1) (C := RX1) (T := TX1) (N := 3) F dX1_init_37 0 rfl rfl ib1 0 (by decide) fl_X1_9 rfl ?_
  refine gc_iloadn (pc := 40) F dX1_init_40 0 rfl ?_
  refine gc_iloadn (pc := 41) F dX1_init_41 0 rfl ?_
  refine gc_bipush (pc := 42) 8 F dX1_init_42 (by decide) ?_
  refine gc_irem (pc := 44) F dX1_init_44 (by decide) ?_
  refine gc_norm 3 (by decide) ?_
  refine gc_iast (pc := 45) ([(h0, .inr (1, [.ref a1, .ref a2, .ref a3])), (a1, .inl (G.2.2.1, (10, .inl (upd (upd (upd (upd (fun _ => 0) 0 0) 1 1) 2 2) 3 3)))), (a2, .inl (G.2.2.1, (10, .inl (upd (upd (upd (fun _ => 0) 0 1) 1 4) 2 7)))), (a3, .inl (G.2.2.1, (10, .inl (upd (upd (upd (fun _ => 0) 0 0) 1 0) 2 1))))]) F dX1_init_45 1 rfl (by unfold vp_in; decide) rfl ?_
  refine gc_aloadn (pc := 46) F dX1_init_46 1 rfl ?_
  refine gc_get (pc := 47) (ci := 1) (C := RX1) (T := TX1) (N := 3) F dX1_init_47 0 rfl rfl ib1 1 (by decide) fl_X1_15 rfl ?_
  refine gc_iloadn (pc := 50) F dX1_init_50 0 rfl ?_
  refine gc_iconst (pc := 51) 3 F dX1_init_51 (by decide) ?_
  refine gc_iloadn (pc := 52) F dX1_init_52 0 rfl ?_
  refine gc_imul (pc := 53) F dX1_init_53 ?_
  refine gc_norm 9 (by decide) ?_
  refine gc_iconst (pc := 54) 1 F dX1_init_54 (by decide) ?_
  refine gc_iadd (pc := 55) F dX1_init_55 ?_
  refine gc_norm 10 (by decide) ?_
  refine gc_bipush (pc := 56) 8 F dX1_init_56 (by decide) ?_
  refine gc_irem (pc := 58) F dX1_init_58 (by decide) ?_
  refine gc_norm 2 (by decide) ?_
  refine gc_iast (pc := 59) ([(h0, .inr (1, [.ref a1, .ref a2, .ref a3])), (a1, .inl (G.2.2.1, (10, .inl (upd (upd (upd (upd (fun _ => 0) 0 0) 1 1) 2 2) 3 3)))), (a2, .inl (G.2.2.1, (10, .inl (upd (upd (upd (upd (fun _ => 0) 0 1) 1 4) 2 7) 3 2)))), (a3, .inl (G.2.2.1, (10, .inl (upd (upd (upd (fun _ => 0) 0 0) 1 0) 2 1))))]) F dX1_init_59 2 rfl (by unfold vp_in; decide) rfl ?_
  refine gc_aloadn (pc := 60) F dX1_init_60 1 rfl ?_
  refine gc_get (pc := 61) (ci := 1) (C := RX1) (T := TX1) (N := 3) F dX1_init_61 0 rfl rfl ib1 2 (by decide) fl_X1_18 rfl ?_
  refine gc_iloadn (pc := 64) F dX1_init_64 0 rfl ?_
  refine gc_iloadn (pc := 65) F dX1_init_65 0 rfl ?_
  refine gc_iconst (pc := 66) 2 F dX1_init_66 (by decide) ?_
  refine gc_idiv (pc := 67) F dX1_init_67 (by decide) ?_
  refine gc_norm 1 (by decide) ?_
  refine gc_iast (pc := 68) ([(h0, .inr (1, [.ref a1, .ref a2, .ref a3])), (a1, .inl (G.2.2.1, (10, .inl (upd (upd (upd (upd (fun _ => 0) 0 0) 1 1) 2 2) 3 3)))), (a2, .inl (G.2.2.1, (10, .inl (upd (upd (upd (upd (fun _ => 0) 0 1) 1 4) 2 7) 3 2)))), (a3, .inl (G.2.2.1, (10, .inl (upd (upd (upd (upd (fun _ => 0) 0 0) 1 0) 2 1) 3 1))))]) F dX1_init_68 3 rfl (by unfold vp_in; decide) rfl ?_
  refine gc_iinc (pc := 69) 4 (lv' := [(1, .int 4), (0, .ref h0)]) F dX1_init_69 (k := 0) rfl (by decide) (by decide) rfl ?_
  refine gc_goto (pc := 72) 30 F dX1_init_72 (by decide) ?_
  refine gc_iloadn (pc := 30) F dX1_init_30 0 rfl ?_
  refine gc_bipush (pc := 31) 10 F dX1_init_31 (by decide) ?_
  refine gc_icmp_geF (pc := 33) 75 F dX1_init_33 (by decide) (by decide) ?_
  refine gc_aloadn (pc := 36) F dX1_init_36 1 rfl ?_
  refine gc_get (pc := 37) (ci := 1) (C := RX1) (T := TX1) (N := 3) F dX1_init_37 0 rfl rfl ib1 0 (by decide) fl_X1_9 rfl ?_
  refine gc_iloadn (pc := 40) F dX1_init_40 0 rfl ?_
  refine gc_iloadn (pc := 41) F dX1_init_41 0 rfl ?_
  refine gc_bipush (pc := 42) 8 F dX1_init_42 (by decide) ?_
  refine gc_irem (pc := 44) F dX1_init_44 (by decide) ?_
  refine gc_norm 4 (by decide) ?_
  refine gc_iast (pc := 45) ([(h0, .inr (1, [.ref a1, .ref a2, .ref a3])), (a1, .inl (G.2.2.1, (10, .inl (upd (upd (upd (upd (upd (fun _ => 0) 0 0) 1 1) 2 2) 3 3) 4 4)))), (a2, .inl (G.2.2.1, (10, .inl (upd (upd (upd (upd (fun _ => 0) 0 1) 1 4) 2 7) 3 2)))), (a3, .inl (G.2.2.1, (10, .inl (upd (upd (upd (upd (fun _ => 0) 0 0) 1 0) 2 1) 3 1))))]) F dX1_init_45 1 rfl (by unfold vp_in; decide) rfl ?_
  refine gc_aloadn (pc := 46) F dX1_init_46 1 rfl ?_
  refine gc_get (pc := 47) (ci := 1) (C := RX1) (T := TX1) (N := 3) F dX1_init_47 0 rfl rfl ib1 1 (by decide) fl_X1_15 rfl ?_
  refine gc_iloadn (pc := 50) F dX1_init_50 0 rfl ?_
  refine gc_iconst (pc := 51) 3 F dX1_init_51 (by decide) ?_
  refine gc_iloadn (pc := 52) F dX1_init_52 0 rfl ?_
  refine gc_imul (pc := 53) F dX1_init_53 ?_
  refine gc_norm 12 (by decide) ?_
  refine gc_iconst (pc := 54) 1 F dX1_init_54 (by decide) ?_
  refine gc_iadd (pc := 55) F dX1_init_55 ?_
  refine gc_norm 13 (by decide) ?_
  refine gc_bipush (pc := 56) 8 F dX1_init_56 (by decide) ?_
  refine gc_irem (pc := 58) F dX1_init_58 (by decide) ?_
  refine gc_norm 5 (by decide) ?_
  refine gc_iast (pc := 59) ([(h0, .inr (1, [.ref a1, .ref a2, .ref a3])), (a1, .inl (G.2.2.1, (10, .inl (upd (upd (upd (upd (upd (fun _ => 0) 0 0) 1 1) 2 2) 3 3) 4 4)))), (a2, .inl (G.2.2.1, (10, .inl (upd (upd (upd (upd (upd (fun _ => 0) 0 1) 1 4) 2 7) 3 2) 4 5)))), (a3, .inl (G.2.2.1, (10, .inl (upd (upd (upd (upd (fun _ => 0) 0 0) 1 0) 2 1) 3 1))))]) F dX1_init_59 2 rfl (by unfold vp_in; decide) rfl ?_
  refine gc_aloadn (pc := 60) F dX1_init_60 1 rfl ?_
  refine gc_get (pc := 61) (ci := 1) (C := RX1) (T := TX1) (N := 3) F dX1_init_61 0 rfl rfl ib1 2 (by decide) fl_X1_18 rfl ?_
  refine gc_iloadn (pc := 64) F dX1_init_64 0 rfl ?_
  refine gc_iloadn (pc := 65) F dX1_init_65 0 rfl ?_
  refine gc_iconst (pc := 66) 2 F dX1_init_66 (by decide) ?_
  refine gc_idiv (pc := 67) F dX1_init_67 (by decide) ?_
  refine gc_norm 2 (by decide) ?_
  refine gc_iast (pc := 68) ([(h0, .inr (1, [.ref a1, .ref a2, .ref a3])), (a1, .inl (G.2.2.1, (10, .inl (upd (upd (upd (upd (upd (fun _ => 0) 0 0) 1 1) 2 2) 3 3) 4 4)))), (a2, .inl (G.2.2.1, (10, .inl (upd (upd (upd (upd (upd (fun _ => 0) 0 1) 1 4) 2 7) 3 2) 4 5)))), (a3, .inl (G.2.2.1, (10, .inl (upd (upd (upd (upd (upd (fun _ => 0) 0 0) 1 0) 2 1) 3 1) 4 2))))]) F dX1_init_68 3 rfl (by unfold vp_in; decide) rfl ?_
  refine gc_iinc (pc := 69) 5 (lv' := [(1, .int 5), (0, .ref h0)]) F dX1_init_69 (k := 0) rfl (by decide) (by decide) rfl ?_
  refine gc_goto (pc := 72) 30 F dX1_init_72 (by decide) ?_
  refine gc_iloadn (pc := 30) F dX1_init_30 0 rfl ?_
  refine gc_bipush (pc := 31) 10 F dX1_init_31 (by decide) ?_
  refine gc_icmp_geF (pc := 33) 75 F dX1_init_33 (by decide) (by decide) ?_
  refine gc_aloadn (pc := 36) F dX1_init_36 1 rfl ?_
  refine gc_get (pc := 37) (ci := 1) (C := RX1) (T := TX1) (N := 3) F dX1_init_37 0 rfl rfl ib1 0 (by decide) fl_X1_9 rfl ?_
  refine gc_iloadn (pc := 40) F dX1_init_40 0 rfl ?_
  refine gc_iloadn (pc := 41) F dX1_init_41 0 rfl ?_
  refine gc_bipush (pc := 42) 8 F dX1_init_42 (by decide) ?_
  refine gc_irem (pc := 44) F dX1_init_44 (by decide) ?_
  refine gc_norm 5 (by decide) ?_
  refine gc_iast (pc := 45) ([(h0, .inr (1, [.ref a1, .ref a2, .ref a3])), (a1, .inl (G.2.2.1, (10, .inl (upd (upd (upd (upd (upd (upd (fun _ => 0) 0 0) 1 1) 2 2) 3 3) 4 4) 5 5)))), (a2, .inl (G.2.2.1, (10, .inl (upd (upd (upd (upd (upd (fun _ => 0) 0 1) 1 4) 2 7) 3 2) 4 5)))), (a3, .inl (G.2.2.1, (10, .inl (upd (upd (upd (upd (upd (fun _ => 0) 0 0) 1 0) 2 1) 3 1) 4 2))))]) F dX1_init_45 1 rfl (by unfold vp_in; decide) rfl ?_
  refine gc_aloadn (pc := 46) F dX1_init_46 1 rfl ?_
  refine gc_get (pc := 47) (ci := 1) (C := RX1) (T := TX1) (N := 3) F dX1_init_47 0 rfl rfl ib1 1 (by decide) fl_X1_15 rfl ?_
  refine gc_iloadn (pc := 50) F dX1_init_50 0 rfl ?_
  refine gc_iconst (pc := 51) 3 F dX1_init_51 (by decide) ?_
  refine gc_iloadn (pc := 52) F dX1_init_52 0 rfl ?_
  refine gc_imul (pc := 53) F dX1_init_53 ?_
  refine gc_norm 15 (by decide) ?_
  refine gc_iconst (pc := 54) 1 F dX1_init_54 (by decide) ?_
  refine gc_iadd (pc := 55) F dX1_init_55 ?_
  refine gc_norm 16 (by decide) ?_
  refine gc_bipush (pc := 56) 8 F dX1_init_56 (by decide) ?_
  refine gc_irem (pc := 58) F dX1_init_58 (by decide) ?_
  refine gc_norm 0 (by decide) ?_
  refine gc_iast (pc := 59) ([(h0, .inr (1, [.ref a1, .ref a2, .ref a3])), (a1, .inl (G.2.2.1, (10, .inl (upd (upd (upd (upd (upd (upd (fun _ => 0) 0 0) 1 1) 2 2) 3 3) 4 4) 5 5)))), (a2, .inl (G.2.2.1, (10, .inl (upd (upd (upd (upd (upd (upd (fun _ => 0) 0 1) 1 4) 2 7) 3 2) 4 5) 5 0)))), (a3, .inl (G.2.2.1, (10, .inl (upd (upd (upd (upd (upd (fun _ => 0) 0 0) 1 0) 2 1) 3 1) 4 2))))]) F dX1_init_59 2 rfl (by unfold vp_in; decide) rfl ?_
  refine gc_aloadn (pc := 60) F dX1_init_60 1 rfl ?_
  refine gc_get (pc := 61) (ci := 1) (C := RX1) (T := TX1) (N := 3) F dX1_init_61 0 rfl rfl ib1 2 (by decide) fl_X1_18 rfl ?_
  refine gc_iloadn (pc := 64) F dX1_init_64 0 rfl ?_
  refine gc_iloadn (pc := 65) F dX1_init_65 0 rfl ?_
  refine gc_iconst (pc := 66) 2 F dX1_init_66 (by decide) ?_
  refine gc_idiv (pc := 67) F dX1_init_67 (by decide) ?_
  refine gc_norm 2 (by decide) ?_
  refine gc_iast (pc := 68) ([(h0, .inr (1, [.ref a1, .ref a2, .ref a3])), (a1, .inl (G.2.2.1, (10, .inl (upd (upd (upd (upd (upd (upd (fun _ => 0) 0 0) 1 1) 2 2) 3 3) 4 4) 5 5)))), (a2, .inl (G.2.2.1, (10, .inl (upd (upd (upd (upd (upd (upd (fun _ => 0) 0 1) 1 4) 2 7) 3 2) 4 5) 5 0)))), (a3, .inl (G.2.2.1, (10, .inl (upd (upd (upd (upd (upd (upd (fun _ => 0) 0 0) 1 0) 2 1) 3 1) 4 2) 5 2))))]) F dX1_init_68 3 rfl (by unfold vp_in; decide) rfl ?_
  refine gc_iinc (pc := 69) 6 (lv' := [(1, .int 6), (0, .ref h0)]) F dX1_init_69 (k := 0) rfl (by decide) (by decide) rfl ?_
  refine gc_goto (pc := 72) 30 F dX1_init_72 (by decide) ?_
  refine gc_iloadn (pc := 30) F dX1_init_30 0 rfl ?_
  refine gc_bipush (pc := 31) 10 F dX1_init_31 (by decide) ?_
  refine gc_icmp_geF (pc := 33) 75 F dX1_init_33 (by decide) (by decide) ?_
  refine gc_aloadn (pc := 36) F dX1_init_36 1 rfl ?_
  refine gc_get (pc := 37) (ci := 1) (C := RX1) (T := TX1) (N := 3) F dX1_init_37 0 rfl rfl ib1 0 (by decide) fl_X1_9 rfl ?_
  refine gc_iloadn (pc := 40) F dX1_init_40 0 rfl ?_
  refine gc_iloadn (pc := 41) F dX1_init_41 0 rfl ?_
  refine gc_bipush (pc := 42) 8 F dX1_init_42 (by decide) ?_
  refine gc_irem (pc := 44) F dX1_init_44 (by decide) ?_
  refine gc_norm 6 (by decide) ?_
  refine gc_iast (pc := 45) ([(h0, .inr (1, [.ref a1, .ref a2, .ref a3])), (a1, .inl (G.2.2.1, (10, .inl (upd (upd (upd (upd (upd (upd (upd (fun _ => 0) 0 0) 1 1) 2 2) 3 3) 4 4) 5 5) 6 6)))), (a2, .inl (G.2.2.1, (10, .inl (upd (upd (upd (upd (upd (upd (fun _ => 0) 0 1) 1 4) 2 7) 3 2) 4 5) 5 0)))), (a3, .inl (G.2.2.1, (10, .inl (upd (upd (upd (upd (upd (upd (fun _ => 0) 0 0) 1 0) 2 1) 3 1) 4 2) 5 2))))]) F dX1_init_45 1 rfl (by unfold vp_in; decide) rfl ?_
  refine gc_aloadn (pc := 46) F dX1_init_46 1 rfl ?_
  refine gc_get (pc := 47) (ci := 1) (C := RX1) (T := TX1) (N := 3) F dX1_init_47 0 rfl rfl ib1 1 (by decide) fl_X1_15 rfl ?_
  refine gc_iloadn (pc := 50) F dX1_init_50 0 rfl ?_
  refine gc_iconst (pc := 51) 3 F dX1_init_51 (by decide) ?_
  refine gc_iloadn (pc := 52) F dX1_init_52 0 rfl ?_
  refine gc_imul (pc := 53) F dX1_init_53 ?_
  refine gc_norm 18 (by decide) ?_
  refine gc_iconst (pc := 54) 1 F dX1_init_54 (by decide) ?_
  refine gc_iadd (pc := 55) F dX1_init_55 ?_
  refine gc_norm 19 (by decide) ?_
  refine gc_bipush (pc := 56) 8 F dX1_init_56 (by decide) ?_
  refine gc_irem (pc := 58) F dX1_init_58 (by decide) ?_
  refine gc_norm 3 (by decide) ?_
  refine gc_iast (pc := 59) ([(h0, .inr (1, [.ref a1, .ref a2, .ref a3])), (a1, .inl (G.2.2.1, (10, .inl (upd (upd (upd (upd (upd (upd (upd (fun _ => 0) 0 0) 1 1) 2 2) 3 3) 4 4) 5 5) 6 6)))), (a2, .inl (G.2.2.1, (10, .inl (upd (upd (upd (upd (upd (upd (upd (fun _ => 0) 0 1) 1 4) 2 7) 3 2) 4 5) 5 0) 6 3)))), (a3, .inl (G.2.2.1, (10, .inl (upd (upd (upd (upd (upd (upd (fun _ => 0) 0 0) 1 0) 2 1) 3 1) 4 2) 5 2))))]) F dX1_init_59 2 rfl (by unfold vp_in; decide) rfl ?_
  refine gc_aloadn (pc := 60) F dX1_init_60 1 rfl ?_
  refine gc_get (pc := 61) (ci := 1) (C := RX1) (T := TX1) (N := 3) F dX1_init_61 0 rfl rfl ib1 2 (by decide) fl_X1_18 rfl ?_
  refine gc_iloadn (pc := 64) F dX1_init_64 0 rfl ?_
  refine gc_iloadn (pc := 65) F dX1_init_65 0 rfl ?_
  refine gc_iconst (pc := 66) 2 F dX1_init_66 (by decide) ?_
  refine gc_idiv (pc := 67) F dX1_init_67 (by decide) ?_
  refine gc_norm 3 (by decide) ?_
  refine gc_iast (pc := 68) ([(h0, .inr (1, [.ref a1, .ref a2, .ref a3])), (a1, .inl (G.2.2.1, (10, .inl (upd (upd (upd (upd (upd (upd (upd (fun _ => 0) 0 0) 1 1) 2 2) 3 3) 4 4) 5 5) 6 6)))), (a2, .inl (G.2.2.1, (10, .inl (upd (upd (upd (upd (upd (upd (upd (fun _ => 0) 0 1) 1 4) 2 7) 3 2) 4 5) 5 0) 6 3)))), (a3, .inl (G.2.2.1, (10, .inl (upd (upd (upd (upd (upd (upd (upd (fun _ => 0) 0 0) 1 0) 2 1) 3 1) 4 2) 5 2) 6 3))))]) F dX1_init_68 3 rfl (by unfold vp_in; decide) rfl ?_
  refine gc_iinc (pc := 69) 7 (lv' := [(1, .int 7), (0, .ref h0)]) F dX1_init_69 (k := 0) rfl (by decide) (by decide) rfl ?_
  refine gc_goto (pc := 72) 30 F dX1_init_72 (by decide) ?_
  refine gc_iloadn (pc := 30) F dX1_init_30 0 rfl ?_
  refine gc_bipush (pc := 31) 10 F dX1_init_31 (by decide) ?_
  refine gc_icmp_geF (pc := 33) 75 F dX1_init_33 (by decide) (by decide) ?_
  refine gc_aloadn (pc := 36) F dX1_init_36 1 rfl ?_
  refine gc_get (pc := 37) (ci := 1) (C := RX1) (T := TX1) (N := 3) F dX1_init_37 0 rfl rfl ib1 0 (by decide) fl_X1_9 rfl ?_
  refine gc_iloadn (pc := 40) F dX1_init_40 0 rfl ?_
  refine gc_iloadn (pc := 41) F dX1_init_41 0 rfl ?_
  refine gc_bipush (pc := 42) 8 F dX1_init_42 (by decide) ?_
  refine gc_irem (pc := 44) F dX1_init_44 (by decide) ?_
  refine gc_norm 7 (by decide) ?_
  refine gc_iast (pc := 45) ([(h0, .inr (1, [.ref a1, .ref a2, .ref a3])), (a1, .inl (G.2.2.1, (10, .inl (upd (upd (upd (upd (upd (upd (upd (upd (fun _ => 0) 0 0) 1 1) 2 2) 3 3) 4 4) 5 5) 6 6) 7 7)))), (a2, .inl (G.2.2.1, (10, .inl (upd (upd (upd (upd (upd (upd (upd (fun _ => 0) 0 1) 1 4) 2 7) 3 2) 4 5) 5 0) 6 3)))), (a3, .inl (G.2.2.1, (10, .inl (upd (upd (upd (upd (upd (upd (upd (fun _ => 0) 0 0) 1 0) 2 1) 3 1) 4 2) 5 2) 6 3))))]) F dX1_init_45 1 rfl (by unfold vp_in; decide) rfl ?_
  refine gc_aloadn (pc := 46) F dX1_init_46 1 rfl ?_
  refine gc_get (pc := 47) (ci := 1) (C := RX1) (T := TX1) (N := 3) F dX1_init_47 0 rfl rfl ib1 1 (by decide) fl_X1_15 rfl ?_
  refine gc_iloadn (pc := 50) F dX1_init_50 0 rfl ?_
  refine gc_iconst (pc := 51) 3 F dX1_init_51 (by decide) ?_
  refine gc_iloadn (pc := 52) F dX1_init_52 0 rfl ?_
  refine gc_imul (pc := 53) F dX1_init_53 ?_
  refine gc_norm 21 (by decide) ?_
  refine gc_iconst (pc := 54) 1 F dX1_init_54 (by decide) ?_
  refine gc_iadd (pc := 55) F dX1_init_55 ?_
  refine gc_norm 22 (by decide) ?_
  refine gc_bipush (pc := 56) 8 F dX1_init_56 (by decide) ?_
  refine gc_irem (pc := 58) F dX1_init_58 (by decide) ?_
  refine gc_norm 6 (by decide) ?_
  refine gc_iast (pc := 59) ([(h0, .inr (1, [.ref a1, .ref a2, .ref a3])), (a1, .inl (G.2.2.1, (10, .inl (upd (upd (upd (upd (upd (upd (upd (upd (fun _ => 0) 0 0) 1 1) 2 2) 3 3) 4 4) 5 5) 6 6) 7 7)))), (a2, .inl (G.2.2.1, (10, .inl (upd (upd (upd (upd (upd (upd (upd (upd (fun _ => 0) 0 1) 1 4) 2 7) 3 2) 4 5) 5 0) 6 3) 7 6)))), (a3, .inl (G.2.2.1, (10, .inl (upd (upd (upd (upd (upd (upd (upd (fun _ => 0) 0 0) 1 0) 2 1) 3 1) 4 2) 5 2) 6 3))))]) F dX1_init_59 2 rfl (by unfold vp_in; decide) rfl ?_
  refine gc_aloadn (pc := 60) F dX1_init_60 1 rfl ?_
  refine gc_get (pc := 61) (ci := 1) (C := RX1) (T := TX1) (N := 3) F dX1_init_61 0 rfl rfl ib1 2 (by decide) fl_X1_18 rfl ?_
  refine gc_iloadn (pc := 64) F dX1_init_64 0 rfl ?_
  refine gc_iloadn (pc := 65) F dX1_init_65 0 rfl ?_
  refine gc_iconst (pc := 66) 2 F dX1_init_66 (by decide) ?_
  refine gc_idiv (pc := 67) F dX1_init_67 (by decide) ?_
  refine gc_norm 3 (by decide) ?_
  refine gc_iast (pc := 68) ([(h0, .inr (1, [.ref a1, .ref a2, .ref a3])), (a1, .inl (G.2.2.1, (10, .inl (upd (upd (upd (upd (upd (upd (upd (upd (fun _ => 0) 0 0) 1 1) 2 2) 3 3) 4 4) 5 5) 6 6) 7 7)))), (a2, .inl (G.2.2.1, (10, .inl (upd (upd (upd (upd (upd (upd (upd (upd (fun _ => 0) 0 1) 1 4) 2 7) 3 2) 4 5) 5 0) 6 3) 7 6)))), (a3, .inl (G.2.2.1, (10, .inl (upd (upd (upd (upd (upd (upd (upd (upd (fun _ => 0) 0 0) 1 0) 2 1) 3 1) 4 2) 5 2) 6 3) 7 3))))]) F dX1_init_68 3 rfl (by unfold vp_in; decide) rfl ?_
  refine gc_iinc (pc := 69) 8 (lv' := [(1, .int 8), (0, .ref h0)]) F dX1_init_69 (k := 0) rfl (by decide) (by decide) rfl ?_
  refine gc_goto (pc := 72) 30 F dX1_init_72 (by decide) ?_
  refine gc_iloadn (pc := 30) F dX1_init_30 0 rfl ?_
  refine gc_bipush (pc := 31) 10 F dX1_init_31 (by decide) ?_
  refine gc_icmp_geF (pc := 33) 75 F dX1_init_33 (by decide) (by decide) ?_
  refine gc_aloadn (pc := 36) F dX1_init_36 1 rfl ?_
  refine gc_get (pc := 37) (ci := 1) (C := RX1) (T := TX1) (N := 3) F dX1_init_37 0 rfl rfl ib1 0 (by decide) fl_X1_9 rfl ?_
  refine gc_iloadn (pc := 40) F dX1_init_40 0 rfl ?_
  refine gc_iloadn (pc := 41) F dX1_init_41 0 rfl ?_
  refine gc_bipush (pc := 42) 8 F dX1_init_42 (by decide) ?_
  refine gc_irem (pc := 44) F dX1_init_44 (by decide) ?_
  refine gc_norm 0 (by decide) ?_
  refine gc_iast (pc := 45) ([(h0, .inr (1, [.ref a1, .ref a2, .ref a3])), (a1, .inl (G.2.2.1, (10, .inl (upd (upd (upd (upd (upd (upd (upd (upd (upd (fun _ => 0) 0 0) 1 1) 2 2) 3 3) 4 4) 5 5) 6 6) 7 7) 8 0)))), (a2, .inl (G.2.2.1, (10, .inl (upd (upd (upd (upd (upd (upd (upd (upd (fun _ => 0) 0 1) 1 4) 2 7) 3 2) 4 5) 5 0) 6 3) 7 6)))), (a3, .inl (G.2.2.1, (10, .inl (upd (upd (upd (upd (upd (upd (upd (upd (fun _ => 0) 0 0) 1 0) 2 1) 3 1) 4 2) 5 2) 6 3) 7 3))))]) F dX1_init_45 1 rfl (by unfold vp_in; decide) rfl ?_
  refine gc_aloadn (pc := 46) F dX1_init_46 1 rfl ?_
  refine gc_get (pc := 47) (ci := 1) (C := RX1) (T := TX1) (N := 3) F dX1_init_47 0 rfl rfl ib1 1 (by decide) fl_X1_15 rfl ?_
  refine gc_iloadn (pc := 50) F dX1_init_50 0 rfl ?_
  refine gc_iconst (pc := 51) 3 F dX1_init_51 (by decide) ?_
  refine gc_iloadn (pc := 52) F dX1_init_52 0 rfl ?_
  refine gc_imul (pc := 53) F dX1_init_53 ?_
  refine gc_norm 24 (by decide) ?_
  refine gc_iconst (pc := 54) 1 F dX1_init_54 (by decide) ?_
  refine gc_iadd (pc := 55) F dX1_init_55 ?_
  refine gc_norm 25 (by decide) ?_
  refine gc_bipush (pc := 56) 8 F dX1_init_56 (by decide) ?_
  refine gc_irem (pc := 58) F dX1_init_58 (by decide) ?_
  refine gc_norm 1 (by decide) ?_
  refine gc_iast (pc := 59) ([(h0, .inr (1, [.ref a1, .ref a2, .ref a3])), (a1, .inl (G.2.2.1, (10, .inl (upd (upd (upd (upd (upd (upd (upd (upd (upd (fun _ => 0) 0 0) 1 1) 2 2) 3 3) 4 4) 5 5) 6 6) 7 7) 8 0)))), (a2, .inl (G.2.2.1, (10, .inl (upd (upd (upd (upd (upd (upd (upd (upd (upd (fun _ => 0) 0 1) 1 4) 2 7) 3 2) 4 5) 5 0) 6 3) 7 6) 8 1)))), (a3, .inl (G.2.2.1, (10, .inl (upd (upd (upd (upd (upd (upd (upd (upd (fun _ => 0) 0 0) 1 0) 2 1) 3 1) 4 2) 5 2) 6 3) 7 3))))]) F dX1_init_59 2 rfl (by unfold vp_in; decide) rfl ?_
  refine gc_aloadn (pc := 60) F dX1_init_60 1 rfl ?_
  refine gc_get (pc := 61) (ci := 1) (C := RX1) (T := TX1) (N := 3) F dX1_init_61 0 rfl rfl ib1 2 (by decide) fl_X1_18 rfl ?_
  refine gc_iloadn (pc := 64) F dX1_init_64 0 rfl ?_
  refine gc_iloadn (pc := 65) F dX1_init_65 0 rfl ?_
  refine gc_iconst (pc := 66) 2 F dX1_init_66 (by decide) ?_
  refine gc_idiv (pc := 67) F dX1_init_67 (by decide) ?_
  refine gc_norm 4 (by decide) ?_
  refine gc_iast (pc := 68) ([(h0, .inr (1, [.ref a1, .ref a2, .ref a3])), (a1, .inl (G.2.2.1, (10, .inl (upd (upd (upd (upd (upd (upd (upd (upd (upd (fun _ => 0) 0 0) 1 1) 2 2) 3 3) 4 4) 5 5) 6 6) 7 7) 8 0)))), (a2, .inl (G.2.2.1, (10, .inl (upd (upd (upd (upd (upd (upd (upd (upd (upd (fun _ => 0) 0 1) 1 4) 2 7) 3 2) 4 5) 5 0) 6 3) 7 6) 8 1)))), (a3, .inl (G.2.2.1, (10, .inl (upd (upd (upd (upd (upd (upd (upd (upd (upd (fun _ => 0) 0 0) 1 0) 2 1) 3 1) 4 2) 5 2) 6 3) 7 3) 8 4))))]) F dX1_init_68 3 rfl (by unfold vp_in; decide) rfl ?_
  refine gc_iinc (pc := 69) 9 (lv' := [(1, .int 9), (0, .ref h0)]) F dX1_init_69 (k := 0) rfl (by decide) (by decide) rfl ?_
  refine gc_goto (pc := 72) 30 F dX1_init_72 (by decide) ?_
  refine gc_iloadn (pc := 30) F dX1_init_30 0 rfl ?_
  refine gc_bipush (pc := 31) 10 F dX1_init_31 (by decide) ?_
  refine gc_icmp_geF (pc := 33) 75 F dX1_init_33 (by decide) (by decide) ?_
  refine gc_aloadn (pc := 36) F dX1_init_36 1 rfl ?_
  refine gc_get (pc := 37) (ci := 1) (C := RX1) (T := TX1) (N := 3) F dX1_init_37 0 rfl rfl ib1 0 (by decide) fl_X1_9 rfl ?_
  refine gc_iloadn (pc := 40) F dX1_init_40 0 rfl ?_
  refine gc_iloadn (pc := 41) F dX1_init_41 0 rfl ?_
  refine gc_bipush (pc := 42) 8 F dX1_init_42 (by decide) ?_
  refine gc_irem (pc := 44) F dX1_init_44 (by decide) ?_
  refine gc_norm 1 (by decide) ?_
  refine gc_iast (pc := 45) ([(h0, .inr (1, [.ref a1, .ref a2, .ref a3])), (a1, .inl (G.2.2.1, (10, .inl (upd (upd (upd (upd (upd (upd (upd (upd (upd (upd (fun _ => 0) 0 0) 1 1) 2 2) 3 3) 4 4) 5 5) 6 6) 7 7) 8 0) 9 1)))), (a2, .inl (G.2.2.1, (10, .inl (upd (upd (upd (upd (upd (upd (upd (upd (upd (fun _ => 0) 0 1) 1 4) 2 7) 3 2) 4 5) 5 0) 6 3) 7 6) 8 1)))), (a3, .inl (G.2.2.1, (10, .inl (upd (upd (upd (upd (upd (upd (upd (upd (upd (fun _ => 0) 0 0) 1 0) 2 1) 3 1) 4 2) 5 2) 6 3) 7 3) 8 4))))]) F dX1_init_45 1 rfl (by unfold vp_in; decide) rfl ?_
  refine gc_aloadn (pc := 46) F dX1_init_46 1 rfl ?_
  refine gc_get (pc := 47) (ci := 1) (C := RX1) (T := TX1) (N := 3) F dX1_init_47 0 rfl rfl ib1 1 (by decide) fl_X1_15 rfl ?_
  refine gc_iloadn (pc := 50) F dX1_init_50 0 rfl ?_
  refine gc_iconst (pc := 51) 3 F dX1_init_51 (by decide) ?_
  refine gc_iloadn (pc := 52) F dX1_init_52 0 rfl ?_
  refine gc_imul (pc := 53) F dX1_init_53 ?_
  refine gc_norm 27 (by decide) ?_
  refine gc_iconst (pc := 54) 1 F dX1_init_54 (by decide) ?_
  refine gc_iadd (pc := 55) F dX1_init_55 ?_
  refine gc_norm 28 (by decide) ?_
  refine gc_bipush (pc := 56) 8 F dX1_init_56 (by decide) ?_
  refine gc_irem (pc := 58) F dX1_init_58 (by decide) ?_
  refine gc_norm 4 (by decide) ?_
  refine gc_iast (pc := 59) ([(h0, .inr (1, [.ref a1, .ref a2, .ref a3])), (a1, .inl (G.2.2.1, (10, .inl (upd (upd (upd (upd (upd (upd (upd (upd (upd (upd (fun _ => 0) 0 0) 1 1) 2 2) 3 3) 4 4) 5 5) 6 6) 7 7) 8 0) 9 1)))), (a2, .inl (G.2.2.1, (10, .inl (upd (upd (upd (upd (upd (upd (upd (upd (upd (upd (fun _ => 0) 0 1) 1 4) 2 7) 3 2) 4 5) 5 0) 6 3) 7 6) 8 1) 9 4)))), (a3, .inl (G.2.2.1, (10, .inl (upd (upd (upd (upd (upd (upd (upd (upd (upd (fun _ => 0) 0 0) 1 0) 2 1) 3 1) 4 2) 5 2) 6 3) 7 3) 8 4))))]) F dX1_init_59 2 rfl (by unfold vp_in; decide) rfl ?_
  refine gc_aloadn (pc := 60) F dX1_init_60 1 rfl ?_
  refine gc_get (pc := 61) (ci := 1) (C := RX1) (T := TX1) (N := 3) F dX1_init_61 0 rfl rfl ib1 2 (by decide) fl_X1_18 rfl ?_
  refine gc_iloadn (pc := 64) F dX1_init_64 0 rfl ?_
  refine gc_iloadn (pc := 65) F dX1_init_65 0 rfl ?_
  refine gc_iconst (pc := 66) 2 F dX1_init_66 (by decide) ?_
  refine gc_idiv (pc := 67) F dX1_init_67 (by decide) ?_
  refine gc_norm 4 (by decide) ?_
  refine gc_iast (pc := 68) ([(h0, .inr (1, [.ref a1, .ref a2, .ref a3])), (a1, .inl (G.2.2.1, (10, .inl (upd (upd (upd (upd (upd (upd (upd (upd (upd (upd (fun _ => 0) 0 0) 1 1) 2 2) 3 3) 4 4) 5 5) 6 6) 7 7) 8 0) 9 1)))), (a2, .inl (G.2.2.1, (10, .inl (upd (upd (upd (upd (upd (upd (upd (upd (upd (upd (fun _ => 0) 0 1) 1 4) 2 7) 3 2) 4 5) 5 0) 6 3) 7 6) 8 1) 9 4)))), (a3, .inl (G.2.2.1, (10, .inl (upd (upd (upd (upd (upd (upd (upd (upd (upd (upd (fun _ => 0) 0 0) 1 0) 2 1) 3 1) 4 2) 5 2) 6 3) 7 3) 8 4) 9 4))))]) F dX1_init_68 3 rfl (by unfold vp_in; decide) rfl ?_
  refine gc_iinc (pc := 69) 10 (lv' := [(1, .int 10), (0, .ref h0)]) F dX1_init_69 (k := 0) rfl (by decide) (by decide) rfl ?_
  refine gc_goto (pc := 72) 30 F dX1_init_72 (by decide) ?_
  refine gc_iloadn (pc := 30) F dX1_init_30 0 rfl ?_
  refine gc_bipush (pc := 31) 10 F dX1_init_31 (by decide) ?_
  refine gc_icmp_ge (pc := 33) 75 F dX1_init_33 (by decide) (by decide) ?_
  obtain ⟨qq, hqq⟩ : ∃ f : Nat → Nat, f = (fun j => match j with | 0 => a1 | 1 => a2 | 2 => a3 | _ => 0) := ⟨_, rfl⟩
  refine gc_ret (pc := 75) qq F hi dX1_init_75 ?_
  subst hqq
  rfl
def w1_X3 (G : Gm) (h0 : Nat) (q : Nat → Nat) : va_W := [(h0, .inr (3, [.ref (q 0), .ref (q 1)])), ((q 0), .inl (G.2.2.1, (20, .inl (fun _ => 0)))), ((q 1), .inl (G.2.2.1, (5, .inl (fun _ => 0))))]
set_option maxRecDepth 100000 in
set_option maxHeartbeats 4000000 in
theorem cc_X3 (l : Launch) (G : Gm) (h0 : Nat) : Cc l G yX3_init cX3_init 1 1 14 2 25 [.ref h0] [(h0, .inr (3, [.null, .null]))] (w1_X3 G h0) := by
  refine Cc.of (own := RX3) (by decide +kernel) rfl rfl (Nat.le_of_ble_eq_true rfl) (fun E F hi he => ?_)
  clear he
  refine gc_sub (lv' := [(0, .ref h0)]) [0] rfl ?_
  refine gc_aloadn (pc := 0) F dX3_init_0 0 rfl ?_
  refine gc_obj (pc := 1) F dX3_init_1 ml_X3_3 (by decide) (Nat.le_of_ble_eq_true rfl) ?_
  refine gc_aloadn (pc := 4) F dX3_init_4 0 rfl ?_
  refine gc_bipush (pc := 5) 20 F dX3_init_5 (by decide) ?_
  refine gc_newi (pc := 7) (kc := 0) (ks := 0) 20 F dX3_init_7 (by decide) (by decide) (Nat.le_of_ble_eq_true rfl) (by decide) (by decide) (fun a1 => ?_)
  refine gc_putF (pc := 9) (ci := 3) (C := RX3) (T := TX3) (N := 2) (ty := (.array .int)) ([(h0, .inr (3, [.ref a1, .null])), (a1, .inl (G.2.2.1, (20, .inl (fun _ => 0))))]) F hi dX3_init_9 0 rfl rfl ib3 tyX3 tyX3_ok nmX3 0 (by decide) fl_X3_9 rfl rfl (by decide +kernel) rfl rfl (Nat.le_of_ble_eq_true rfl) rfl ?_
  refine gc_aloadn (pc := 12) F dX3_init_12 0 rfl ?_
  refine gc_iconst (pc := 13) 5 F dX3_init_13 (by decide) ?_
  refine gc_newi (pc := 14) (kc := 1) (ks := 20) 5 F dX3_init_14 (by decide) (by decide) (Nat.le_of_ble_eq_true rfl) (by decide) (by decide) (fun a2 => ?_)
  refine gc_putF (pc := 16) (ci := 3) (C := RX3) (T := TX3) (N := 2) (ty := (.array .int)) ([(h0, .inr (3, [.ref a1, .ref a2])), (a1, .inl (G.2.2.1, (20, .inl (fun _ => 0)))), (a2, .inl (G.2.2.1, (5, .inl (fun _ => 0))))]) F hi dX3_init_16 0 rfl rfl ib3 tyX3 tyX3_ok nmX3 1 (by decide) fl_X3_15 rfl rfl (by decide +kernel) rfl rfl (Nat.le_of_ble_eq_true rfl) rfl ?_
  obtain ⟨qq, hqq⟩ : ∃ f : Nat → Nat, f = (fun j => match j with | 0 => a1 | 1 => a2 | _ => 0) := ⟨_, rfl⟩
  refine gc_ret (pc := 19) qq F hi dX3_init_19 ?_
  subst hqq
  rfl
def w1_X4 (G : Gm) (h0 : Nat) (q : Nat → Nat) : va_W := [(h0, .inr (4, [.ref (q 0), .ref (q 1), .int 0, .int 0])), ((q 0), .inl (G.2.2.1, (40, .inl (fun _ => 0)))), ((q 1), .inl (G.2.2.1, (8, .inl (fun _ => 0))))]
set_option maxRecDepth 100000 in
set_option maxHeartbeats 4000000 in
theorem cc_X4 (l : Launch) (G : Gm) (h0 : Nat) : Cc l G yX4_init cX4_init 1 1 14 2 48 [.ref h0] [(h0, .inr (4, [.null, .null, .int 0, .int 0]))] (w1_X4 G h0) := by
  refine Cc.of (own := RX4) (by decide +kernel) rfl rfl (Nat.le_of_ble_eq_true rfl) (fun E F hi he => ?_)
  clear he
  refine gc_sub (lv' := [(0, .ref h0)]) [0] rfl ?_
  refine gc_aloadn (pc := 0) F dX4_init_0 0 rfl ?_
  refine gc_obj (pc := 1) F dX4_init_1 ml_X4_3 (by decide) (Nat.le_of_ble_eq_true rfl) ?_
  refine gc_aloadn (pc := 4) F dX4_init_4 0 rfl ?_
  refine gc_bipush (pc := 5) 40 F dX4_init_5 (by decide) ?_
  refine gc_newi (pc := 7) (kc := 0) (ks := 0) 40 F dX4_init_7 (by decide) (by decide) (Nat.le_of_ble_eq_true rfl) (by decide) (by decide) (fun a1 => ?_)
  refine gc_putF (pc := 9) (ci := 4) (C := RX4) (T := TX4) (N := 4) (ty := (.array .int)) ([(h0, .inr (4, [.ref a1, .null, .int 0, .int 0])), (a1, .inl (G.2.2.1, (40, .inl (fun _ => 0))))]) F hi dX4_init_9 0 rfl rfl ib4 tyX4 tyX4_ok nmX4 0 (by decide) fl_X4_9 rfl rfl (by decide +kernel) rfl rfl (Nat.le_of_ble_eq_true rfl) rfl ?_
  refine gc_aloadn (pc := 12) F dX4_init_12 0 rfl ?_
  refine gc_bipush (pc := 13) 8 F dX4_init_13 (by decide) ?_
  refine gc_newi (pc := 15) (kc := 1) (ks := 40) 8 F dX4_init_15 (by decide) (by decide) (Nat.le_of_ble_eq_true rfl) (by decide) (by decide) (fun a2 => ?_)
  refine gc_putF (pc := 17) (ci := 4) (C := RX4) (T := TX4) (N := 4) (ty := (.array .int)) ([(h0, .inr (4, [.ref a1, .ref a2, .int 0, .int 0])), (a1, .inl (G.2.2.1, (40, .inl (fun _ => 0)))), (a2, .inl (G.2.2.1, (8, .inl (fun _ => 0))))]) F hi dX4_init_17 0 rfl rfl ib4 tyX4 tyX4_ok nmX4 1 (by decide) fl_X4_15 rfl rfl (by decide +kernel) rfl rfl (Nat.le_of_ble_eq_true rfl) rfl ?_
  refine gc_aloadn (pc := 20) F dX4_init_20 0 rfl ?_
  refine gc_iconst (pc := 21) 0 F dX4_init_21 (by decide) ?_
  refine gc_put (pc := 22) (ci := 4) (C := RX4) (T := TX4) (N := 4) (ty := .int) ([(h0, .inr (4, [.ref a1, .ref a2, .int 0, .int 0])), (a1, .inl (G.2.2.1, (40, .inl (fun _ => 0)))), (a2, .inl (G.2.2.1, (8, .inl (fun _ => 0))))]) F dX4_init_22 0 rfl rfl ib4 tyX4 tyX4_ok nmX4 2 (by decide) fl_X4_18 rfl (by decide +kernel) rfl rfl (Nat.le_of_ble_eq_true rfl) rfl ?_
  refine gc_aloadn (pc := 25) F dX4_init_25 0 rfl ?_
  refine gc_iconst (pc := 26) 0 F dX4_init_26 (by decide) ?_
  refine gc_put (pc := 27) (ci := 4) (C := RX4) (T := TX4) (N := 4) (ty := .int) ([(h0, .inr (4, [.ref a1, .ref a2, .int 0, .int 0])), (a1, .inl (G.2.2.1, (40, .inl (fun _ => 0)))), (a2, .inl (G.2.2.1, (8, .inl (fun _ => 0))))]) F dX4_init_27 0 rfl rfl ib4 tyX4 tyX4_ok nmX4 3 (by decide) fl_X4_22 rfl (by decide +kernel) rfl rfl (Nat.le_of_ble_eq_true rfl) rfl ?_
  obtain ⟨qq, hqq⟩ : ∃ f : Nat → Nat, f = (fun j => match j with | 0 => a1 | 1 => a2 | _ => 0) := ⟨_, rfl⟩
  refine gc_ret (pc := 30) qq F hi dX4_init_30 ?_
  subst hqq
  rfl
def w1_X6 (G : Gm) (h0 : Nat) (q : Nat → Nat) : va_W := [(h0, .inr (6, [.ref (q 0), .ref (q 4), .ref (q 7), .ref (q 10), .int 1, .int 5, .int 0, .int 0, .int 0]))] ++ w1_X1 G (q 0) (fun j => q (1 + j)) ++ w1_X3 G (q 4) (fun j => q (5 + j)) ++ w1_X0 G (q 7) (fun j => q (8 + j)) ++ w1_X4 G (q 10) (fun j => q (11 + j))
set_option maxRecDepth 100000 in
set_option maxHeartbeats 4000000 in
theorem cc_X6 (l : Launch) (G : Gm) (h0 : Nat) : Cc l G yX6_init cX6_init 1 2 35 13 139 [.ref h0] [(h0, .inr (6, [.null, .null, .null, .null, .int 0, .int 0, .int 0, .int 0, .int 0]))] (w1_X6 G h0) := by
  refine Cc.of (own := RX6) (by decide +kernel) rfl rfl (Nat.le_of_ble_eq_true rfl) (fun E F hi he => ?_)
  clear he
  refine gc_sub (lv' := [(0, .ref h0)]) [0] rfl ?_
  refine gc_aloadn (pc := 0) F dX6_init_0 0 rfl ?_
  refine gc_obj (pc := 1) F dX6_init_1 ml_X6_3 (by decide) (Nat.le_of_ble_eq_true rfl) ?_
  refine gc_aloadn (pc := 4) F dX6_init_4 0 rfl ?_
  refine gc_new (pc := 5) (kc := 0) (ks := 0) (ci := 1) (C := RX1) (T := TX1) (N := 3) (fs := [.null, .null, .null]) F dX6_init_5 rfl ib1 tyX1 tyX1_ok cl_X6_9 ib_X1 in_X1 (fun j hj => by rcases (show j = 0 ∨ j = 1 ∨ j = 2 by omega) with rfl | rfl | rfl <;> rfl) (by decide) (by decide) (fun a1 => ?_)
  refine gc_dup (pc := 8) F dX6_init_8 rfl ?_
  refine gc_callI (pc := 9) (kc := 1) (ks := 3) (mc := 3) (ms := 30) (y := yX1_init) (As := []) (wr := [(h0, .inr (6, [.null, .null, .null, .null, .int 0, .int 0, .int 0, .int 0, .int 0]))]) (st := [.ref a1, .ref h0]) F dX6_init_9 ml_X6_11 cw_X1_init im_X1_init in_X1 rfl ⟨by decide +kernel, by decide +kernel, (by decide +kernel : (parseMethodDescriptor yX1_init.desc).map (fun d => d.parameters.length) = some 0)⟩ (cc_X1 (enL E) G a1) (by decide) (by decide) (by decide) (by decide) (Nat.le_of_ble_eq_true rfl) rfl (fun q2 => ?_)
  refine gc_putF (pc := 12) (ci := 6) (C := RX6) (T := TX6) (N := 9) (ty := (.object "MastFlags$FlagLocker")) ([(h0, .inr (6, [.ref a1, .null, .null, .null, .int 0, .int 0, .int 0, .int 0, .int 0]))] ++ w1_X1 G a1 q2) F hi dX6_init_12 0 rfl rfl ib6 tyX6 tyX6_ok nmX6 0 (by decide) fl_X6_12 rfl rfl (by decide +kernel) rfl rfl (Nat.le_of_ble_eq_true rfl) rfl ?_
  refine gc_aloadn (pc := 15) F dX6_init_15 0 rfl ?_
  refine gc_new (pc := 16) (kc := 4) (ks := 33) (ci := 3) (C := RX3) (T := TX3) (N := 2) (fs := [.null, .null]) F dX6_init_16 rfl ib3 tyX3 tyX3_ok cl_X6_18 ib_X3 in_X3 (fun j hj => by rcases (show j = 0 ∨ j = 1 by omega) with rfl | rfl <;> rfl) (by decide) (by decide) (fun a3 => ?_)
  refine gc_dup (pc := 19) F dX6_init_19 rfl ?_
  refine gc_callIN (pc := 20) (kc := 5) (ks := 35) (mc := 2) (ms := 25) (y := yX3_init) (As := []) (wr := [(h0, .inr (6, [.ref a1, .null, .null, .null, .int 0, .int 0, .int 0, .int 0, .int 0]))] ++ w1_X1 G a1 q2) (st := [.ref a3, .ref h0]) F dX6_init_20 nwi0 cw_X3_init im_X3_init in_X3 rfl ⟨by decide +kernel, by decide +kernel, (by decide +kernel : (parseMethodDescriptor yX3_init.desc).map (fun d => d.parameters.length) = some 0)⟩ (cc_X3 (enL E) G a3) (by decide) (by decide) (by decide) (by decide) (Nat.le_of_ble_eq_true rfl) rfl (fun q4 => ?_)
  refine gc_putF (pc := 23) (ci := 6) (C := RX6) (T := TX6) (N := 9) (ty := (.object "MastFlags$Hoists")) ([(h0, .inr (6, [.ref a1, .ref a3, .null, .null, .int 0, .int 0, .int 0, .int 0, .int 0]))] ++ w1_X1 G a1 q2 ++ w1_X3 G a3 q4) F hi dX6_init_23 0 rfl rfl ib6 tyX6 tyX6_ok nmX6 1 (by decide) fl_X6_21 rfl rfl (by decide +kernel) rfl rfl (Nat.le_of_ble_eq_true rfl) rfl ?_
  refine gc_aloadn (pc := 26) F dX6_init_26 0 rfl ?_
  refine gc_new (pc := 27) (kc := 7) (ks := 60) (ci := 0) (C := RX0) (T := TX0) (N := 3) (fs := [.null, .null, .int 0]) F dX6_init_27 rfl ib0 tyX0 tyX0_ok cl_X6_25 ib_X0 in_X0 (fun j hj => by rcases (show j = 0 ∨ j = 1 ∨ j = 2 by omega) with rfl | rfl | rfl <;> rfl) (by decide) (by decide) (fun a5 => ?_)
  refine gc_dup (pc := 30) F dX6_init_30 rfl ?_
  refine gc_callIN (pc := 31) (kc := 8) (ks := 63) (mc := 2) (ms := 24) (y := yX0_init) (As := []) (wr := [(h0, .inr (6, [.ref a1, .ref a3, .null, .null, .int 0, .int 0, .int 0, .int 0, .int 0]))] ++ w1_X1 G a1 q2 ++ w1_X3 G a3 q4) (st := [.ref a5, .ref h0]) F dX6_init_31 nwi1 cw_X0_init im_X0_init in_X0 rfl ⟨by decide +kernel, by decide +kernel, (by decide +kernel : (parseMethodDescriptor yX0_init.desc).map (fun d => d.parameters.length) = some 0)⟩ (cc_X0 (enL E) G a5) (by decide) (by decide) (by decide) (by decide) (Nat.le_of_ble_eq_true rfl) rfl (fun q6 => ?_)
  refine gc_putF (pc := 34) (ci := 6) (C := RX6) (T := TX6) (N := 9) (ty := (.object "MastFlags$Book")) ([(h0, .inr (6, [.ref a1, .ref a3, .ref a5, .null, .int 0, .int 0, .int 0, .int 0, .int 0]))] ++ w1_X1 G a1 q2 ++ w1_X3 G a3 q4 ++ w1_X0 G a5 q6) F hi dX6_init_34 0 rfl rfl ib6 tyX6 tyX6_ok nmX6 2 (by decide) fl_X6_28 rfl rfl (by decide +kernel) rfl rfl (Nat.le_of_ble_eq_true rfl) rfl ?_
  refine gc_aloadn (pc := 37) F dX6_init_37 0 rfl ?_
  refine gc_new (pc := 38) (kc := 10) (ks := 87) (ci := 4) (C := RX4) (T := TX4) (N := 4) (fs := [.null, .null, .int 0, .int 0]) F dX6_init_38 rfl ib4 tyX4 tyX4_ok cl_X6_32 ib_X4 in_X4 (fun j hj => by rcases (show j = 0 ∨ j = 1 ∨ j = 2 ∨ j = 3 by omega) with rfl | rfl | rfl | rfl <;> rfl) (by decide) (by decide) (fun a7 => ?_)
  refine gc_dup (pc := 41) F dX6_init_41 rfl ?_
  refine gc_callIN (pc := 42) (kc := 11) (ks := 91) (mc := 2) (ms := 48) (y := yX4_init) (As := []) (wr := [(h0, .inr (6, [.ref a1, .ref a3, .ref a5, .null, .int 0, .int 0, .int 0, .int 0, .int 0]))] ++ w1_X1 G a1 q2 ++ w1_X3 G a3 q4 ++ w1_X0 G a5 q6) (st := [.ref a7, .ref h0]) F dX6_init_42 nwi2 cw_X4_init im_X4_init in_X4 rfl ⟨by decide +kernel, by decide +kernel, (by decide +kernel : (parseMethodDescriptor yX4_init.desc).map (fun d => d.parameters.length) = some 0)⟩ (cc_X4 (enL E) G a7) (by decide) (by decide) (by decide) (by decide) (Nat.le_of_ble_eq_true rfl) rfl (fun q8 => ?_)
  refine gc_putF (pc := 45) (ci := 6) (C := RX6) (T := TX6) (N := 9) (ty := (.object "MastFlags$MessageLog")) ([(h0, .inr (6, [.ref a1, .ref a3, .ref a5, .ref a7, .int 0, .int 0, .int 0, .int 0, .int 0]))] ++ w1_X1 G a1 q2 ++ w1_X3 G a3 q4 ++ w1_X0 G a5 q6 ++ w1_X4 G a7 q8) F hi dX6_init_45 0 rfl rfl ib6 tyX6 tyX6_ok nmX6 3 (by decide) fl_X6_35 rfl rfl (by decide +kernel) rfl rfl (Nat.le_of_ble_eq_true rfl) rfl ?_
  refine gc_aloadn (pc := 48) F dX6_init_48 0 rfl ?_
  refine gc_iconst (pc := 49) 1 F dX6_init_49 (by decide) ?_
  refine gc_put (pc := 50) (ci := 6) (C := RX6) (T := TX6) (N := 9) (ty := .int) ([(h0, .inr (6, [.ref a1, .ref a3, .ref a5, .ref a7, .int 1, .int 0, .int 0, .int 0, .int 0]))] ++ w1_X1 G a1 q2 ++ w1_X3 G a3 q4 ++ w1_X0 G a5 q6 ++ w1_X4 G a7 q8) F dX6_init_50 0 rfl rfl ib6 tyX6 tyX6_ok nmX6 4 (by decide) fl_X6_39 rfl (by decide +kernel) rfl rfl (Nat.le_of_ble_eq_true rfl) rfl ?_
  refine gc_aloadn (pc := 53) F dX6_init_53 0 rfl ?_
  refine gc_iconst (pc := 54) 5 F dX6_init_54 (by decide) ?_
  refine gc_put (pc := 55) (ci := 6) (C := RX6) (T := TX6) (N := 9) (ty := .int) ([(h0, .inr (6, [.ref a1, .ref a3, .ref a5, .ref a7, .int 1, .int 5, .int 0, .int 0, .int 0]))] ++ w1_X1 G a1 q2 ++ w1_X3 G a3 q4 ++ w1_X0 G a5 q6 ++ w1_X4 G a7 q8) F dX6_init_55 0 rfl rfl ib6 tyX6 tyX6_ok nmX6 5 (by decide) fl_X6_43 rfl (by decide +kernel) rfl rfl (Nat.le_of_ble_eq_true rfl) rfl ?_
  refine gc_aloadn (pc := 58) F dX6_init_58 0 rfl ?_
  refine gc_iconst (pc := 59) 0 F dX6_init_59 (by decide) ?_
  refine gc_put (pc := 60) (ci := 6) (C := RX6) (T := TX6) (N := 9) (ty := .int) ([(h0, .inr (6, [.ref a1, .ref a3, .ref a5, .ref a7, .int 1, .int 5, .int 0, .int 0, .int 0]))] ++ w1_X1 G a1 q2 ++ w1_X3 G a3 q4 ++ w1_X0 G a5 q6 ++ w1_X4 G a7 q8) F dX6_init_60 0 rfl rfl ib6 tyX6 tyX6_ok nmX6 6 (by decide) fl_X6_46 rfl (by decide +kernel) rfl rfl (Nat.le_of_ble_eq_true rfl) rfl ?_
  refine gc_aloadn (pc := 63) F dX6_init_63 0 rfl ?_
  refine gc_iconst (pc := 64) 0 F dX6_init_64 (by decide) ?_
  refine gc_put (pc := 65) (ci := 6) (C := RX6) (T := TX6) (N := 9) (ty := .int) ([(h0, .inr (6, [.ref a1, .ref a3, .ref a5, .ref a7, .int 1, .int 5, .int 0, .int 0, .int 0]))] ++ w1_X1 G a1 q2 ++ w1_X3 G a3 q4 ++ w1_X0 G a5 q6 ++ w1_X4 G a7 q8) F dX6_init_65 0 rfl rfl ib6 tyX6 tyX6_ok nmX6 7 (by decide) fl_X6_49 rfl (by decide +kernel) rfl rfl (Nat.le_of_ble_eq_true rfl) rfl ?_
  refine gc_aloadn (pc := 68) F dX6_init_68 0 rfl ?_
  refine gc_iconst (pc := 69) 0 F dX6_init_69 (by decide) ?_
  refine gc_put (pc := 70) (ci := 6) (C := RX6) (T := TX6) (N := 9) (ty := .int) ([(h0, .inr (6, [.ref a1, .ref a3, .ref a5, .ref a7, .int 1, .int 5, .int 0, .int 0, .int 0]))] ++ w1_X1 G a1 q2 ++ w1_X3 G a3 q4 ++ w1_X0 G a5 q6 ++ w1_X4 G a7 q8) F dX6_init_70 0 rfl rfl ib6 tyX6 tyX6_ok nmX6 8 (by decide) fl_X6_52 rfl (by decide +kernel) rfl rfl (Nat.le_of_ble_eq_true rfl) rfl ?_
  obtain ⟨qq, hqq⟩ : ∃ f : Nat → Nat, f = (fun j => match j with | 0 => a1 | 1 => q2 0 | 2 => q2 1 | 3 => q2 2 | 4 => a3 | 5 => q4 0 | 6 => q4 1 | 7 => a5 | 8 => q6 0 | 9 => q6 1 | 10 => a7 | 11 => q8 0 | 12 => q8 1 | _ => 0) := ⟨_, rfl⟩
  refine gc_ret (pc := 73) qq F hi dX6_init_73 ?_
  subst hqq
  rfl
def w1_X2 (G : Gm) (h0 : Nat) (q : Nat → Nat) : va_W := [(h0, .inr (2, [.ref (q 0), .int 0, .int 0])), ((q 0), .inl (G.2.2.2.2, (5, .inr (.inr (.inr (.inr (va_up (va_up (va_up (va_up (va_up (fun _ => none) 0 (some (q 1))) 1 (some (q 15))) 2 (some (q 29))) 3 (some (q 43))) 4 (some (q 57)))))))))] ++ w1_X6 G (q 1) (fun j => q (2 + j)) ++ w1_X6 G (q 15) (fun j => q (16 + j)) ++ w1_X6 G (q 29) (fun j => q (30 + j)) ++ w1_X6 G (q 43) (fun j => q (44 + j)) ++ w1_X6 G (q 57) (fun j => q (58 + j))
set_option maxRecDepth 100000 in
set_option maxHeartbeats 4000000 in
theorem cc_X2 (l : Launch) (G : Gm) (h0 : Nat) : Cc l G yX2_init cX2_init 2 3 55 71 745 [.ref h0] [(h0, .inr (2, [.null, .int 0, .int 0]))] (w1_X2 G h0) := by
  refine Cc.of (own := RX2) (by decide +kernel) rfl rfl (Nat.le_of_ble_eq_true rfl) (fun E F hi he => ?_)
  clear he
  refine gc_sub (lv' := [(0, .ref h0)]) [0] rfl ?_
  refine gc_aloadn (pc := 0) F dX2_init_0 0 rfl ?_
  refine gc_obj (pc := 1) F dX2_init_1 ml_X2_3 (by decide) (Nat.le_of_ble_eq_true rfl) ?_
  refine gc_aloadn (pc := 4) F dX2_init_4 0 rfl ?_
  refine gc_iconst (pc := 5) 5 F dX2_init_5 (by decide) ?_
  refine gc_newq (pc := 6) (kc := 0) (ks := 0) 5 F dX2_init_6 cl_X2_9 (by decide) (by decide) (Nat.le_of_ble_eq_true rfl) (by decide) (by decide) (fun a1 => ?_)
  refine gc_putF (pc := 9) (ci := 2) (C := RX2) (T := TX2) (N := 3) (ty := (.array (.object "MastFlags$State"))) ([(h0, .inr (2, [.ref a1, .int 0, .int 0])), (a1, .inl (G.2.2.2.2, (5, .inr (.inr (.inr (.inr (fun _ => none)))))))]) F hi dX2_init_9 0 rfl rfl ib2 tyX2 tyX2_ok nmX2 0 (by decide) fl_X2_11 rfl rfl (by decide +kernel) rfl rfl (Nat.le_of_ble_eq_true rfl) rfl ?_
  refine gc_aloadn (pc := 12) F dX2_init_12 0 rfl ?_
  refine gc_iconst (pc := 13) 0 F dX2_init_13 (by decide) ?_
  refine gc_put (pc := 14) (ci := 2) (C := RX2) (T := TX2) (N := 3) (ty := .int) ([(h0, .inr (2, [.ref a1, .int 0, .int 0])), (a1, .inl (G.2.2.2.2, (5, .inr (.inr (.inr (.inr (fun _ => none)))))))]) F dX2_init_14 0 rfl rfl ib2 tyX2 tyX2_ok nmX2 1 (by decide) fl_X2_17 rfl (by decide +kernel) rfl rfl (Nat.le_of_ble_eq_true rfl) rfl ?_
  refine gc_aloadn (pc := 17) F dX2_init_17 0 rfl ?_
  refine gc_iconst (pc := 18) 0 F dX2_init_18 (by decide) ?_
  refine gc_put (pc := 19) (ci := 2) (C := RX2) (T := TX2) (N := 3) (ty := .int) ([(h0, .inr (2, [.ref a1, .int 0, .int 0])), (a1, .inl (G.2.2.2.2, (5, .inr (.inr (.inr (.inr (fun _ => none)))))))]) F dX2_init_19 0 rfl rfl ib2 tyX2 tyX2_ok nmX2 2 (by decide) fl_X2_21 rfl (by decide +kernel) rfl rfl (Nat.le_of_ble_eq_true rfl) rfl ?_
  refine gc_iconst (pc := 22) 0 F dX2_init_22 (by decide) ?_
  refine gc_istoren (pc := 23) (lv' := [(1, .int 0), (0, .ref h0)]) F dX2_init_23 (by decide) rfl ?_
  refine gc_iloadn (pc := 24) F dX2_init_24 0 rfl ?_
  refine gc_iconst (pc := 25) 5 F dX2_init_25 (by decide) ?_
  refine gc_icmp_geF (pc := 26) 48 F dX2_init_26 (by decide) (by decide) ?_
  refine gc_aloadn (pc := 29) F dX2_init_29 1 rfl ?_
  refine gc_get (pc := 30) (ci := 2) (C := RX2) (T := TX2) (N := 3) F dX2_init_30 0 rfl rfl ib2 0 (by decide) fl_X2_11 rfl ?_
  refine gc_iloadn (pc := 33) F dX2_init_33 0 rfl ?_
  refine gc_new (pc := 34) (kc := 1) (ks := 5) (ci := 6) (C := RX6) (T := TX6) (N := 9) (fs := [.null, .null, .null, .null, .int 0, .int 0, .int 0, .int 0, .int 0]) F dX2_init_34 rfl ib6 tyX6 tyX6_ok cl_X2_9 ib_X6 in_X6 (fun j hj => by rcases (show j = 0 ∨ j = 1 ∨ j = 2 ∨ j = 3 ∨ j = 4 ∨ j = 5 ∨ j = 6 ∨ j = 7 ∨ j = 8 by omega) with rfl | rfl | rfl | rfl | rfl | rfl | rfl | rfl | rfl <;> rfl) (by decide) (by decide) (fun a2 => ?_)
  refine gc_dup (pc := 37) F dX2_init_37 rfl ?_
  refine gc_callI (pc := 38) (kc := 2) (ks := 14) (mc := 13) (ms := 139) (y := yX6_init) (As := []) (wr := [(h0, .inr (2, [.ref a1, .int 0, .int 0])), (a1, .inl (G.2.2.2.2, (5, .inr (.inr (.inr (.inr (fun _ => none)))))))]) (st := [.ref a2, .int 0, .ref a1]) F dX2_init_38 ml_X2_24 cw_X6_init im_X6_init in_X6 rfl ⟨by decide +kernel, by decide +kernel, (by decide +kernel : (parseMethodDescriptor yX6_init.desc).map (fun d => d.parameters.length) = some 0)⟩ (cc_X6 (enL E) G a2) (by decide) (by decide) (by decide) (by decide) (Nat.le_of_ble_eq_true rfl) rfl (fun q3 => ?_)
  refine gc_aast (pc := 41) ([(h0, .inr (2, [.ref a1, .int 0, .int 0])), (a1, .inl (G.2.2.2.2, (5, .inr (.inr (.inr (.inr (va_up (fun _ => none) 0 (some a2))))))))] ++ w1_X6 G a2 q3) F dX2_init_41 1 2 rfl rfl (by unfold vp_in; decide) rfl ?_
  refine gc_iinc (pc := 42) 1 (lv' := [(1, .int 1), (0, .ref h0)]) F dX2_init_42 (k := 0) rfl (by decide) (by decide) rfl ?_
  refine gc_goto (pc := 45) 24 F dX2_init_45 (by decide) ?_
  refine gc_iloadn (pc := 24) F dX2_init_24 0 rfl ?_
  refine gc_iconst (pc := 25) 5 F dX2_init_25 (by decide) ?_
  refine gc_icmp_geF (pc := 26) 48 F dX2_init_26 (by decide) (by decide) ?_
  refine gc_aloadn (pc := 29) F dX2_init_29 1 rfl ?_
  refine gc_get (pc := 30) (ci := 2) (C := RX2) (T := TX2) (N := 3) F dX2_init_30 0 rfl rfl ib2 0 (by decide) fl_X2_11 rfl ?_
  refine gc_iloadn (pc := 33) F dX2_init_33 0 rfl ?_
  refine gc_new (pc := 34) (kc := 15) (ks := 153) (ci := 6) (C := RX6) (T := TX6) (N := 9) (fs := [.null, .null, .null, .null, .int 0, .int 0, .int 0, .int 0, .int 0]) F dX2_init_34 rfl ib6 tyX6 tyX6_ok cl_X2_9 ib_X6 in_X6 (fun j hj => by rcases (show j = 0 ∨ j = 1 ∨ j = 2 ∨ j = 3 ∨ j = 4 ∨ j = 5 ∨ j = 6 ∨ j = 7 ∨ j = 8 by omega) with rfl | rfl | rfl | rfl | rfl | rfl | rfl | rfl | rfl <;> rfl) (by decide) (by decide) (fun a4 => ?_)
  refine gc_dup (pc := 37) F dX2_init_37 rfl ?_
  refine gc_callI (pc := 38) (kc := 16) (ks := 162) (mc := 13) (ms := 139) (y := yX6_init) (As := []) (wr := [(h0, .inr (2, [.ref a1, .int 0, .int 0])), (a1, .inl (G.2.2.2.2, (5, .inr (.inr (.inr (.inr (va_up (fun _ => none) 0 (some a2))))))))] ++ w1_X6 G a2 q3) (st := [.ref a4, .int 1, .ref a1]) F dX2_init_38 ml_X2_24 cw_X6_init im_X6_init in_X6 rfl ⟨by decide +kernel, by decide +kernel, (by decide +kernel : (parseMethodDescriptor yX6_init.desc).map (fun d => d.parameters.length) = some 0)⟩ (cc_X6 (enL E) G a4) (by decide) (by decide) (by decide) (by decide) (Nat.le_of_ble_eq_true rfl) rfl (fun q5 => ?_)
  refine gc_aast (pc := 41) ([(h0, .inr (2, [.ref a1, .int 0, .int 0])), (a1, .inl (G.2.2.2.2, (5, .inr (.inr (.inr (.inr (va_up (va_up (fun _ => none) 0 (some a2)) 1 (some a4))))))))] ++ w1_X6 G a2 q3 ++ w1_X6 G a4 q5) F dX2_init_41 1 16 rfl rfl (by unfold vp_in; decide) rfl ?_
  refine gc_iinc (pc := 42) 2 (lv' := [(1, .int 2), (0, .ref h0)]) F dX2_init_42 (k := 0) rfl (by decide) (by decide) rfl ?_
  refine gc_goto (pc := 45) 24 F dX2_init_45 (by decide) ?_
  refine gc_iloadn (pc := 24) F dX2_init_24 0 rfl ?_
  refine gc_iconst (pc := 25) 5 F dX2_init_25 (by decide) ?_
  refine gc_icmp_geF (pc := 26) 48 F dX2_init_26 (by decide) (by decide) ?_
  refine gc_aloadn (pc := 29) F dX2_init_29 1 rfl ?_
  refine gc_get (pc := 30) (ci := 2) (C := RX2) (T := TX2) (N := 3) F dX2_init_30 0 rfl rfl ib2 0 (by decide) fl_X2_11 rfl ?_
  refine gc_iloadn (pc := 33) F dX2_init_33 0 rfl ?_
  refine gc_new (pc := 34) (kc := 29) (ks := 301) (ci := 6) (C := RX6) (T := TX6) (N := 9) (fs := [.null, .null, .null, .null, .int 0, .int 0, .int 0, .int 0, .int 0]) F dX2_init_34 rfl ib6 tyX6 tyX6_ok cl_X2_9 ib_X6 in_X6 (fun j hj => by rcases (show j = 0 ∨ j = 1 ∨ j = 2 ∨ j = 3 ∨ j = 4 ∨ j = 5 ∨ j = 6 ∨ j = 7 ∨ j = 8 by omega) with rfl | rfl | rfl | rfl | rfl | rfl | rfl | rfl | rfl <;> rfl) (by decide) (by decide) (fun a6 => ?_)
  refine gc_dup (pc := 37) F dX2_init_37 rfl ?_
  refine gc_callI (pc := 38) (kc := 30) (ks := 310) (mc := 13) (ms := 139) (y := yX6_init) (As := []) (wr := [(h0, .inr (2, [.ref a1, .int 0, .int 0])), (a1, .inl (G.2.2.2.2, (5, .inr (.inr (.inr (.inr (va_up (va_up (fun _ => none) 0 (some a2)) 1 (some a4))))))))] ++ w1_X6 G a2 q3 ++ w1_X6 G a4 q5) (st := [.ref a6, .int 2, .ref a1]) F dX2_init_38 ml_X2_24 cw_X6_init im_X6_init in_X6 rfl ⟨by decide +kernel, by decide +kernel, (by decide +kernel : (parseMethodDescriptor yX6_init.desc).map (fun d => d.parameters.length) = some 0)⟩ (cc_X6 (enL E) G a6) (by decide) (by decide) (by decide) (by decide) (Nat.le_of_ble_eq_true rfl) rfl (fun q7 => ?_)
  refine gc_aast (pc := 41) ([(h0, .inr (2, [.ref a1, .int 0, .int 0])), (a1, .inl (G.2.2.2.2, (5, .inr (.inr (.inr (.inr (va_up (va_up (va_up (fun _ => none) 0 (some a2)) 1 (some a4)) 2 (some a6))))))))] ++ w1_X6 G a2 q3 ++ w1_X6 G a4 q5 ++ w1_X6 G a6 q7) F dX2_init_41 1 30 rfl rfl (by unfold vp_in; decide) rfl ?_
  refine gc_iinc (pc := 42) 3 (lv' := [(1, .int 3), (0, .ref h0)]) F dX2_init_42 (k := 0) rfl (by decide) (by decide) rfl ?_
  refine gc_goto (pc := 45) 24 F dX2_init_45 (by decide) ?_
  refine gc_iloadn (pc := 24) F dX2_init_24 0 rfl ?_
  refine gc_iconst (pc := 25) 5 F dX2_init_25 (by decide) ?_
  refine gc_icmp_geF (pc := 26) 48 F dX2_init_26 (by decide) (by decide) ?_
  refine gc_aloadn (pc := 29) F dX2_init_29 1 rfl ?_
  refine gc_get (pc := 30) (ci := 2) (C := RX2) (T := TX2) (N := 3) F dX2_init_30 0 rfl rfl ib2 0 (by decide) fl_X2_11 rfl ?_
  refine gc_iloadn (pc := 33) F dX2_init_33 0 rfl ?_
  refine gc_new (pc := 34) (kc := 43) (ks := 449) (ci := 6) (C := RX6) (T := TX6) (N := 9) (fs := [.null, .null, .null, .null, .int 0, .int 0, .int 0, .int 0, .int 0]) F dX2_init_34 rfl ib6 tyX6 tyX6_ok cl_X2_9 ib_X6 in_X6 (fun j hj => by rcases (show j = 0 ∨ j = 1 ∨ j = 2 ∨ j = 3 ∨ j = 4 ∨ j = 5 ∨ j = 6 ∨ j = 7 ∨ j = 8 by omega) with rfl | rfl | rfl | rfl | rfl | rfl | rfl | rfl | rfl <;> rfl) (by decide) (by decide) (fun a8 => ?_)
  refine gc_dup (pc := 37) F dX2_init_37 rfl ?_
  refine gc_callI (pc := 38) (kc := 44) (ks := 458) (mc := 13) (ms := 139) (y := yX6_init) (As := []) (wr := [(h0, .inr (2, [.ref a1, .int 0, .int 0])), (a1, .inl (G.2.2.2.2, (5, .inr (.inr (.inr (.inr (va_up (va_up (va_up (fun _ => none) 0 (some a2)) 1 (some a4)) 2 (some a6))))))))] ++ w1_X6 G a2 q3 ++ w1_X6 G a4 q5 ++ w1_X6 G a6 q7) (st := [.ref a8, .int 3, .ref a1]) F dX2_init_38 ml_X2_24 cw_X6_init im_X6_init in_X6 rfl ⟨by decide +kernel, by decide +kernel, (by decide +kernel : (parseMethodDescriptor yX6_init.desc).map (fun d => d.parameters.length) = some 0)⟩ (cc_X6 (enL E) G a8) (by decide) (by decide) (by decide) (by decide) (Nat.le_of_ble_eq_true rfl) rfl (fun q9 => ?_)
  refine gc_aast (pc := 41) ([(h0, .inr (2, [.ref a1, .int 0, .int 0])), (a1, .inl (G.2.2.2.2, (5, .inr (.inr (.inr (.inr (va_up (va_up (va_up (va_up (fun _ => none) 0 (some a2)) 1 (some a4)) 2 (some a6)) 3 (some a8))))))))] ++ w1_X6 G a2 q3 ++ w1_X6 G a4 q5 ++ w1_X6 G a6 q7 ++ w1_X6 G a8 q9) F dX2_init_41 1 44 rfl rfl (by unfold vp_in; decide) rfl ?_
  refine gc_iinc (pc := 42) 4 (lv' := [(1, .int 4), (0, .ref h0)]) F dX2_init_42 (k := 0) rfl (by decide) (by decide) rfl ?_
  refine gc_goto (pc := 45) 24 F dX2_init_45 (by decide) ?_
  refine gc_iloadn (pc := 24) F dX2_init_24 0 rfl ?_
  refine gc_iconst (pc := 25) 5 F dX2_init_25 (by decide) ?_
  refine gc_icmp_geF (pc := 26) 48 F dX2_init_26 (by decide) (by decide) ?_
  refine gc_aloadn (pc := 29) F dX2_init_29 1 rfl ?_
  refine gc_get (pc := 30) (ci := 2) (C := RX2) (T := TX2) (N := 3) F dX2_init_30 0 rfl rfl ib2 0 (by decide) fl_X2_11 rfl ?_
  refine gc_iloadn (pc := 33) F dX2_init_33 0 rfl ?_
  refine gc_new (pc := 34) (kc := 57) (ks := 597) (ci := 6) (C := RX6) (T := TX6) (N := 9) (fs := [.null, .null, .null, .null, .int 0, .int 0, .int 0, .int 0, .int 0]) F dX2_init_34 rfl ib6 tyX6 tyX6_ok cl_X2_9 ib_X6 in_X6 (fun j hj => by rcases (show j = 0 ∨ j = 1 ∨ j = 2 ∨ j = 3 ∨ j = 4 ∨ j = 5 ∨ j = 6 ∨ j = 7 ∨ j = 8 by omega) with rfl | rfl | rfl | rfl | rfl | rfl | rfl | rfl | rfl <;> rfl) (by decide) (by decide) (fun a10 => ?_)
  refine gc_dup (pc := 37) F dX2_init_37 rfl ?_
  refine gc_callI (pc := 38) (kc := 58) (ks := 606) (mc := 13) (ms := 139) (y := yX6_init) (As := []) (wr := [(h0, .inr (2, [.ref a1, .int 0, .int 0])), (a1, .inl (G.2.2.2.2, (5, .inr (.inr (.inr (.inr (va_up (va_up (va_up (va_up (fun _ => none) 0 (some a2)) 1 (some a4)) 2 (some a6)) 3 (some a8))))))))] ++ w1_X6 G a2 q3 ++ w1_X6 G a4 q5 ++ w1_X6 G a6 q7 ++ w1_X6 G a8 q9) (st := [.ref a10, .int 4, .ref a1]) F dX2_init_38 ml_X2_24 cw_X6_init im_X6_init in_X6 rfl ⟨by decide +kernel, by decide +kernel, (by decide +kernel : (parseMethodDescriptor yX6_init.desc).map (fun d => d.parameters.length) = some 0)⟩ (cc_X6 (enL E) G a10) (by decide) (by decide) (by decide) (by decide) (Nat.le_of_ble_eq_true rfl) rfl (fun q11 => ?_)
  refine gc_aast (pc := 41) ([(h0, .inr (2, [.ref a1, .int 0, .int 0])), (a1, .inl (G.2.2.2.2, (5, .inr (.inr (.inr (.inr (va_up (va_up (va_up (va_up (va_up (fun _ => none) 0 (some a2)) 1 (some a4)) 2 (some a6)) 3 (some a8)) 4 (some a10))))))))] ++ w1_X6 G a2 q3 ++ w1_X6 G a4 q5 ++ w1_X6 G a6 q7 ++ w1_X6 G a8 q9 ++ w1_X6 G a10 q11) F dX2_init_41 1 58 rfl rfl (by unfold vp_in; decide) rfl ?_
  refine gc_iinc (pc := 42) 5 (lv' := [(1, .int 5), (0, .ref h0)]) F dX2_init_42 (k := 0) rfl (by decide) (by decide) rfl ?_
  refine gc_goto (pc := 45) 24 F dX2_init_45 (by decide) ?_
  refine gc_iloadn (pc := 24) F dX2_init_24 0 rfl ?_
  refine gc_iconst (pc := 25) 5 F dX2_init_25 (by decide) ?_
  refine gc_icmp_ge (pc := 26) 48 F dX2_init_26 (by decide) (by decide) ?_
  obtain ⟨qq, hqq⟩ : ∃ f : Nat → Nat, f = (fun j => match j with | 0 => a1 | 1 => a2 | 2 => q3 0 | 3 => q3 1 | 4 => q3 2 | 5 => q3 3 | 6 => q3 4 | 7 => q3 5 | 8 => q3 6 | 9 => q3 7 | 10 => q3 8 | 11 => q3 9 | 12 => q3 10 | 13 => q3 11 | 14 => q3 12 | 15 => a4 | 16 => q5 0 | 17 => q5 1 | 18 => q5 2 | 19 => q5 3 | 20 => q5 4 | 21 => q5 5 | 22 => q5 6 | 23 => q5 7 | 24 => q5 8 | 25 => q5 9 | 26 => q5 10 | 27 => q5 11 | 28 => q5 12 | 29 => a6 | 30 => q7 0 | 31 => q7 1 | 32 => q7 2 | 33 => q7 3 | 34 => q7 4 | 35 => q7 5 | 36 => q7 6 | 37 => q7 7 | 38 => q7 8 | 39 => q7 9 | 40 => q7 10 | 41 => q7 11 | 42 => q7 12 | 43 => a8 | 44 => q9 0 | 45 => q9 1 | 46 => q9 2 | 47 => q9 3 | 48 => q9 4 | 49 => q9 5 | 50 => q9 6 | 51 => q9 7 | 52 => q9 8 | 53 => q9 9 | 54 => q9 10 | 55 => q9 11 | 56 => q9 12 | 57 => a10 | 58 => q11 0 | 59 => q11 1 | 60 => q11 2 | 61 => q11 3 | 62 => q11 4 | 63 => q11 5 | 64 => q11 6 | 65 => q11 7 | 66 => q11 8 | 67 => q11 9 | 68 => q11 10 | 69 => q11 11 | 70 => q11 12 | _ => 0) := ⟨_, rfl⟩
  refine gc_ret (pc := 48) qq F hi dX2_init_48 ?_
  subst hqq
  rfl
def w1_X7 (G : Gm) (h0 : Nat) (q : Nat → Nat) : va_W := [(h0, .inr (7, [.ref (q 0), .int 0, .ref (q 1), .int (-1), .int 0])), ((q 0), .inl (G.2.2.1, (50, .inl (fun _ => 0))))] ++ w1_X3 G (q 1) (fun j => q (2 + j))
set_option maxRecDepth 100000 in
set_option maxHeartbeats 4000000 in
theorem cc_X7 (l : Launch) (G : Gm) (h0 : Nat) : Cc l G yX7_init cX7_init 1 2 34 4 77 [.ref h0] [(h0, .inr (7, [.null, .int 0, .null, .int 0, .int 0]))] (w1_X7 G h0) := by
  refine Cc.of (own := RX7) (by decide +kernel) rfl rfl (Nat.le_of_ble_eq_true rfl) (fun E F hi he => ?_)
  clear he
  refine gc_sub (lv' := [(0, .ref h0)]) [0] rfl ?_
  refine gc_aloadn (pc := 0) F dX7_init_0 0 rfl ?_
  refine gc_obj (pc := 1) F dX7_init_1 ml_X7_3 (by decide) (Nat.le_of_ble_eq_true rfl) ?_
  refine gc_aloadn (pc := 4) F dX7_init_4 0 rfl ?_
  refine gc_bipush (pc := 5) 50 F dX7_init_5 (by decide) ?_
  refine gc_newi (pc := 7) (kc := 0) (ks := 0) 50 F dX7_init_7 (by decide) (by decide) (Nat.le_of_ble_eq_true rfl) (by decide) (by decide) (fun a1 => ?_)
  refine gc_putF (pc := 9) (ci := 7) (C := RX7) (T := TX7) (N := 5) (ty := (.array .int)) ([(h0, .inr (7, [.ref a1, .int 0, .null, .int 0, .int 0])), (a1, .inl (G.2.2.1, (50, .inl (fun _ => 0))))]) F hi dX7_init_9 0 rfl rfl ib7 tyX7 tyX7_ok nmX7 0 (by decide) fl_X7_9 rfl rfl (by decide +kernel) rfl rfl (Nat.le_of_ble_eq_true rfl) rfl ?_
  refine gc_aloadn (pc := 12) F dX7_init_12 0 rfl ?_
  refine gc_iconst (pc := 13) 0 F dX7_init_13 (by decide) ?_
  refine gc_put (pc := 14) (ci := 7) (C := RX7) (T := TX7) (N := 5) (ty := .int) ([(h0, .inr (7, [.ref a1, .int 0, .null, .int 0, .int 0])), (a1, .inl (G.2.2.1, (50, .inl (fun _ => 0))))]) F dX7_init_14 0 rfl rfl ib7 tyX7 tyX7_ok nmX7 1 (by decide) fl_X7_15 rfl (by decide +kernel) rfl rfl (Nat.le_of_ble_eq_true rfl) rfl ?_
  refine gc_aloadn (pc := 17) F dX7_init_17 0 rfl ?_
  refine gc_new (pc := 18) (kc := 1) (ks := 50) (ci := 3) (C := RX3) (T := TX3) (N := 2) (fs := [.null, .null]) F dX7_init_18 rfl ib3 tyX3 tyX3_ok cl_X7_19 ib_X3 in_X3 (fun j hj => by rcases (show j = 0 ∨ j = 1 by omega) with rfl | rfl <;> rfl) (by decide) (by decide) (fun a2 => ?_)
  refine gc_dup (pc := 21) F dX7_init_21 rfl ?_
  refine gc_callIN (pc := 22) (kc := 2) (ks := 52) (mc := 2) (ms := 25) (y := yX3_init) (As := []) (wr := [(h0, .inr (7, [.ref a1, .int 0, .null, .int 0, .int 0])), (a1, .inl (G.2.2.1, (50, .inl (fun _ => 0))))]) (st := [.ref a2, .ref h0]) F dX7_init_22 nwi3 cw_X3_init im_X3_init in_X3 rfl ⟨by decide +kernel, by decide +kernel, (by decide +kernel : (parseMethodDescriptor yX3_init.desc).map (fun d => d.parameters.length) = some 0)⟩ (cc_X3 (enL E) G a2) (by decide) (by decide) (by decide) (by decide) (Nat.le_of_ble_eq_true rfl) rfl (fun q3 => ?_)
  refine gc_putF (pc := 25) (ci := 7) (C := RX7) (T := TX7) (N := 5) (ty := (.object "MastFlags$Hoists")) ([(h0, .inr (7, [.ref a1, .int 0, .ref a2, .int 0, .int 0])), (a1, .inl (G.2.2.1, (50, .inl (fun _ => 0))))] ++ w1_X3 G a2 q3) F hi dX7_init_25 0 rfl rfl ib7 tyX7 tyX7_ok nmX7 2 (by decide) fl_X7_22 rfl rfl (by decide +kernel) rfl rfl (Nat.le_of_ble_eq_true rfl) rfl ?_
  refine gc_aloadn (pc := 28) F dX7_init_28 0 rfl ?_
  refine gc_iconst (pc := 29) (-1) F dX7_init_29 (by decide) ?_
  refine gc_put (pc := 30) (ci := 7) (C := RX7) (T := TX7) (N := 5) (ty := .int) ([(h0, .inr (7, [.ref a1, .int 0, .ref a2, .int (-1), .int 0])), (a1, .inl (G.2.2.1, (50, .inl (fun _ => 0))))] ++ w1_X3 G a2 q3) F dX7_init_30 0 rfl rfl ib7 tyX7 tyX7_ok nmX7 3 (by decide) fl_X7_26 rfl (by decide +kernel) rfl rfl (Nat.le_of_ble_eq_true rfl) rfl ?_
  refine gc_aloadn (pc := 33) F dX7_init_33 0 rfl ?_
  refine gc_iconst (pc := 34) 0 F dX7_init_34 (by decide) ?_
  refine gc_put (pc := 35) (ci := 7) (C := RX7) (T := TX7) (N := 5) (ty := .int) ([(h0, .inr (7, [.ref a1, .int 0, .ref a2, .int (-1), .int 0])), (a1, .inl (G.2.2.1, (50, .inl (fun _ => 0))))] ++ w1_X3 G a2 q3) F dX7_init_35 0 rfl rfl ib7 tyX7 tyX7_ok nmX7 4 (by decide) fl_X7_29 rfl (by decide +kernel) rfl rfl (Nat.le_of_ble_eq_true rfl) rfl ?_
  obtain ⟨qq, hqq⟩ : ∃ f : Nat → Nat, f = (fun j => match j with | 0 => a1 | 1 => a2 | 2 => q3 0 | 3 => q3 1 | _ => 0) := ⟨_, rfl⟩
  refine gc_ret (pc := 38) qq F hi dX7_init_38 ?_
  subst hqq
  rfl
def w1_X5 (G : Gm) (h0 : Nat) (x1 : Int32) (q : Nat → Nat) : va_W := [(h0, .inr (5, [.int x1, .ref (q 0), .ref (q 1), .int 0])), ((q 0), .inl (G.2.2.1, (5, .inl (fun _ => 0)))), ((q 1), .inl (G.2.2.1, (5, .inl (fun _ => 0))))]
set_option maxRecDepth 100000 in
set_option maxHeartbeats 4000000 in
theorem cc_X5 (l : Launch) (G : Gm) (h0 : Nat) (x1 : Int32) : Cc l G yX5_init cX5_init 2 1 14 2 10 [.ref h0, .int x1] [(h0, .inr (5, [.int 0, .null, .null, .int 0]))] (w1_X5 G h0 x1) := by
  refine Cc.of (own := RX5) (by decide +kernel) rfl rfl (Nat.le_of_ble_eq_true rfl) (fun E F hi he => ?_)
  clear he
  refine gc_sub (lv' := [(0, .ref h0), (1, .int x1)]) [0, 1] rfl ?_
  refine gc_aloadn (pc := 0) F dX5_init_0 0 rfl ?_
  refine gc_obj (pc := 1) F dX5_init_1 ml_X5_3 (by decide) (Nat.le_of_ble_eq_true rfl) ?_
  refine gc_aloadn (pc := 4) F dX5_init_4 0 rfl ?_
  refine gc_iconst (pc := 5) 5 F dX5_init_5 (by decide) ?_
  refine gc_newi (pc := 6) (kc := 0) (ks := 0) 5 F dX5_init_6 (by decide) (by decide) (Nat.le_of_ble_eq_true rfl) (by decide) (by decide) (fun a1 => ?_)
  refine gc_putF (pc := 8) (ci := 5) (C := RX5) (T := TX5) (N := 4) (ty := (.array .int)) ([(h0, .inr (5, [.int 0, .ref a1, .null, .int 0])), (a1, .inl (G.2.2.1, (5, .inl (fun _ => 0))))]) F hi dX5_init_8 0 rfl rfl ib5 tyX5 tyX5_ok nmX5 1 (by decide) fl_X5_9 rfl rfl (by decide +kernel) rfl rfl (Nat.le_of_ble_eq_true rfl) rfl ?_
  refine gc_aloadn (pc := 11) F dX5_init_11 0 rfl ?_
  refine gc_iconst (pc := 12) 5 F dX5_init_12 (by decide) ?_
  refine gc_newi (pc := 13) (kc := 1) (ks := 5) 5 F dX5_init_13 (by decide) (by decide) (Nat.le_of_ble_eq_true rfl) (by decide) (by decide) (fun a2 => ?_)
  refine gc_putF (pc := 15) (ci := 5) (C := RX5) (T := TX5) (N := 4) (ty := (.array .int)) ([(h0, .inr (5, [.int 0, .ref a1, .ref a2, .int 0])), (a1, .inl (G.2.2.1, (5, .inl (fun _ => 0)))), (a2, .inl (G.2.2.1, (5, .inl (fun _ => 0))))]) F hi dX5_init_15 0 rfl rfl ib5 tyX5 tyX5_ok nmX5 2 (by decide) fl_X5_15 rfl rfl (by decide +kernel) rfl rfl (Nat.le_of_ble_eq_true rfl) rfl ?_
  refine gc_aloadn (pc := 18) F dX5_init_18 0 rfl ?_
  refine gc_iconst (pc := 19) 0 F dX5_init_19 (by decide) ?_
  refine gc_put (pc := 20) (ci := 5) (C := RX5) (T := TX5) (N := 4) (ty := .int) ([(h0, .inr (5, [.int 0, .ref a1, .ref a2, .int 0])), (a1, .inl (G.2.2.1, (5, .inl (fun _ => 0)))), (a2, .inl (G.2.2.1, (5, .inl (fun _ => 0))))]) F dX5_init_20 0 rfl rfl ib5 tyX5 tyX5_ok nmX5 3 (by decide) fl_X5_18 rfl (by decide +kernel) rfl rfl (Nat.le_of_ble_eq_true rfl) rfl ?_
  refine gc_aloadn (pc := 23) F dX5_init_23 0 rfl ?_
  refine gc_iloadn (pc := 24) F dX5_init_24 1 rfl ?_
  refine gc_putF (pc := 25) (ci := 5) (C := RX5) (T := TX5) (N := 4) (ty := .int) ([(h0, .inr (5, [.int x1, .ref a1, .ref a2, .int 0])), (a1, .inl (G.2.2.1, (5, .inl (fun _ => 0)))), (a2, .inl (G.2.2.1, (5, .inl (fun _ => 0))))]) F hi dX5_init_25 0 rfl rfl ib5 tyX5 tyX5_ok nmX5 0 (by decide) fl_X5_22 rfl rfl (by decide +kernel) rfl rfl (Nat.le_of_ble_eq_true rfl) rfl ?_
  obtain ⟨qq, hqq⟩ : ∃ f : Nat → Nat, f = (fun j => match j with | 0 => a1 | 1 => a2 | _ => 0) := ⟨_, rfl⟩
  refine gc_ret (pc := 28) qq F hi dX5_init_28 ?_
  subst hqq
  rfl
def w1_X8 (G : Gm) (h0 : Nat) (q : Nat → Nat) : va_W := [(h0, .inr (8, [.ref (q 0), .ref (q 14), .int 0, .ref (q 28), .ref (q 100), .ref (q 105), .ref (q 108)]))] ++ w1_X6 G (q 0) (fun j => q (1 + j)) ++ w1_X6 G (q 14) (fun j => q (15 + j)) ++ w1_X2 G (q 28) (fun j => q (29 + j)) ++ w1_X7 G (q 100) (fun j => q (101 + j)) ++ w1_X5 G (q 105) 0 (fun j => q (106 + j)) ++ w1_X5 G (q 108) 1 (fun j => q (109 + j))
set_option maxRecDepth 100000 in
set_option maxHeartbeats 4000000 in
theorem cc_X8 (l : Launch) (G : Gm) (h0 : Nat) : Cc l G yX8_init cX8_init 1 4 76 111 1154 [.ref h0] [(h0, .inr (8, [.null, .null, .int 0, .null, .null, .null, .null]))] (w1_X8 G h0) := by
  refine Cc.of (own := RX8) (by decide +kernel) rfl rfl (Nat.le_of_ble_eq_true rfl) (fun E F hi he => ?_)
  clear he
  refine gc_sub (lv' := [(0, .ref h0)]) [0] rfl ?_
  refine gc_aloadn (pc := 0) F dX8_init_0 0 rfl ?_
  refine gc_obj (pc := 1) F dX8_init_1 ml_X8_1 (by decide) (Nat.le_of_ble_eq_true rfl) ?_
  refine gc_aloadn (pc := 4) F dX8_init_4 0 rfl ?_
  refine gc_new (pc := 5) (kc := 0) (ks := 0) (ci := 6) (C := RX6) (T := TX6) (N := 9) (fs := [.null, .null, .null, .null, .int 0, .int 0, .int 0, .int 0, .int 0]) F dX8_init_5 rfl ib6 tyX6 tyX6_ok cl_X8_7 ib_X6 in_X6 (fun j hj => by rcases (show j = 0 ∨ j = 1 ∨ j = 2 ∨ j = 3 ∨ j = 4 ∨ j = 5 ∨ j = 6 ∨ j = 7 ∨ j = 8 by omega) with rfl | rfl | rfl | rfl | rfl | rfl | rfl | rfl | rfl <;> rfl) (by decide) (by decide) (fun a1 => ?_)
  refine gc_dup (pc := 8) F dX8_init_8 rfl ?_
  refine gc_callI (pc := 9) (kc := 1) (ks := 9) (mc := 13) (ms := 139) (y := yX6_init) (As := []) (wr := [(h0, .inr (8, [.null, .null, .int 0, .null, .null, .null, .null]))]) (st := [.ref a1, .ref h0]) F dX8_init_9 ml_X8_9 cw_X6_init im_X6_init in_X6 rfl ⟨by decide +kernel, by decide +kernel, (by decide +kernel : (parseMethodDescriptor yX6_init.desc).map (fun d => d.parameters.length) = some 0)⟩ (cc_X6 (enL E) G a1) (by decide) (by decide) (by decide) (by decide) (Nat.le_of_ble_eq_true rfl) rfl (fun q2 => ?_)
  refine gc_putF (pc := 12) (ci := 8) (C := RX8) (T := TX8) (N := 7) (ty := (.object "MastFlags$State")) ([(h0, .inr (8, [.ref a1, .null, .int 0, .null, .null, .null, .null]))] ++ w1_X6 G a1 q2) F hi dX8_init_12 0 rfl rfl ib8 tyX8 tyX8_ok nmX8 0 (by decide) fl_X8_10 rfl rfl (by decide +kernel) rfl rfl (Nat.le_of_ble_eq_true rfl) rfl ?_
  refine gc_aloadn (pc := 15) F dX8_init_15 0 rfl ?_
  refine gc_new (pc := 16) (kc := 14) (ks := 148) (ci := 6) (C := RX6) (T := TX6) (N := 9) (fs := [.null, .null, .null, .null, .int 0, .int 0, .int 0, .int 0, .int 0]) F dX8_init_16 rfl ib6 tyX6 tyX6_ok cl_X8_7 ib_X6 in_X6 (fun j hj => by rcases (show j = 0 ∨ j = 1 ∨ j = 2 ∨ j = 3 ∨ j = 4 ∨ j = 5 ∨ j = 6 ∨ j = 7 ∨ j = 8 by omega) with rfl | rfl | rfl | rfl | rfl | rfl | rfl | rfl | rfl <;> rfl) (by decide) (by decide) (fun a3 => ?_)
  refine gc_dup (pc := 19) F dX8_init_19 rfl ?_
  refine gc_callI (pc := 20) (kc := 15) (ks := 157) (mc := 13) (ms := 139) (y := yX6_init) (As := []) (wr := [(h0, .inr (8, [.ref a1, .null, .int 0, .null, .null, .null, .null]))] ++ w1_X6 G a1 q2) (st := [.ref a3, .ref h0]) F dX8_init_20 ml_X8_9 cw_X6_init im_X6_init in_X6 rfl ⟨by decide +kernel, by decide +kernel, (by decide +kernel : (parseMethodDescriptor yX6_init.desc).map (fun d => d.parameters.length) = some 0)⟩ (cc_X6 (enL E) G a3) (by decide) (by decide) (by decide) (by decide) (Nat.le_of_ble_eq_true rfl) rfl (fun q4 => ?_)
  refine gc_putF (pc := 23) (ci := 8) (C := RX8) (T := TX8) (N := 7) (ty := (.object "MastFlags$State")) ([(h0, .inr (8, [.ref a1, .ref a3, .int 0, .null, .null, .null, .null]))] ++ w1_X6 G a1 q2 ++ w1_X6 G a3 q4) F hi dX8_init_23 0 rfl rfl ib8 tyX8 tyX8_ok nmX8 1 (by decide) fl_X8_16 rfl rfl (by decide +kernel) rfl rfl (Nat.le_of_ble_eq_true rfl) rfl ?_
  refine gc_aloadn (pc := 26) F dX8_init_26 0 rfl ?_
  refine gc_iconst (pc := 27) 0 F dX8_init_27 (by decide) ?_
  refine gc_put (pc := 28) (ci := 8) (C := RX8) (T := TX8) (N := 7) (ty := .boolean) ([(h0, .inr (8, [.ref a1, .ref a3, .int 0, .null, .null, .null, .null]))] ++ w1_X6 G a1 q2 ++ w1_X6 G a3 q4) F dX8_init_28 0 rfl rfl ib8 tyX8 tyX8_ok nmX8 2 (by decide) fl_X8_19 rfl (by decide +kernel) rfl rfl (Nat.le_of_ble_eq_true rfl) rfl ?_
  refine gc_aloadn (pc := 31) F dX8_init_31 0 rfl ?_
  refine gc_new (pc := 32) (kc := 28) (ks := 296) (ci := 2) (C := RX2) (T := TX2) (N := 3) (fs := [.null, .int 0, .int 0]) F dX8_init_32 rfl ib2 tyX2 tyX2_ok cl_X8_23 ib_X2 in_X2 (fun j hj => by rcases (show j = 0 ∨ j = 1 ∨ j = 2 by omega) with rfl | rfl | rfl <;> rfl) (by decide) (by decide) (fun a5 => ?_)
  refine gc_dup (pc := 35) F dX8_init_35 rfl ?_
  refine gc_callI (pc := 36) (kc := 29) (ks := 299) (mc := 71) (ms := 745) (y := yX2_init) (As := []) (wr := [(h0, .inr (8, [.ref a1, .ref a3, .int 0, .null, .null, .null, .null]))] ++ w1_X6 G a1 q2 ++ w1_X6 G a3 q4) (st := [.ref a5, .ref h0]) F dX8_init_36 ml_X8_25 cw_X2_init im_X2_init in_X2 rfl ⟨by decide +kernel, by decide +kernel, (by decide +kernel : (parseMethodDescriptor yX2_init.desc).map (fun d => d.parameters.length) = some 0)⟩ (cc_X2 (enL E) G a5) (by decide) (by decide) (by decide) (by decide) (Nat.le_of_ble_eq_true rfl) rfl (fun q6 => ?_)
  refine gc_putF (pc := 39) (ci := 8) (C := RX8) (T := TX8) (N := 7) (ty := (.object "MastFlags$History")) ([(h0, .inr (8, [.ref a1, .ref a3, .int 0, .ref a5, .null, .null, .null]))] ++ w1_X6 G a1 q2 ++ w1_X6 G a3 q4 ++ w1_X2 G a5 q6) F hi dX8_init_39 0 rfl rfl ib8 tyX8 tyX8_ok nmX8 3 (by decide) fl_X8_26 rfl rfl (by decide +kernel) rfl rfl (Nat.le_of_ble_eq_true rfl) rfl ?_
  refine gc_aloadn (pc := 42) F dX8_init_42 0 rfl ?_
  refine gc_new (pc := 43) (kc := 100) (ks := 1044) (ci := 7) (C := RX7) (T := TX7) (N := 5) (fs := [.null, .int 0, .null, .int 0, .int 0]) F dX8_init_43 rfl ib7 tyX7 tyX7_ok cl_X8_30 ib_X7 in_X7 (fun j hj => by rcases (show j = 0 ∨ j = 1 ∨ j = 2 ∨ j = 3 ∨ j = 4 by omega) with rfl | rfl | rfl | rfl | rfl <;> rfl) (by decide) (by decide) (fun a7 => ?_)
  refine gc_dup (pc := 46) F dX8_init_46 rfl ?_
  refine gc_callI (pc := 47) (kc := 101) (ks := 1049) (mc := 4) (ms := 77) (y := yX7_init) (As := []) (wr := [(h0, .inr (8, [.ref a1, .ref a3, .int 0, .ref a5, .null, .null, .null]))] ++ w1_X6 G a1 q2 ++ w1_X6 G a3 q4 ++ w1_X2 G a5 q6) (st := [.ref a7, .ref h0]) F dX8_init_47 ml_X8_32 cw_X7_init im_X7_init in_X7 rfl ⟨by decide +kernel, by decide +kernel, (by decide +kernel : (parseMethodDescriptor yX7_init.desc).map (fun d => d.parameters.length) = some 0)⟩ (cc_X7 (enL E) G a7) (by decide) (by decide) (by decide) (by decide) (Nat.le_of_ble_eq_true rfl) rfl (fun q8 => ?_)
  refine gc_putF (pc := 50) (ci := 8) (C := RX8) (T := TX8) (N := 7) (ty := (.object "MastFlags$Text")) ([(h0, .inr (8, [.ref a1, .ref a3, .int 0, .ref a5, .ref a7, .null, .null]))] ++ w1_X6 G a1 q2 ++ w1_X6 G a3 q4 ++ w1_X2 G a5 q6 ++ w1_X7 G a7 q8) F hi dX8_init_50 0 rfl rfl ib8 tyX8 tyX8_ok nmX8 4 (by decide) fl_X8_33 rfl rfl (by decide +kernel) rfl rfl (Nat.le_of_ble_eq_true rfl) rfl ?_
  refine gc_aloadn (pc := 53) F dX8_init_53 0 rfl ?_
  refine gc_new (pc := 54) (kc := 105) (ks := 1126) (ci := 5) (C := RX5) (T := TX5) (N := 4) (fs := [.int 0, .null, .null, .int 0]) F dX8_init_54 rfl ib5 tyX5 tyX5_ok cl_X8_37 ib_X5 in_X5 (fun j hj => by rcases (show j = 0 ∨ j = 1 ∨ j = 2 ∨ j = 3 by omega) with rfl | rfl | rfl | rfl <;> rfl) (by decide) (by decide) (fun a9 => ?_)
  refine gc_dup (pc := 57) F dX8_init_57 rfl ?_
  refine gc_iconst (pc := 58) 0 F dX8_init_58 (by decide) ?_
  refine gc_callI (pc := 59) (kc := 106) (ks := 1130) (mc := 2) (ms := 10) (y := yX5_init) (As := [.int 0]) (wr := [(h0, .inr (8, [.ref a1, .ref a3, .int 0, .ref a5, .ref a7, .null, .null]))] ++ w1_X6 G a1 q2 ++ w1_X6 G a3 q4 ++ w1_X2 G a5 q6 ++ w1_X7 G a7 q8) (st := [.ref a9, .ref h0]) F dX8_init_59 ml_X8_39 cw_X5_init im_X5_init in_X5 rfl ⟨by decide +kernel, by decide +kernel, (by decide +kernel : (parseMethodDescriptor yX5_init.desc).map (fun d => d.parameters.length) = some 1)⟩ (cc_X5 (enL E) G a9 0) (by decide) (by decide) (by decide) (by decide) (Nat.le_of_ble_eq_true rfl) rfl (fun q10 => ?_)
  refine gc_putF (pc := 62) (ci := 8) (C := RX8) (T := TX8) (N := 7) (ty := (.object "MastFlags$Reading")) ([(h0, .inr (8, [.ref a1, .ref a3, .int 0, .ref a5, .ref a7, .ref a9, .null]))] ++ w1_X6 G a1 q2 ++ w1_X6 G a3 q4 ++ w1_X2 G a5 q6 ++ w1_X7 G a7 q8 ++ w1_X5 G a9 0 q10) F hi dX8_init_62 0 rfl rfl ib8 tyX8 tyX8_ok nmX8 5 (by decide) fl_X8_42 rfl rfl (by decide +kernel) rfl rfl (Nat.le_of_ble_eq_true rfl) rfl ?_
  refine gc_aloadn (pc := 65) F dX8_init_65 0 rfl ?_
  refine gc_new (pc := 66) (kc := 108) (ks := 1140) (ci := 5) (C := RX5) (T := TX5) (N := 4) (fs := [.int 0, .null, .null, .int 0]) F dX8_init_66 rfl ib5 tyX5 tyX5_ok cl_X8_37 ib_X5 in_X5 (fun j hj => by rcases (show j = 0 ∨ j = 1 ∨ j = 2 ∨ j = 3 by omega) with rfl | rfl | rfl | rfl <;> rfl) (by decide) (by decide) (fun a11 => ?_)
  refine gc_dup (pc := 69) F dX8_init_69 rfl ?_
  refine gc_iconst (pc := 70) 1 F dX8_init_70 (by decide) ?_
  refine gc_callI (pc := 71) (kc := 109) (ks := 1144) (mc := 2) (ms := 10) (y := yX5_init) (As := [.int 1]) (wr := [(h0, .inr (8, [.ref a1, .ref a3, .int 0, .ref a5, .ref a7, .ref a9, .null]))] ++ w1_X6 G a1 q2 ++ w1_X6 G a3 q4 ++ w1_X2 G a5 q6 ++ w1_X7 G a7 q8 ++ w1_X5 G a9 0 q10) (st := [.ref a11, .ref h0]) F dX8_init_71 ml_X8_39 cw_X5_init im_X5_init in_X5 rfl ⟨by decide +kernel, by decide +kernel, (by decide +kernel : (parseMethodDescriptor yX5_init.desc).map (fun d => d.parameters.length) = some 1)⟩ (cc_X5 (enL E) G a11 1) (by decide) (by decide) (by decide) (by decide) (Nat.le_of_ble_eq_true rfl) rfl (fun q12 => ?_)
  refine gc_putF (pc := 74) (ci := 8) (C := RX8) (T := TX8) (N := 7) (ty := (.object "MastFlags$Reading")) ([(h0, .inr (8, [.ref a1, .ref a3, .int 0, .ref a5, .ref a7, .ref a9, .ref a11]))] ++ w1_X6 G a1 q2 ++ w1_X6 G a3 q4 ++ w1_X2 G a5 q6 ++ w1_X7 G a7 q8 ++ w1_X5 G a9 0 q10 ++ w1_X5 G a11 1 q12) F hi dX8_init_74 0 rfl rfl ib8 tyX8 tyX8_ok nmX8 6 (by decide) fl_X8_46 rfl rfl (by decide +kernel) rfl rfl (Nat.le_of_ble_eq_true rfl) rfl ?_
  obtain ⟨qq, hqq⟩ : ∃ f : Nat → Nat, f = (fun j => match j with | 0 => a1 | 1 => q2 0 | 2 => q2 1 | 3 => q2 2 | 4 => q2 3 | 5 => q2 4 | 6 => q2 5 | 7 => q2 6 | 8 => q2 7 | 9 => q2 8 | 10 => q2 9 | 11 => q2 10 | 12 => q2 11 | 13 => q2 12 | 14 => a3 | 15 => q4 0 | 16 => q4 1 | 17 => q4 2 | 18 => q4 3 | 19 => q4 4 | 20 => q4 5 | 21 => q4 6 | 22 => q4 7 | 23 => q4 8 | 24 => q4 9 | 25 => q4 10 | 26 => q4 11 | 27 => q4 12 | 28 => a5 | 29 => q6 0 | 30 => q6 1 | 31 => q6 2 | 32 => q6 3 | 33 => q6 4 | 34 => q6 5 | 35 => q6 6 | 36 => q6 7 | 37 => q6 8 | 38 => q6 9 | 39 => q6 10 | 40 => q6 11 | 41 => q6 12 | 42 => q6 13 | 43 => q6 14 | 44 => q6 15 | 45 => q6 16 | 46 => q6 17 | 47 => q6 18 | 48 => q6 19 | 49 => q6 20 | 50 => q6 21 | 51 => q6 22 | 52 => q6 23 | 53 => q6 24 | 54 => q6 25 | 55 => q6 26 | 56 => q6 27 | 57 => q6 28 | 58 => q6 29 | 59 => q6 30 | 60 => q6 31 | 61 => q6 32 | 62 => q6 33 | 63 => q6 34 | 64 => q6 35 | 65 => q6 36 | 66 => q6 37 | 67 => q6 38 | 68 => q6 39 | 69 => q6 40 | 70 => q6 41 | 71 => q6 42 | 72 => q6 43 | 73 => q6 44 | 74 => q6 45 | 75 => q6 46 | 76 => q6 47 | 77 => q6 48 | 78 => q6 49 | 79 => q6 50 | 80 => q6 51 | 81 => q6 52 | 82 => q6 53 | 83 => q6 54 | 84 => q6 55 | 85 => q6 56 | 86 => q6 57 | 87 => q6 58 | 88 => q6 59 | 89 => q6 60 | 90 => q6 61 | 91 => q6 62 | 92 => q6 63 | 93 => q6 64 | 94 => q6 65 | 95 => q6 66 | 96 => q6 67 | 97 => q6 68 | 98 => q6 69 | 99 => q6 70 | 100 => a7 | 101 => q8 0 | 102 => q8 1 | 103 => q8 2 | 104 => q8 3 | 105 => a9 | 106 => q10 0 | 107 => q10 1 | 108 => a11 | 109 => q12 0 | 110 => q12 1 | _ => 0) := ⟨_, rfl⟩
  refine gc_ret (pc := 77) qq F hi dX8_init_77 ?_
  subst hqq
  rfl

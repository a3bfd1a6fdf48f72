set_option maxRecDepth 100000 in
set_option maxHeartbeats 4000000 in
theorem lb_L_law_1602 {E : En} {G : Gm} {A : Nat → Prop} {KC KS : Nat} {QQ : State → Prop} {b L : Nat} {xs : Nat → Int32} (F : Fx E G A RL cL_law 18 ret 10 398 KC KS) (S : Sc E A b L xs) (hL : L < 2000) (hE : ∀ (V : Wd) (pc : Nat) (lv : List (Nat × Value)), decode cL_law pc = .ok (.ireturn, 1) → Go E G A KC KS QQ 18 V pc lv [.int 1]) {z : Int32 × Wd} (hz : z.1 = 1) {K126 : Wd → Int32 → Option (Int32 × Wd)} (hK126 : ∀ (V1 : Wd) (a7 : Int32), K126 V1 a7 = some z → Go E G A KC KS QQ 18 V1 126 [(0, .ref b), (1, .ref (AD G 0)), (2, .ref (AD G 118)), (3, .ref (AD G 119)), (4, .ref (AD G 120)), (5, .ref (AD G 121)), (6, .ref (AD G 122)), (7, .int a7)] []) (V : Wd) (x7 : Int32) (x12 : Int32) (s0 : Int32) (s1 : Int32) (h : f_L_law_1602 xs L K126 V x7 x12 s0 s1 = some z) : Go E G A KC KS QQ 18 V 1602 [(0, .ref b), (1, .ref (AD G 0)), (2, .ref (AD G 118)), (3, .ref (AD G 119)), (4, .ref (AD G 120)), (5, .ref (AD G 121)), (6, .ref (AD G 122)), (7, .int x7), (12, .int x12)] [.int s0, .int s1, .ref (AD G 122)] := by
  unfold f_L_law_1602 at h
  refine go_jast (pc := 1602) 122 7 F dL_law_1602 (by decide) (fun _ => rfl) h (fun V159 h => ?_)
  refine go_iload (pc := 1603) F dL_law_1603 8 rfl ?_
  refine go_if_eq (pc := 1605) 1657 F dL_law_1605 (by decide) h (fun c167 h => ?_) (fun c167 h => ?_)
  · refine go_iconst (pc := 1657) 0 F dL_law_1657 (by decide) ?_
    exact go_lret (pc := 1658) hE hz dL_law_1658 h
  · refine go_aloadn (pc := 1608) F dL_law_1608 1 rfl ?_
    refine go_aloadn (pc := 1609) F dL_law_1609 2 rfl ?_
    refine go_aloadn (pc := 1610) F dL_law_1610 3 rfl ?_
    refine go_aload (pc := 1611) F dL_law_1611 4 rfl ?_
    refine go_aload (pc := 1613) F dL_law_1613 5 rfl ?_
    refine go_aload (pc := 1615) F dL_law_1615 6 rfl ?_
    obtain ⟨q160, hq160, h⟩ := ob_ h
    refine cv_L_134 (pc := 1617) F dL_law_1617 (ct_L_mast (enL E) G V159 q160 hq160) (by decide) (by decide) (Nat.le_of_ble_eq_true rfl) ?_
    refine go_if_eq (pc := 1620) 1657 F dL_law_1620 (by decide) h (fun c166 h => ?_) (fun c166 h => ?_)
    · refine go_iconst (pc := 1657) 0 F dL_law_1657 (by decide) ?_
      exact go_lret (pc := 1658) hE hz dL_law_1658 h
    · refine go_iload (pc := 1623) F dL_law_1623 7 rfl ?_
      refine go_iconst (pc := 1625) 2 F dL_law_1625 (by decide) ?_
      refine go_irem (pc := 1626) F dL_law_1626 (by decide) ?_
      refine go_iconst (pc := 1627) 1 F dL_law_1627 (by decide) ?_
      refine go_icmp_ne (pc := 1628) 1659 F dL_law_1628 (by decide) h (fun c165 h => ?_) (fun c165 h => ?_)
      · refine go_iinc (pc := 1659) (x7 + 1) (lv' := [(7, .int (x7 + 1)), (0, .ref b), (1, .ref (AD G 0)), (2, .ref (AD G 118)), (3, .ref (AD G 119)), (4, .ref (AD G 120)), (5, .ref (AD G 121)), (6, .ref (AD G 122)), (12, .int x12)]) F dL_law_1659 (k := 7) rfl rfl (by decide) rfl ?_
        refine go_goto (pc := 1662) 126 F dL_law_1662 (by decide) ?_
        exact go_sub [1, 2, 3, 4, 5, 6, 7, 0] rfl (hK126 q160.2 (x7 + 1) h)
      · refine go_aloadn (pc := 1631) F dL_law_1631 1 rfl ?_
        refine go_aloadn (pc := 1632) F dL_law_1632 2 rfl ?_
        refine go_aloadn (pc := 1633) F dL_law_1633 3 rfl ?_
        refine go_aload (pc := 1634) F dL_law_1634 4 rfl ?_
        refine go_aload (pc := 1636) F dL_law_1636 6 rfl ?_
        refine go_aloadn (pc := 1638) F dL_law_1638 0 rfl ?_
        refine go_bipush (pc := 1639) 70 F dL_law_1639 (by decide) ?_
        refine go_iload (pc := 1641) F dL_law_1641 7 rfl ?_
        refine go_iadd (pc := 1643) F dL_law_1643 ?_
        refine go_gn h (fun hc161 h => ?_)
        refine cv_cell (pc := 1644) F S hL hc161 dL_law_1644 ml_L_94 (by decide) (by decide) (Nat.le_of_ble_eq_true rfl) ?_
        refine go_iconst (pc := 1647) 4 F dL_law_1647 (by decide) ?_
        obtain ⟨y162, hy162, h⟩ := ob_ h
        refine cv_L_97 (pc := 1648) F dL_law_1648 (ct_L_low (enL E) G q160.2 (cl_ xs L (70 + x7)) 4 y162 hy162) (by decide) (by decide) (Nat.le_of_ble_eq_true rfl) ?_
        obtain ⟨q163, hq163, h⟩ := ob_ h
        refine cv_L_138 (pc := 1651) F dL_law_1651 (ct_L_ahead (enL E) G q160.2 y162 q163 hq163) (by decide) (by decide) (Nat.le_of_ble_eq_true rfl) ?_
        refine go_if_ne (pc := 1654) 1659 F dL_law_1654 (by decide) h (fun c164 h => ?_) (fun c164 h => ?_)
        · refine go_iinc (pc := 1659) (x7 + 1) (lv' := [(7, .int (x7 + 1)), (0, .ref b), (1, .ref (AD G 0)), (2, .ref (AD G 118)), (3, .ref (AD G 119)), (4, .ref (AD G 120)), (5, .ref (AD G 121)), (6, .ref (AD G 122)), (12, .int x12)]) F dL_law_1659 (k := 7) rfl rfl (by decide) rfl ?_
          refine go_goto (pc := 1662) 126 F dL_law_1662 (by decide) ?_
          exact go_sub [1, 2, 3, 4, 5, 6, 7, 0] rfl (hK126 q163.2 (x7 + 1) h)
        · refine go_iconst (pc := 1657) 0 F dL_law_1657 (by decide) ?_
          exact go_lret (pc := 1658) hE hz dL_law_1658 h
set_option maxRecDepth 100000 in
set_option maxHeartbeats 4000000 in
theorem lb_L_law_1586 {E : En} {G : Gm} {A : Nat → Prop} {KC KS : Nat} {QQ : State → Prop} {b L : Nat} {xs : Nat → Int32} (F : Fx E G A RL cL_law 18 ret 10 398 KC KS) (S : Sc E A b L xs) (hL : L < 2000) (hE : ∀ (V : Wd) (pc : Nat) (lv : List (Nat × Value)), decode cL_law pc = .ok (.ireturn, 1) → Go E G A KC KS QQ 18 V pc lv [.int 1]) {z : Int32 × Wd} (hz : z.1 = 1) {K126 : Wd → Int32 → Option (Int32 × Wd)} (hK126 : ∀ (V1 : Wd) (a7 : Int32), K126 V1 a7 = some z → Go E G A KC KS QQ 18 V1 126 [(0, .ref b), (1, .ref (AD G 0)), (2, .ref (AD G 118)), (3, .ref (AD G 119)), (4, .ref (AD G 120)), (5, .ref (AD G 121)), (6, .ref (AD G 122)), (7, .int a7)] []) (V : Wd) (x7 : Int32) (x12 : Int32) (x13 : Int32) (h : f_L_law_1586 xs L K126 V x7 x12 x13 = some z) : Go E G A KC KS QQ 18 V 1586 [(0, .ref b), (1, .ref (AD G 0)), (2, .ref (AD G 118)), (3, .ref (AD G 119)), (4, .ref (AD G 120)), (5, .ref (AD G 121)), (6, .ref (AD G 122)), (7, .int x7), (12, .int x12), (13, .int x13)] [] := by
  unfold f_L_law_1586 at h
  refine go_aload (pc := 1586) F dL_law_1586 6 rfl ?_
  refine go_iconst (pc := 1588) 4 F dL_law_1588 (by decide) ?_
  refine go_iload (pc := 1589) F dL_law_1589 9 rfl ?_
  refine go_if_eq (pc := 1591) 1598 F dL_law_1591 (by decide) h (fun c132 h => ?_) (fun c132 h => ?_)
  · refine go_aload (pc := 1598) F dL_law_1598 6 rfl ?_
    refine go_iconst (pc := 1600) 4 F dL_law_1600 (by decide) ?_
    refine go_jald (pc := 1601) 122 7 F dL_law_1601 (by decide) (fun _ => rfl) h (fun y131 h => ?_)
    exact go_sub [0, 1, 2, 3, 4, 5, 6, 7, 8] rfl (lb_L_law_1602 F S hL hE hz hK126 V x7 x12 y131 4 h)
  · refine go_iconst (pc := 1594) 0 F dL_law_1594 (by decide) ?_
    refine go_goto (pc := 1595) 1602 F dL_law_1595 (by decide) ?_
    exact go_sub [0, 1, 2, 3, 4, 5, 6, 7, 8] rfl (lb_L_law_1602 F S hL hE hz hK126 V x7 x12 0 4 h)
set_option maxRecDepth 100000 in
set_option maxHeartbeats 4000000 in
theorem lb_L_law_377 {E : En} {G : Gm} {A : Nat → Prop} {KC KS : Nat} {QQ : State → Prop} {b L : Nat} {xs : Nat → Int32} (F : Fx E G A RL cL_law 18 ret 10 398 KC KS) (S : Sc E A b L xs) (hL : L < 2000) (hE : ∀ (V : Wd) (pc : Nat) (lv : List (Nat × Value)), decode cL_law pc = .ok (.ireturn, 1) → Go E G A KC KS QQ 18 V pc lv [.int 1]) {z : Int32 × Wd} (hz : z.1 = 1) {K126 : Wd → Int32 → Option (Int32 × Wd)} (hK126 : ∀ (V1 : Wd) (a7 : Int32), K126 V1 a7 = some z → Go E G A KC KS QQ 18 V1 126 [(0, .ref b), (1, .ref (AD G 0)), (2, .ref (AD G 118)), (3, .ref (AD G 119)), (4, .ref (AD G 120)), (5, .ref (AD G 121)), (6, .ref (AD G 122)), (7, .int a7)] []) (V : Wd) (x7 : Int32) (x13 : Int32) (s0 : Int32) (h : f_L_law_377 xs L K126 V x7 x13 s0 = some z) : Go E G A KC KS QQ 18 V 377 [(0, .ref b), (1, .ref (AD G 0)), (2, .ref (AD G 118)), (3, .ref (AD G 119)), (4, .ref (AD G 120)), (5, .ref (AD G 121)), (6, .ref (AD G 122)), (7, .int x7), (13, .int x13)] [.int s0] := by
  unfold f_L_law_377 at h
  refine go_istore (pc := 377) (lv' := [(12, .int s0), (0, .ref b), (1, .ref (AD G 0)), (2, .ref (AD G 118)), (3, .ref (AD G 119)), (4, .ref (AD G 120)), (5, .ref (AD G 121)), (6, .ref (AD G 122)), (7, .int x7), (13, .int x13)]) F dL_law_377 (by decide) rfl ?_
  refine go_goto (pc := 379) 1586 F dL_law_379 (by decide) ?_
  exact go_sub [1, 2, 3, 4, 5, 6, 7, 8, 0, 9] rfl (lb_L_law_1586 F S hL hE hz hK126 V x7 s0 x13 h)
set_option maxRecDepth 100000 in
set_option maxHeartbeats 4000000 in
theorem lb_L_law_339 {E : En} {G : Gm} {A : Nat → Prop} {KC KS : Nat} {QQ : State → Prop} {b L : Nat} {xs : Nat → Int32} (F : Fx E G A RL cL_law 18 ret 10 398 KC KS) (S : Sc E A b L xs) (hL : L < 2000) (hE : ∀ (V : Wd) (pc : Nat) (lv : List (Nat × Value)), decode cL_law pc = .ok (.ireturn, 1) → Go E G A KC KS QQ 18 V pc lv [.int 1]) {z : Int32 × Wd} (hz : z.1 = 1) {K126 : Wd → Int32 → Option (Int32 × Wd)} (hK126 : ∀ (V1 : Wd) (a7 : Int32), K126 V1 a7 = some z → Go E G A KC KS QQ 18 V1 126 [(0, .ref b), (1, .ref (AD G 0)), (2, .ref (AD G 118)), (3, .ref (AD G 119)), (4, .ref (AD G 120)), (5, .ref (AD G 121)), (6, .ref (AD G 122)), (7, .int a7)] []) (V : Wd) (x7 : Int32) (x13 : Int32) (x14 : Int32) (x15 : Int32) (h : f_L_law_339 xs L K126 V x7 x13 x14 x15 = some z) : Go E G A KC KS QQ 18 V 339 [(0, .ref b), (1, .ref (AD G 0)), (2, .ref (AD G 118)), (3, .ref (AD G 119)), (4, .ref (AD G 120)), (5, .ref (AD G 121)), (6, .ref (AD G 122)), (7, .int x7), (13, .int x13), (14, .int x14), (15, .int x15)] [] := by
  unfold f_L_law_339 at h
  refine go_aloadn (pc := 339) F dL_law_339 1 rfl ?_
  refine go_iload (pc := 340) F dL_law_340 9 rfl ?_
  refine go_aloadn (pc := 342) F dL_law_342 2 rfl ?_
  refine go_iconst (pc := 343) 3 F dL_law_343 (by decide) ?_
  refine go_iload (pc := 344) F dL_law_344 9 rfl ?_
  refine go_imul (pc := 346) F dL_law_346 ?_
  refine go_jald (pc := 347) 118 30 F dL_law_347 (by decide) (fun _ => rfl) h (fun y197 h => ?_)
  refine go_aloadn (pc := 348) F dL_law_348 2 rfl ?_
  refine go_iconst (pc := 349) 3 F dL_law_349 (by decide) ?_
  refine go_iload (pc := 350) F dL_law_350 9 rfl ?_
  refine go_imul (pc := 352) F dL_law_352 ?_
  refine go_iconst (pc := 353) 1 F dL_law_353 (by decide) ?_
  refine go_iadd (pc := 354) F dL_law_354 ?_
  refine go_jald (pc := 355) 118 30 F dL_law_355 (by decide) (fun _ => rfl) h (fun y198 h => ?_)
  refine go_aloadn (pc := 356) F dL_law_356 2 rfl ?_
  refine go_iconst (pc := 357) 3 F dL_law_357 (by decide) ?_
  refine go_iload (pc := 358) F dL_law_358 9 rfl ?_
  refine go_imul (pc := 360) F dL_law_360 ?_
  refine go_iconst (pc := 361) 2 F dL_law_361 (by decide) ?_
  refine go_iadd (pc := 362) F dL_law_362 ?_
  refine go_jald (pc := 363) 118 30 F dL_law_363 (by decide) (fun _ => rfl) h (fun y199 h => ?_)
  obtain ⟨q200, hq200, h⟩ := ob_ h
  refine cv_L_100 (pc := 364) F dL_law_364 rfl (ct_X8_paint (enL E) G V x14 y197 y198 y199 q200 hq200) (by decide) (by decide) (Nat.le_of_ble_eq_true rfl) ?_
  obtain ⟨q201, hq201, h⟩ := ob_ h
  refine go_gx h (fun V202 h => ?_)
  refine go_iload (pc := 367) F dL_law_367 10 rfl ?_
  refine go_icmp_ne (pc := 369) 376 F dL_law_369 (by decide) h (fun c203 h => ?_) (fun c203 h => ?_)
  · refine go_iconst (pc := 376) 0 F dL_law_376 (by decide) ?_
    exact go_sub [0, 1, 2, 3, 4, 5, 6, 7, 8] rfl (lb_L_law_377 F S hL hE hz hK126 V202 x7 x13 0 h)
  · refine go_iconst (pc := 372) 1 F dL_law_372 (by decide) ?_
    refine go_goto (pc := 373) 377 F dL_law_373 (by decide) ?_
    exact go_sub [0, 1, 2, 3, 4, 5, 6, 7, 8] rfl (lb_L_law_377 F S hL hE hz hK126 V202 x7 x13 1 h)
set_option maxRecDepth 100000 in
set_option maxHeartbeats 4000000 in
theorem lb_L_law_282 {E : En} {G : Gm} {A : Nat → Prop} {KC KS : Nat} {QQ : State → Prop} {b L : Nat} {xs : Nat → Int32} (F : Fx E G A RL cL_law 18 ret 10 398 KC KS) (S : Sc E A b L xs) (hL : L < 2000) (hE : ∀ (V : Wd) (pc : Nat) (lv : List (Nat × Value)), decode cL_law pc = .ok (.ireturn, 1) → Go E G A KC KS QQ 18 V pc lv [.int 1]) {z : Int32 × Wd} (hz : z.1 = 1) {K126 : Wd → Int32 → Option (Int32 × Wd)} (hK126 : ∀ (V1 : Wd) (a7 : Int32), K126 V1 a7 = some z → Go E G A KC KS QQ 18 V1 126 [(0, .ref b), (1, .ref (AD G 0)), (2, .ref (AD G 118)), (3, .ref (AD G 119)), (4, .ref (AD G 120)), (5, .ref (AD G 121)), (6, .ref (AD G 122)), (7, .int a7)] []) : ∀ (n : Nat) (V : Wd) (x7 : Int32) (x13 : Int32) (x14 : Int32) (x15 : Int32) (x16 : Int32), f_L_law_282 xs L K126 n V x7 x13 x14 x15 x16 = some z → Go E G A KC KS QQ 18 V 282 [(0, .ref b), (1, .ref (AD G 0)), (2, .ref (AD G 118)), (3, .ref (AD G 119)), (4, .ref (AD G 120)), (5, .ref (AD G 121)), (6, .ref (AD G 122)), (7, .int x7), (13, .int x13), (14, .int x14), (15, .int x15), (16, .int x16)] [] := by
  intro n
  induction n with
  | zero => intro V x7 x13 x14 x15 x16 h; cases h
  | succ n ih =>
    intro V x7 x13 x14 x15 x16 h
    rw [f_L_law_282] at h
    refine go_iload (pc := 282) F dL_law_282 11 rfl ?_
    refine go_bipush (pc := 284) 10 F dL_law_284 (by decide) ?_
    refine go_icmp_ge (pc := 286) 339 F dL_law_286 (by decide) h (fun c178 h => ?_) (fun c178 h => ?_)
    · exact go_sub [0, 1, 2, 3, 4, 5, 6, 7, 8, 9, 10] rfl (lb_L_law_339 F S hL hE hz hK126 V x7 x13 x14 x15 h)
    · refine go_iload (pc := 289) F dL_law_289 10 rfl ?_
      refine go_aloadn (pc := 291) F dL_law_291 2 rfl ?_
      refine go_iconst (pc := 292) 3 F dL_law_292 (by decide) ?_
      refine go_iload (pc := 293) F dL_law_293 11 rfl ?_
      refine go_imul (pc := 295) F dL_law_295 ?_
      refine go_jald (pc := 296) 118 30 F dL_law_296 (by decide) (fun _ => rfl) h (fun y169 h => ?_)
      refine go_aloadn (pc := 297) F dL_law_297 2 rfl ?_
      refine go_iconst (pc := 298) 3 F dL_law_298 (by decide) ?_
      refine go_iload (pc := 299) F dL_law_299 9 rfl ?_
      refine go_imul (pc := 301) F dL_law_301 ?_
      refine go_jald (pc := 302) 118 30 F dL_law_302 (by decide) (fun _ => rfl) h (fun y170 h => ?_)
      refine go_icmp_ne (pc := 303) 329 F dL_law_303 (by decide) h (fun c177 h => ?_) (fun c177 h => ?_)
      · refine go_iconst (pc := 329) 0 F dL_law_329 (by decide) ?_
        refine go_iadd (pc := 330) F dL_law_330 ?_
        refine go_topi h (fun y171 h => ?_)
        refine go_istore (pc := 331) (lv' := [(15, .int y171), (0, .ref b), (1, .ref (AD G 0)), (2, .ref (AD G 118)), (3, .ref (AD G 119)), (4, .ref (AD G 120)), (5, .ref (AD G 121)), (6, .ref (AD G 122)), (7, .int x7), (13, .int x13), (14, .int x14), (16, .int x16)]) F dL_law_331 (by decide) rfl ?_
        refine go_iinc (pc := 333) (x16 + 1) (lv' := [(16, .int (x16 + 1)), (15, .int y171), (0, .ref b), (1, .ref (AD G 0)), (2, .ref (AD G 118)), (3, .ref (AD G 119)), (4, .ref (AD G 120)), (5, .ref (AD G 121)), (6, .ref (AD G 122)), (7, .int x7), (13, .int x13), (14, .int x14)]) F dL_law_333 (k := 11) rfl rfl (by decide) rfl ?_
        refine go_goto (pc := 336) 282 F dL_law_336 (by decide) ?_
        exact go_sub [2, 3, 4, 5, 6, 7, 8, 9, 10, 11, 1, 0] rfl (ih V x7 x13 x14 y171 (x16 + 1) h)
      · refine go_aloadn (pc := 306) F dL_law_306 2 rfl ?_
        refine go_iconst (pc := 307) 3 F dL_law_307 (by decide) ?_
        refine go_iload (pc := 308) F dL_law_308 11 rfl ?_
        refine go_imul (pc := 310) F dL_law_310 ?_
        refine go_iconst (pc := 311) 1 F dL_law_311 (by decide) ?_
        refine go_iadd (pc := 312) F dL_law_312 ?_
        refine go_jald (pc := 313) 118 30 F dL_law_313 (by decide) (fun _ => rfl) h (fun y172 h => ?_)
        refine go_aloadn (pc := 314) F dL_law_314 2 rfl ?_
        refine go_iconst (pc := 315) 3 F dL_law_315 (by decide) ?_
        refine go_iload (pc := 316) F dL_law_316 9 rfl ?_
        refine go_imul (pc := 318) F dL_law_318 ?_
        refine go_iconst (pc := 319) 1 F dL_law_319 (by decide) ?_
        refine go_iadd (pc := 320) F dL_law_320 ?_
        refine go_jald (pc := 321) 118 30 F dL_law_321 (by decide) (fun _ => rfl) h (fun y173 h => ?_)
        refine go_icmp_ne (pc := 322) 329 F dL_law_322 (by decide) h (fun c176 h => ?_) (fun c176 h => ?_)
        · refine go_iconst (pc := 329) 0 F dL_law_329 (by decide) ?_
          refine go_iadd (pc := 330) F dL_law_330 ?_
          refine go_topi h (fun y174 h => ?_)
          refine go_istore (pc := 331) (lv' := [(15, .int y174), (0, .ref b), (1, .ref (AD G 0)), (2, .ref (AD G 118)), (3, .ref (AD G 119)), (4, .ref (AD G 120)), (5, .ref (AD G 121)), (6, .ref (AD G 122)), (7, .int x7), (13, .int x13), (14, .int x14), (16, .int x16)]) F dL_law_331 (by decide) rfl ?_
          refine go_iinc (pc := 333) (x16 + 1) (lv' := [(16, .int (x16 + 1)), (15, .int y174), (0, .ref b), (1, .ref (AD G 0)), (2, .ref (AD G 118)), (3, .ref (AD G 119)), (4, .ref (AD G 120)), (5, .ref (AD G 121)), (6, .ref (AD G 122)), (7, .int x7), (13, .int x13), (14, .int x14)]) F dL_law_333 (k := 11) rfl rfl (by decide) rfl ?_
          refine go_goto (pc := 336) 282 F dL_law_336 (by decide) ?_
          exact go_sub [2, 3, 4, 5, 6, 7, 8, 9, 10, 11, 1, 0] rfl (ih V x7 x13 x14 y174 (x16 + 1) h)
        · refine go_iconst (pc := 325) 1 F dL_law_325 (by decide) ?_
          refine go_goto (pc := 326) 330 F dL_law_326 (by decide) ?_
          refine go_iadd (pc := 330) F dL_law_330 ?_
          refine go_topi h (fun y175 h => ?_)
          refine go_istore (pc := 331) (lv' := [(15, .int y175), (0, .ref b), (1, .ref (AD G 0)), (2, .ref (AD G 118)), (3, .ref (AD G 119)), (4, .ref (AD G 120)), (5, .ref (AD G 121)), (6, .ref (AD G 122)), (7, .int x7), (13, .int x13), (14, .int x14), (16, .int x16)]) F dL_law_331 (by decide) rfl ?_
          refine go_iinc (pc := 333) (x16 + 1) (lv' := [(16, .int (x16 + 1)), (15, .int y175), (0, .ref b), (1, .ref (AD G 0)), (2, .ref (AD G 118)), (3, .ref (AD G 119)), (4, .ref (AD G 120)), (5, .ref (AD G 121)), (6, .ref (AD G 122)), (7, .int x7), (13, .int x13), (14, .int x14)]) F dL_law_333 (k := 11) rfl rfl (by decide) rfl ?_
          refine go_goto (pc := 336) 282 F dL_law_336 (by decide) ?_
          exact go_sub [2, 3, 4, 5, 6, 7, 8, 9, 10, 11, 1, 0] rfl (ih V x7 x13 x14 y175 (x16 + 1) h)
set_option maxRecDepth 100000 in
set_option maxHeartbeats 4000000 in
theorem lb_L_law_254 {E : En} {G : Gm} {A : Nat → Prop} {KC KS : Nat} {QQ : State → Prop} {b L : Nat} {xs : Nat → Int32} (F : Fx E G A RL cL_law 18 ret 10 398 KC KS) (S : Sc E A b L xs) (hL : L < 2000) (hE : ∀ (V : Wd) (pc : Nat) (lv : List (Nat × Value)), decode cL_law pc = .ok (.ireturn, 1) → Go E G A KC KS QQ 18 V pc lv [.int 1]) {z : Int32 × Wd} (hz : z.1 = 1) {K126 : Wd → Int32 → Option (Int32 × Wd)} (hK126 : ∀ (V1 : Wd) (a7 : Int32), K126 V1 a7 = some z → Go E G A KC KS QQ 18 V1 126 [(0, .ref b), (1, .ref (AD G 0)), (2, .ref (AD G 118)), (3, .ref (AD G 119)), (4, .ref (AD G 120)), (5, .ref (AD G 121)), (6, .ref (AD G 122)), (7, .int a7)] []) (V : Wd) (x7 : Int32) (x8 : Int32) (x13 : Int32) (x14 : Int32) (s0 : Int32) (s1 : Int32) (s2 : Int32) (h : f_L_law_254 xs L K126 V x7 x8 x13 x14 s0 s1 s2 = some z) : Go E G A KC KS QQ 18 V 254 [(0, .ref b), (1, .ref (AD G 0)), (2, .ref (AD G 118)), (3, .ref (AD G 119)), (4, .ref (AD G 120)), (5, .ref (AD G 121)), (6, .ref (AD G 122)), (7, .int x7), (8, .int x8), (13, .int x13), (14, .int x14)] [.int s0, .int s1, .int s2, .ref (AD G 118)] := by
  unfold f_L_law_254 at h
  obtain ⟨y138, hy138, h⟩ := ob_ h
  refine cv_L_97 (pc := 254) F dL_law_254 (ct_L_low (enL E) G V s1 s0 y138 hy138) (by decide) (by decide) (Nat.le_of_ble_eq_true rfl) ?_
  refine go_jast (pc := 257) 118 30 F dL_law_257 (by decide) (fun _ => rfl) h (fun V139 h => ?_)
  refine go_aloadn (pc := 258) F dL_law_258 2 rfl ?_
  refine go_iconst (pc := 259) 3 F dL_law_259 (by decide) ?_
  refine go_iload (pc := 260) F dL_law_260 10 rfl ?_
  refine go_imul (pc := 262) F dL_law_262 ?_
  refine go_iconst (pc := 263) 2 F dL_law_263 (by decide) ?_
  refine go_iadd (pc := 264) F dL_law_264 ?_
  refine go_iload (pc := 265) F dL_law_265 8 rfl ?_
  refine go_bipush (pc := 267) 18 F dL_law_267 (by decide) ?_
  refine go_ishr (pc := 269) F dL_law_269 ?_
  refine go_bipush (pc := 270) 10 F dL_law_270 (by decide) ?_
  obtain ⟨y140, hy140, h⟩ := ob_ h
  refine cv_L_97 (pc := 272) F dL_law_272 (ct_L_low (enL E) G V139 (x8 >>> (18 &&& 31)) 10 y140 hy140) (by decide) (by decide) (Nat.le_of_ble_eq_true rfl) ?_
  refine go_jast (pc := 275) 118 30 F dL_law_275 (by decide) (fun _ => rfl) h (fun V141 h => ?_)
  refine go_iconst (pc := 276) 0 F dL_law_276 (by decide) ?_
  refine go_istore (pc := 277) (lv' := [(15, .int 0), (0, .ref b), (1, .ref (AD G 0)), (2, .ref (AD G 118)), (3, .ref (AD G 119)), (4, .ref (AD G 120)), (5, .ref (AD G 121)), (6, .ref (AD G 122)), (7, .int x7), (8, .int x8), (13, .int x13), (14, .int x14)]) F dL_law_277 (by decide) rfl ?_
  refine go_iconst (pc := 279) 0 F dL_law_279 (by decide) ?_
  refine go_istore (pc := 280) (lv' := [(16, .int 0), (15, .int 0), (0, .ref b), (1, .ref (AD G 0)), (2, .ref (AD G 118)), (3, .ref (AD G 119)), (4, .ref (AD G 120)), (5, .ref (AD G 121)), (6, .ref (AD G 122)), (7, .int x7), (8, .int x8), (13, .int x13), (14, .int x14)]) F dL_law_280 (by decide) rfl ?_
  exact go_sub [2, 3, 4, 5, 6, 7, 8, 9, 11, 12, 1, 0] rfl (lb_L_law_282 F S hL hE hz hK126 FU_ V141 x7 x13 x14 0 0 h)
set_option maxRecDepth 100000 in
set_option maxHeartbeats 4000000 in
theorem lb_L_law_220 {E : En} {G : Gm} {A : Nat → Prop} {KC KS : Nat} {QQ : State → Prop} {b L : Nat} {xs : Nat → Int32} (F : Fx E G A RL cL_law 18 ret 10 398 KC KS) (S : Sc E A b L xs) (hL : L < 2000) (hE : ∀ (V : Wd) (pc : Nat) (lv : List (Nat × Value)), decode cL_law pc = .ok (.ireturn, 1) → Go E G A KC KS QQ 18 V pc lv [.int 1]) {z : Int32 × Wd} (hz : z.1 = 1) {K126 : Wd → Int32 → Option (Int32 × Wd)} (hK126 : ∀ (V1 : Wd) (a7 : Int32), K126 V1 a7 = some z → Go E G A KC KS QQ 18 V1 126 [(0, .ref b), (1, .ref (AD G 0)), (2, .ref (AD G 118)), (3, .ref (AD G 119)), (4, .ref (AD G 120)), (5, .ref (AD G 121)), (6, .ref (AD G 122)), (7, .int a7)] []) (V : Wd) (x7 : Int32) (x8 : Int32) (x13 : Int32) (x14 : Int32) (s0 : Int32) (s1 : Int32) (s2 : Int32) (h : f_L_law_220 xs L K126 V x7 x8 x13 x14 s0 s1 s2 = some z) : Go E G A KC KS QQ 18 V 220 [(0, .ref b), (1, .ref (AD G 0)), (2, .ref (AD G 118)), (3, .ref (AD G 119)), (4, .ref (AD G 120)), (5, .ref (AD G 121)), (6, .ref (AD G 122)), (7, .int x7), (8, .int x8), (13, .int x13), (14, .int x14)] [.int s0, .int s1, .int s2, .ref (AD G 118)] := by
  unfold f_L_law_220 at h
  obtain ⟨y99, hy99, h⟩ := ob_ h
  refine cv_L_97 (pc := 220) F dL_law_220 (ct_L_low (enL E) G V s1 s0 y99 hy99) (by decide) (by decide) (Nat.le_of_ble_eq_true rfl) ?_
  refine go_jast (pc := 223) 118 30 F dL_law_223 (by decide) (fun _ => rfl) h (fun V100 h => ?_)
  refine go_aloadn (pc := 224) F dL_law_224 2 rfl ?_
  refine go_iconst (pc := 225) 3 F dL_law_225 (by decide) ?_
  refine go_iload (pc := 226) F dL_law_226 10 rfl ?_
  refine go_imul (pc := 228) F dL_law_228 ?_
  refine go_iconst (pc := 229) 1 F dL_law_229 (by decide) ?_
  refine go_iadd (pc := 230) F dL_law_230 ?_
  refine go_iload (pc := 231) F dL_law_231 8 rfl ?_
  refine go_bipush (pc := 233) 15 F dL_law_233 (by decide) ?_
  refine go_ishr (pc := 235) F dL_law_235 ?_
  refine go_iload (pc := 236) F dL_law_236 8 rfl ?_
  refine go_bipush (pc := 238) 25 F dL_law_238 (by decide) ?_
  refine go_ishr (pc := 240) F dL_law_240 ?_
  refine go_iconst (pc := 241) 2 F dL_law_241 (by decide) ?_
  obtain ⟨y101, hy101, h⟩ := ob_ h
  refine cv_L_97 (pc := 242) F dL_law_242 (ct_L_low (enL E) G V100 (x8 >>> (25 &&& 31)) 2 y101 hy101) (by decide) (by decide) (Nat.le_of_ble_eq_true rfl) ?_
  refine go_if_ne (pc := 245) 253 F dL_law_245 (by decide) h (fun c102 h => ?_) (fun c102 h => ?_)
  · refine go_iconst (pc := 253) 2 F dL_law_253 (by decide) ?_
    exact go_sub [0, 1, 2, 3, 4, 5, 6, 7, 8, 9, 10] rfl (lb_L_law_254 F S hL hE hz hK126 V100 x7 x8 x13 x14 2 (x8 >>> (15 &&& 31)) ((3 * x14) + 1) h)
  · refine go_bipush (pc := 248) 8 F dL_law_248 (by decide) ?_
    refine go_goto (pc := 250) 254 F dL_law_250 (by decide) ?_
    exact go_sub [0, 1, 2, 3, 4, 5, 6, 7, 8, 9, 10] rfl (lb_L_law_254 F S hL hE hz hK126 V100 x7 x8 x13 x14 8 (x8 >>> (15 &&& 31)) ((3 * x14) + 1) h)
set_option maxRecDepth 100000 in
set_option maxHeartbeats 4000000 in
theorem lb_L_law_493 {E : En} {G : Gm} {A : Nat → Prop} {KC KS : Nat} {QQ : State → Prop} {b L : Nat} {xs : Nat → Int32} (F : Fx E G A RL cL_law 18 ret 10 398 KC KS) (S : Sc E A b L xs) (hL : L < 2000) (hE : ∀ (V : Wd) (pc : Nat) (lv : List (Nat × Value)), decode cL_law pc = .ok (.ireturn, 1) → Go E G A KC KS QQ 18 V pc lv [.int 1]) {z : Int32 × Wd} (hz : z.1 = 1) {K126 : Wd → Int32 → Option (Int32 × Wd)} (hK126 : ∀ (V1 : Wd) (a7 : Int32), K126 V1 a7 = some z → Go E G A KC KS QQ 18 V1 126 [(0, .ref b), (1, .ref (AD G 0)), (2, .ref (AD G 118)), (3, .ref (AD G 119)), (4, .ref (AD G 120)), (5, .ref (AD G 121)), (6, .ref (AD G 122)), (7, .int a7)] []) (V : Wd) (x7 : Int32) (x12 : Int32) (x13 : Int32) (s0 : Int32) (s1 : Int32) (h : f_L_law_493 xs L K126 V x7 x12 x13 s0 s1 = some z) : Go E G A KC KS QQ 18 V 493 [(0, .ref b), (1, .ref (AD G 0)), (2, .ref (AD G 118)), (3, .ref (AD G 119)), (4, .ref (AD G 120)), (5, .ref (AD G 121)), (6, .ref (AD G 122)), (7, .int x7), (12, .int x12), (13, .int x13)] [.int s0, .int s1, .ref (AD G 122)] := by
  unfold f_L_law_493 at h
  refine go_jast (pc := 493) 122 7 F dL_law_493 (by decide) (fun _ => rfl) h (fun V223 h => ?_)
  refine go_goto (pc := 494) 1586 F dL_law_494 (by decide) ?_
  exact go_sub [0, 1, 2, 3, 4, 5, 6, 7, 8, 9] rfl (lb_L_law_1586 F S hL hE hz hK126 V223 x7 x12 x13 h)
set_option maxRecDepth 100000 in
set_option maxHeartbeats 4000000 in
theorem lb_L_law_474 {E : En} {G : Gm} {A : Nat → Prop} {KC KS : Nat} {QQ : State → Prop} {b L : Nat} {xs : Nat → Int32} (F : Fx E G A RL cL_law 18 ret 10 398 KC KS) (S : Sc E A b L xs) (hL : L < 2000) (hE : ∀ (V : Wd) (pc : Nat) (lv : List (Nat × Value)), decode cL_law pc = .ok (.ireturn, 1) → Go E G A KC KS QQ 18 V pc lv [.int 1]) {z : Int32 × Wd} (hz : z.1 = 1) {K126 : Wd → Int32 → Option (Int32 × Wd)} (hK126 : ∀ (V1 : Wd) (a7 : Int32), K126 V1 a7 = some z → Go E G A KC KS QQ 18 V1 126 [(0, .ref b), (1, .ref (AD G 0)), (2, .ref (AD G 118)), (3, .ref (AD G 119)), (4, .ref (AD G 120)), (5, .ref (AD G 121)), (6, .ref (AD G 122)), (7, .int a7)] []) (V : Wd) (x7 : Int32) (x13 : Int32) (x14 : Int32) (x15 : Int32) (s0 : Int32) (h : f_L_law_474 xs L K126 V x7 x13 x14 x15 s0 = some z) : Go E G A KC KS QQ 18 V 474 [(0, .ref b), (1, .ref (AD G 0)), (2, .ref (AD G 118)), (3, .ref (AD G 119)), (4, .ref (AD G 120)), (5, .ref (AD G 121)), (6, .ref (AD G 122)), (7, .int x7), (13, .int x13), (14, .int x14), (15, .int x15)] [.int s0] := by
  unfold f_L_law_474 at h
  refine go_istore (pc := 474) (lv' := [(12, .int s0), (0, .ref b), (1, .ref (AD G 0)), (2, .ref (AD G 118)), (3, .ref (AD G 119)), (4, .ref (AD G 120)), (5, .ref (AD G 121)), (6, .ref (AD G 122)), (7, .int x7), (13, .int x13), (14, .int x14), (15, .int x15)]) F dL_law_474 (by decide) rfl ?_
  refine go_aload (pc := 476) F dL_law_476 7 rfl ?_
  refine go_iconst (pc := 478) 0 F dL_law_478 (by decide) ?_
  refine go_iload (pc := 479) F dL_law_479 11 rfl ?_
  refine go_if_eq (pc := 481) 489 F dL_law_481 (by decide) h (fun c196 h => ?_) (fun c196 h => ?_)
  · refine go_aload (pc := 489) F dL_law_489 7 rfl ?_
    refine go_iconst (pc := 491) 0 F dL_law_491 (by decide) ?_
    refine go_jald (pc := 492) 122 7 F dL_law_492 (by decide) (fun _ => rfl) h (fun y195 h => ?_)
    exact go_sub [1, 2, 3, 4, 5, 6, 7, 8, 0, 9] rfl (lb_L_law_493 F S hL hE hz hK126 V x7 s0 x13 y195 0 h)
  · refine go_iload (pc := 484) F dL_law_484 10 rfl ?_
    refine go_goto (pc := 486) 493 F dL_law_486 (by decide) ?_
    exact go_sub [1, 2, 3, 4, 5, 6, 7, 8, 0, 9] rfl (lb_L_law_493 F S hL hE hz hK126 V x7 s0 x13 x14 0 h)
set_option maxRecDepth 100000 in
set_option maxHeartbeats 4000000 in
theorem lb_L_law_466 {E : En} {G : Gm} {A : Nat → Prop} {KC KS : Nat} {QQ : State → Prop} {b L : Nat} {xs : Nat → Int32} (F : Fx E G A RL cL_law 18 ret 10 398 KC KS) (S : Sc E A b L xs) (hL : L < 2000) (hE : ∀ (V : Wd) (pc : Nat) (lv : List (Nat × Value)), decode cL_law pc = .ok (.ireturn, 1) → Go E G A KC KS QQ 18 V pc lv [.int 1]) {z : Int32 × Wd} (hz : z.1 = 1) {K126 : Wd → Int32 → Option (Int32 × Wd)} (hK126 : ∀ (V1 : Wd) (a7 : Int32), K126 V1 a7 = some z → Go E G A KC KS QQ 18 V1 126 [(0, .ref b), (1, .ref (AD G 0)), (2, .ref (AD G 118)), (3, .ref (AD G 119)), (4, .ref (AD G 120)), (5, .ref (AD G 121)), (6, .ref (AD G 122)), (7, .int a7)] []) (V : Wd) (x7 : Int32) (x13 : Int32) (x14 : Int32) (x15 : Int32) (s0 : Int32) (s1 : Int32) (h : f_L_law_466 xs L K126 V x7 x13 x14 x15 s0 s1 = some z) : Go E G A KC KS QQ 18 V 466 [(0, .ref b), (1, .ref (AD G 0)), (2, .ref (AD G 118)), (3, .ref (AD G 119)), (4, .ref (AD G 120)), (5, .ref (AD G 121)), (6, .ref (AD G 122)), (7, .int x7), (13, .int x13), (14, .int x14), (15, .int x15)] [.int s0, .int s1] := by
  unfold f_L_law_466 at h
  refine go_icmp_ne (pc := 466) 473 F dL_law_466 (by decide) h (fun c168 h => ?_) (fun c168 h => ?_)
  · refine go_iconst (pc := 473) 0 F dL_law_473 (by decide) ?_
    exact go_sub [0, 1, 2, 3, 4, 5, 6, 7, 8, 9, 10] rfl (lb_L_law_474 F S hL hE hz hK126 V x7 x13 x14 x15 0 h)
  · refine go_iconst (pc := 469) 1 F dL_law_469 (by decide) ?_
    refine go_goto (pc := 470) 474 F dL_law_470 (by decide) ?_
    exact go_sub [0, 1, 2, 3, 4, 5, 6, 7, 8, 9, 10] rfl (lb_L_law_474 F S hL hE hz hK126 V x7 x13 x14 x15 1 h)
set_option maxRecDepth 100000 in
set_option maxHeartbeats 4000000 in
theorem lb_L_law_443 {E : En} {G : Gm} {A : Nat → Prop} {KC KS : Nat} {QQ : State → Prop} {b L : Nat} {xs : Nat → Int32} (F : Fx E G A RL cL_law 18 ret 10 398 KC KS) (S : Sc E A b L xs) (hL : L < 2000) (hE : ∀ (V : Wd) (pc : Nat) (lv : List (Nat × Value)), decode cL_law pc = .ok (.ireturn, 1) → Go E G A KC KS QQ 18 V pc lv [.int 1]) {z : Int32 × Wd} (hz : z.1 = 1) {K126 : Wd → Int32 → Option (Int32 × Wd)} (hK126 : ∀ (V1 : Wd) (a7 : Int32), K126 V1 a7 = some z → Go E G A KC KS QQ 18 V1 126 [(0, .ref b), (1, .ref (AD G 0)), (2, .ref (AD G 118)), (3, .ref (AD G 119)), (4, .ref (AD G 120)), (5, .ref (AD G 121)), (6, .ref (AD G 122)), (7, .int a7)] []) (V : Wd) (x7 : Int32) (x14 : Int32) (x15 : Int32) (h : f_L_law_443 xs L K126 V x7 x14 x15 = some z) : Go E G A KC KS QQ 18 V 443 [(0, .ref b), (1, .ref (AD G 0)), (2, .ref (AD G 118)), (3, .ref (AD G 119)), (4, .ref (AD G 120)), (5, .ref (AD G 121)), (6, .ref (AD G 122)), (7, .int x7), (14, .int x14), (15, .int x15)] [] := by
  unfold f_L_law_443 at h
  refine go_iconst (pc := 443) 0 F dL_law_443 (by decide) ?_
  refine go_istore (pc := 444) (lv' := [(13, .int 0), (0, .ref b), (1, .ref (AD G 0)), (2, .ref (AD G 118)), (3, .ref (AD G 119)), (4, .ref (AD G 120)), (5, .ref (AD G 121)), (6, .ref (AD G 122)), (7, .int x7), (14, .int x14), (15, .int x15)]) F dL_law_444 (by decide) rfl ?_
  refine go_aloadn (pc := 446) F dL_law_446 2 rfl ?_
  refine go_iload (pc := 447) F dL_law_447 9 rfl ?_
  obtain ⟨q133, hq133, h⟩ := ob_ h
  refine cv_L_104 (pc := 449) F dL_law_449 rfl (ct_X8_setStock (enL E) G V x14 q133 hq133) (by decide) (by decide) (Nat.le_of_ble_eq_true rfl) ?_
  obtain ⟨q134, hq134, h⟩ := ob_ h
  refine go_gx h (fun V135 h => ?_)
  refine go_iload (pc := 452) F dL_law_452 10 rfl ?_
  refine go_if_eq (pc := 454) 464 F dL_law_454 (by decide) h (fun c137 h => ?_) (fun c137 h => ?_)
  · refine go_bipush (pc := 464) (-3) F dL_law_464 (by decide) ?_
    exact go_sub [1, 2, 3, 4, 5, 6, 7, 8, 0, 9, 10] rfl (lb_L_law_466 F S hL hE hz hK126 V135 x7 0 x14 x15 (-3) q133.1 h)
  · refine go_aload (pc := 457) F dL_law_457 7 rfl ?_
    refine go_iconst (pc := 459) 0 F dL_law_459 (by decide) ?_
    refine go_jald (pc := 460) 122 7 F dL_law_460 (by decide) (fun _ => rfl) h (fun y136 h => ?_)
    refine go_goto (pc := 461) 466 F dL_law_461 (by decide) ?_
    exact go_sub [1, 2, 3, 4, 5, 6, 7, 8, 0, 9, 10] rfl (lb_L_law_466 F S hL hE hz hK126 V135 x7 0 x14 x15 y136 q133.1 h)
set_option maxRecDepth 100000 in
set_option maxHeartbeats 4000000 in
theorem lb_L_law_407 {E : En} {G : Gm} {A : Nat → Prop} {KC KS : Nat} {QQ : State → Prop} {b L : Nat} {xs : Nat → Int32} (F : Fx E G A RL cL_law 18 ret 10 398 KC KS) (S : Sc E A b L xs) (hL : L < 2000) (hE : ∀ (V : Wd) (pc : Nat) (lv : List (Nat × Value)), decode cL_law pc = .ok (.ireturn, 1) → Go E G A KC KS QQ 18 V pc lv [.int 1]) {z : Int32 × Wd} (hz : z.1 = 1) {K126 : Wd → Int32 → Option (Int32 × Wd)} (hK126 : ∀ (V1 : Wd) (a7 : Int32), K126 V1 a7 = some z → Go E G A KC KS QQ 18 V1 126 [(0, .ref b), (1, .ref (AD G 0)), (2, .ref (AD G 118)), (3, .ref (AD G 119)), (4, .ref (AD G 120)), (5, .ref (AD G 121)), (6, .ref (AD G 122)), (7, .int a7)] []) : ∀ (n : Nat) (V : Wd) (x7 : Int32) (x14 : Int32) (x15 : Int32) (x16 : Int32), f_L_law_407 xs L K126 n V x7 x14 x15 x16 = some z → Go E G A KC KS QQ 18 V 407 [(0, .ref b), (1, .ref (AD G 0)), (2, .ref (AD G 118)), (3, .ref (AD G 119)), (4, .ref (AD G 120)), (5, .ref (AD G 121)), (6, .ref (AD G 122)), (7, .int x7), (14, .int x14), (15, .int x15), (16, .int x16)] [] := by
  intro n
  induction n with
  | zero => intro V x7 x14 x15 x16 h; cases h
  | succ n ih =>
    intro V x7 x14 x15 x16 h
    rw [f_L_law_407] at h
    refine go_iload (pc := 407) F dL_law_407 10 rfl ?_
    refine go_bipush (pc := 409) 14 F dL_law_409 (by decide) ?_
    refine go_icmp_ge (pc := 411) 443 F dL_law_411 (by decide) h (fun c98 h => ?_) (fun c98 h => ?_)
    · exact go_sub [0, 1, 2, 3, 4, 5, 6, 7, 8, 9] rfl (lb_L_law_443 F S hL hE hz hK126 V x7 x14 x15 h)
    · refine go_iload (pc := 414) F dL_law_414 9 rfl ?_
      refine go_if_eq (pc := 416) 434 F dL_law_416 (by decide) h (fun c97 h => ?_) (fun c97 h => ?_)
      · refine go_iconst (pc := 434) 0 F dL_law_434 (by decide) ?_
        refine go_istore (pc := 435) (lv' := [(15, .int 0), (0, .ref b), (1, .ref (AD G 0)), (2, .ref (AD G 118)), (3, .ref (AD G 119)), (4, .ref (AD G 120)), (5, .ref (AD G 121)), (6, .ref (AD G 122)), (7, .int x7), (14, .int x14), (16, .int x16)]) F dL_law_435 (by decide) rfl ?_
        refine go_iinc (pc := 437) (x16 + 1) (lv' := [(16, .int (x16 + 1)), (15, .int 0), (0, .ref b), (1, .ref (AD G 0)), (2, .ref (AD G 118)), (3, .ref (AD G 119)), (4, .ref (AD G 120)), (5, .ref (AD G 121)), (6, .ref (AD G 122)), (7, .int x7), (14, .int x14)]) F dL_law_437 (k := 10) rfl rfl (by decide) rfl ?_
        refine go_goto (pc := 440) 407 F dL_law_440 (by decide) ?_
        exact go_sub [2, 3, 4, 5, 6, 7, 8, 9, 10, 1, 0] rfl (ih V x7 x14 0 (x16 + 1) h)
      · refine go_aloadn (pc := 419) F dL_law_419 3 rfl ?_
        refine go_iload (pc := 420) F dL_law_420 10 rfl ?_
        obtain ⟨y95, hy95, h⟩ := ob_ h
        refine cv_L_45 (pc := 422) F dL_law_422 (ct_L_used (enL E) G V x16 y95 hy95) (by decide) (by decide) (Nat.le_of_ble_eq_true rfl) ?_
        refine go_iload (pc := 425) F dL_law_425 8 rfl ?_
        refine go_icmp_gt (pc := 427) 434 F dL_law_427 (by decide) h (fun c96 h => ?_) (fun c96 h => ?_)
        · refine go_iconst (pc := 434) 0 F dL_law_434 (by decide) ?_
          refine go_istore (pc := 435) (lv' := [(15, .int 0), (0, .ref b), (1, .ref (AD G 0)), (2, .ref (AD G 118)), (3, .ref (AD G 119)), (4, .ref (AD G 120)), (5, .ref (AD G 121)), (6, .ref (AD G 122)), (7, .int x7), (14, .int x14), (16, .int x16)]) F dL_law_435 (by decide) rfl ?_
          refine go_iinc (pc := 437) (x16 + 1) (lv' := [(16, .int (x16 + 1)), (15, .int 0), (0, .ref b), (1, .ref (AD G 0)), (2, .ref (AD G 118)), (3, .ref (AD G 119)), (4, .ref (AD G 120)), (5, .ref (AD G 121)), (6, .ref (AD G 122)), (7, .int x7), (14, .int x14)]) F dL_law_437 (k := 10) rfl rfl (by decide) rfl ?_
          refine go_goto (pc := 440) 407 F dL_law_440 (by decide) ?_
          exact go_sub [2, 3, 4, 5, 6, 7, 8, 9, 10, 1, 0] rfl (ih V x7 x14 0 (x16 + 1) h)
        · refine go_iconst (pc := 430) 1 F dL_law_430 (by decide) ?_
          refine go_goto (pc := 431) 435 F dL_law_431 (by decide) ?_
          refine go_istore (pc := 435) (lv' := [(15, .int 1), (0, .ref b), (1, .ref (AD G 0)), (2, .ref (AD G 118)), (3, .ref (AD G 119)), (4, .ref (AD G 120)), (5, .ref (AD G 121)), (6, .ref (AD G 122)), (7, .int x7), (14, .int x14), (16, .int x16)]) F dL_law_435 (by decide) rfl ?_
          refine go_iinc (pc := 437) (x16 + 1) (lv' := [(16, .int (x16 + 1)), (15, .int 1), (0, .ref b), (1, .ref (AD G 0)), (2, .ref (AD G 118)), (3, .ref (AD G 119)), (4, .ref (AD G 120)), (5, .ref (AD G 121)), (6, .ref (AD G 122)), (7, .int x7), (14, .int x14)]) F dL_law_437 (k := 10) rfl rfl (by decide) rfl ?_
          refine go_goto (pc := 440) 407 F dL_law_440 (by decide) ?_
          exact go_sub [2, 3, 4, 5, 6, 7, 8, 9, 10, 1, 0] rfl (ih V x7 x14 1 (x16 + 1) h)
set_option maxRecDepth 100000 in
set_option maxHeartbeats 4000000 in
theorem lb_L_law_546 {E : En} {G : Gm} {A : Nat → Prop} {KC KS : Nat} {QQ : State → Prop} {b L : Nat} {xs : Nat → Int32} (F : Fx E G A RL cL_law 18 ret 10 398 KC KS) (S : Sc E A b L xs) (hL : L < 2000) (hE : ∀ (V : Wd) (pc : Nat) (lv : List (Nat × Value)), decode cL_law pc = .ok (.ireturn, 1) → Go E G A KC KS QQ 18 V pc lv [.int 1]) {z : Int32 × Wd} (hz : z.1 = 1) {K126 : Wd → Int32 → Option (Int32 × Wd)} (hK126 : ∀ (V1 : Wd) (a7 : Int32), K126 V1 a7 = some z → Go E G A KC KS QQ 18 V1 126 [(0, .ref b), (1, .ref (AD G 0)), (2, .ref (AD G 118)), (3, .ref (AD G 119)), (4, .ref (AD G 120)), (5, .ref (AD G 121)), (6, .ref (AD G 122)), (7, .int a7)] []) (V : Wd) (x7 : Int32) (x13 : Int32) (x14 : Int32) (x15 : Int32) (s0 : Int32) (h : f_L_law_546 xs L K126 V x7 x13 x14 x15 s0 = some z) : Go E G A KC KS QQ 18 V 546 [(0, .ref b), (1, .ref (AD G 0)), (2, .ref (AD G 118)), (3, .ref (AD G 119)), (4, .ref (AD G 120)), (5, .ref (AD G 121)), (6, .ref (AD G 122)), (7, .int x7), (13, .int x13), (14, .int x14), (15, .int x15)] [.int s0] := by
  unfold f_L_law_546 at h
  refine go_istore (pc := 546) (lv' := [(12, .int s0), (0, .ref b), (1, .ref (AD G 0)), (2, .ref (AD G 118)), (3, .ref (AD G 119)), (4, .ref (AD G 120)), (5, .ref (AD G 121)), (6, .ref (AD G 122)), (7, .int x7), (13, .int x13), (14, .int x14), (15, .int x15)]) F dL_law_546 (by decide) rfl ?_
  refine go_aload (pc := 548) F dL_law_548 7 rfl ?_
  refine go_iconst (pc := 550) 1 F dL_law_550 (by decide) ?_
  refine go_iload (pc := 551) F dL_law_551 10 rfl ?_
  refine go_jast (pc := 553) 122 7 F dL_law_553 (by decide) (fun _ => rfl) h (fun V93 h => ?_)
  refine go_aload (pc := 554) F dL_law_554 7 rfl ?_
  refine go_iconst (pc := 556) 2 F dL_law_556 (by decide) ?_
  refine go_iload (pc := 557) F dL_law_557 11 rfl ?_
  refine go_jast (pc := 559) 122 7 F dL_law_559 (by decide) (fun _ => rfl) h (fun V94 h => ?_)
  refine go_goto (pc := 560) 1586 F dL_law_560 (by decide) ?_
  exact go_sub [1, 2, 3, 4, 5, 6, 7, 8, 0, 9] rfl (lb_L_law_1586 F S hL hE hz hK126 V94 x7 s0 x13 h)
set_option maxRecDepth 100000 in
set_option maxHeartbeats 4000000 in
theorem lb_L_law_734 {E : En} {G : Gm} {A : Nat → Prop} {KC KS : Nat} {QQ : State → Prop} {b L : Nat} {xs : Nat → Int32} (F : Fx E G A RL cL_law 18 ret 10 398 KC KS) (S : Sc E A b L xs) (hL : L < 2000) (hE : ∀ (V : Wd) (pc : Nat) (lv : List (Nat × Value)), decode cL_law pc = .ok (.ireturn, 1) → Go E G A KC KS QQ 18 V pc lv [.int 1]) {z : Int32 × Wd} (hz : z.1 = 1) {K126 : Wd → Int32 → Option (Int32 × Wd)} (hK126 : ∀ (V1 : Wd) (a7 : Int32), K126 V1 a7 = some z → Go E G A KC KS QQ 18 V1 126 [(0, .ref b), (1, .ref (AD G 0)), (2, .ref (AD G 118)), (3, .ref (AD G 119)), (4, .ref (AD G 120)), (5, .ref (AD G 121)), (6, .ref (AD G 122)), (7, .int a7)] []) (V : Wd) (x7 : Int32) (x12 : Int32) (x13 : Int32) (h : f_L_law_734 xs L K126 V x7 x12 x13 = some z) : Go E G A KC KS QQ 18 V 734 [(0, .ref b), (1, .ref (AD G 0)), (2, .ref (AD G 118)), (3, .ref (AD G 119)), (4, .ref (AD G 120)), (5, .ref (AD G 121)), (6, .ref (AD G 122)), (7, .int x7), (12, .int x12), (13, .int x13)] [] := by
  unfold f_L_law_734 at h
  refine go_goto (pc := 734) 1586 F dL_law_734 (by decide) ?_
  exact go_sub [0, 1, 2, 3, 4, 5, 6, 7, 8, 9] rfl (lb_L_law_1586 F S hL hE hz hK126 V x7 x12 x13 h)
set_option maxRecDepth 100000 in
set_option maxHeartbeats 4000000 in
theorem lb_L_law_716 {E : En} {G : Gm} {A : Nat → Prop} {KC KS : Nat} {QQ : State → Prop} {b L : Nat} {xs : Nat → Int32} (F : Fx E G A RL cL_law 18 ret 10 398 KC KS) (S : Sc E A b L xs) (hL : L < 2000) (hE : ∀ (V : Wd) (pc : Nat) (lv : List (Nat × Value)), decode cL_law pc = .ok (.ireturn, 1) → Go E G A KC KS QQ 18 V pc lv [.int 1]) {z : Int32 × Wd} (hz : z.1 = 1) {K126 : Wd → Int32 → Option (Int32 × Wd)} (hK126 : ∀ (V1 : Wd) (a7 : Int32), K126 V1 a7 = some z → Go E G A KC KS QQ 18 V1 126 [(0, .ref b), (1, .ref (AD G 0)), (2, .ref (AD G 118)), (3, .ref (AD G 119)), (4, .ref (AD G 120)), (5, .ref (AD G 121)), (6, .ref (AD G 122)), (7, .int a7)] []) (V : Wd) (x7 : Int32) (x10 : Int32) (x11 : Int32) (x13 : Int32) (x14 : Int32) (s0 : Int32) (h : f_L_law_716 xs L K126 V x7 x10 x11 x13 x14 s0 = some z) : Go E G A KC KS QQ 18 V 716 [(0, .ref b), (1, .ref (AD G 0)), (2, .ref (AD G 118)), (3, .ref (AD G 119)), (4, .ref (AD G 120)), (5, .ref (AD G 121)), (6, .ref (AD G 122)), (7, .int x7), (10, .int x10), (11, .int x11), (13, .int x13), (14, .int x14)] [.int s0] := by
  unfold f_L_law_716 at h
  refine go_istore (pc := 716) (lv' := [(12, .int s0), (0, .ref b), (1, .ref (AD G 0)), (2, .ref (AD G 118)), (3, .ref (AD G 119)), (4, .ref (AD G 120)), (5, .ref (AD G 121)), (6, .ref (AD G 122)), (7, .int x7), (10, .int x10), (11, .int x11), (13, .int x13), (14, .int x14)]) F dL_law_716 (by decide) rfl ?_
  refine go_iload (pc := 718) F dL_law_718 11 rfl ?_
  refine go_if_eq (pc := 720) 734 F dL_law_720 (by decide) h (fun c227 h => ?_) (fun c227 h => ?_)
  · exact go_sub [1, 2, 3, 4, 5, 6, 7, 8, 0, 11] rfl (lb_L_law_734 F S hL hE hz hK126 V x7 s0 x13 h)
  · refine go_aloadn (pc := 723) F dL_law_723 4 rfl ?_
    refine go_iconst (pc := 724) 4 F dL_law_724 (by decide) ?_
    refine go_iload (pc := 725) F dL_law_725 9 rfl ?_
    refine go_imul (pc := 727) F dL_law_727 ?_
    refine go_iload (pc := 728) F dL_law_728 10 rfl ?_
    refine go_iadd (pc := 730) F dL_law_730 ?_
    refine go_iload (pc := 731) F dL_law_731 12 rfl ?_
    refine go_jast (pc := 733) 119 20 F dL_law_733 (by decide) (fun _ => rfl) h (fun V226 h => ?_)
    exact go_sub [1, 2, 3, 4, 5, 6, 7, 8, 0, 11] rfl (lb_L_law_734 F S hL hE hz hK126 V226 x7 s0 x13 h)
set_option maxRecDepth 100000 in
set_option maxHeartbeats 4000000 in
theorem lb_L_law_708 {E : En} {G : Gm} {A : Nat → Prop} {KC KS : Nat} {QQ : State → Prop} {b L : Nat} {xs : Nat → Int32} (F : Fx E G A RL cL_law 18 ret 10 398 KC KS) (S : Sc E A b L xs) (hL : L < 2000) (hE : ∀ (V : Wd) (pc : Nat) (lv : List (Nat × Value)), decode cL_law pc = .ok (.ireturn, 1) → Go E G A KC KS QQ 18 V pc lv [.int 1]) {z : Int32 × Wd} (hz : z.1 = 1) {K126 : Wd → Int32 → Option (Int32 × Wd)} (hK126 : ∀ (V1 : Wd) (a7 : Int32), K126 V1 a7 = some z → Go E G A KC KS QQ 18 V1 126 [(0, .ref b), (1, .ref (AD G 0)), (2, .ref (AD G 118)), (3, .ref (AD G 119)), (4, .ref (AD G 120)), (5, .ref (AD G 121)), (6, .ref (AD G 122)), (7, .int a7)] []) (V : Wd) (x7 : Int32) (x10 : Int32) (x11 : Int32) (x13 : Int32) (x14 : Int32) (s0 : Int32) (s1 : Int32) (h : f_L_law_708 xs L K126 V x7 x10 x11 x13 x14 s0 s1 = some z) : Go E G A KC KS QQ 18 V 708 [(0, .ref b), (1, .ref (AD G 0)), (2, .ref (AD G 118)), (3, .ref (AD G 119)), (4, .ref (AD G 120)), (5, .ref (AD G 121)), (6, .ref (AD G 122)), (7, .int x7), (10, .int x10), (11, .int x11), (13, .int x13), (14, .int x14)] [.int s0, .int s1] := by
  unfold f_L_law_708 at h
  refine go_icmp_ne (pc := 708) 715 F dL_law_708 (by decide) h (fun c222 h => ?_) (fun c222 h => ?_)
  · refine go_iconst (pc := 715) 0 F dL_law_715 (by decide) ?_
    exact go_sub [0, 1, 2, 3, 4, 5, 6, 7, 8, 9, 10, 11] rfl (lb_L_law_716 F S hL hE hz hK126 V x7 x10 x11 x13 x14 0 h)
  · refine go_iconst (pc := 711) 1 F dL_law_711 (by decide) ?_
    refine go_goto (pc := 712) 716 F dL_law_712 (by decide) ?_
    exact go_sub [0, 1, 2, 3, 4, 5, 6, 7, 8, 9, 10, 11] rfl (lb_L_law_716 F S hL hE hz hK126 V x7 x10 x11 x13 x14 1 h)
set_option maxRecDepth 100000 in
set_option maxHeartbeats 4000000 in
theorem lb_L_law_674 {E : En} {G : Gm} {A : Nat → Prop} {KC KS : Nat} {QQ : State → Prop} {b L : Nat} {xs : Nat → Int32} (F : Fx E G A RL cL_law 18 ret 10 398 KC KS) (S : Sc E A b L xs) (hL : L < 2000) (hE : ∀ (V : Wd) (pc : Nat) (lv : List (Nat × Value)), decode cL_law pc = .ok (.ireturn, 1) → Go E G A KC KS QQ 18 V pc lv [.int 1]) {z : Int32 × Wd} (hz : z.1 = 1) {K126 : Wd → Int32 → Option (Int32 × Wd)} (hK126 : ∀ (V1 : Wd) (a7 : Int32), K126 V1 a7 = some z → Go E G A KC KS QQ 18 V1 126 [(0, .ref b), (1, .ref (AD G 0)), (2, .ref (AD G 118)), (3, .ref (AD G 119)), (4, .ref (AD G 120)), (5, .ref (AD G 121)), (6, .ref (AD G 122)), (7, .int a7)] []) (V : Wd) (x7 : Int32) (x10 : Int32) (x11 : Int32) (x14 : Int32) (x15 : Int32) (x16 : Int32) (s0 : Int32) (h : f_L_law_674 xs L K126 V x7 x10 x11 x14 x15 x16 s0 = some z) : Go E G A KC KS QQ 18 V 674 [(0, .ref b), (1, .ref (AD G 0)), (2, .ref (AD G 118)), (3, .ref (AD G 119)), (4, .ref (AD G 120)), (5, .ref (AD G 121)), (6, .ref (AD G 122)), (7, .int x7), (10, .int x10), (11, .int x11), (14, .int x14), (15, .int x15), (16, .int x16)] [.int s0] := by
  unfold f_L_law_674 at h
  refine go_istore (pc := 674) (lv' := [(13, .int s0), (0, .ref b), (1, .ref (AD G 0)), (2, .ref (AD G 118)), (3, .ref (AD G 119)), (4, .ref (AD G 120)), (5, .ref (AD G 121)), (6, .ref (AD G 122)), (7, .int x7), (10, .int x10), (11, .int x11), (14, .int x14), (15, .int x15), (16, .int x16)]) F dL_law_674 (by decide) rfl ?_
  refine go_aloadn (pc := 676) F dL_law_676 2 rfl ?_
  refine go_iload (pc := 677) F dL_law_677 9 rfl ?_
  refine go_iload (pc := 679) F dL_law_679 11 rfl ?_
  obtain ⟨q190, hq190, h⟩ := ob_ h
  refine cv_L_110 (pc := 681) F dL_law_681 rfl (ct_X8_bend (enL E) G V x10 x14 q190 hq190) (by decide) (by decide) (Nat.le_of_ble_eq_true rfl) ?_
  obtain ⟨q191, hq191, h⟩ := ob_ h
  refine go_gx h (fun V192 h => ?_)
  refine go_iload (pc := 684) F dL_law_684 12 rfl ?_
  refine go_if_eq (pc := 686) 694 F dL_law_686 (by decide) h (fun c194 h => ?_) (fun c194 h => ?_)
  · refine go_iload (pc := 694) F dL_law_694 13 rfl ?_
    refine go_if_eq (pc := 696) 704 F dL_law_696 (by decide) h (fun c193 h => ?_) (fun c193 h => ?_)
    · refine go_iload (pc := 704) F dL_law_704 10 rfl ?_
      refine go_iconst (pc := 706) 1 F dL_law_706 (by decide) ?_
      refine go_iadd (pc := 707) F dL_law_707 ?_
      exact go_sub [1, 2, 3, 4, 5, 6, 7, 8, 9, 10, 0, 11] rfl (lb_L_law_708 F S hL hE hz hK126 V192 x7 x10 x11 s0 x14 (x11 + 1) q190.1 h)
    · refine go_bipush (pc := 699) (-4) F dL_law_699 (by decide) ?_
      refine go_goto (pc := 701) 708 F dL_law_701 (by decide) ?_
      exact go_sub [1, 2, 3, 4, 5, 6, 7, 8, 9, 10, 0, 11] rfl (lb_L_law_708 F S hL hE hz hK126 V192 x7 x10 x11 s0 x14 (-4) q190.1 h)
  · refine go_bipush (pc := 689) (-3) F dL_law_689 (by decide) ?_
    refine go_goto (pc := 691) 708 F dL_law_691 (by decide) ?_
    exact go_sub [1, 2, 3, 4, 5, 6, 7, 8, 9, 10, 0, 11] rfl (lb_L_law_708 F S hL hE hz hK126 V192 x7 x10 x11 s0 x14 (-3) q190.1 h)
set_option maxRecDepth 100000 in
set_option maxHeartbeats 4000000 in
theorem lb_L_law_673 {E : En} {G : Gm} {A : Nat → Prop} {KC KS : Nat} {QQ : State → Prop} {b L : Nat} {xs : Nat → Int32} (F : Fx E G A RL cL_law 18 ret 10 398 KC KS) (S : Sc E A b L xs) (hL : L < 2000) (hE : ∀ (V : Wd) (pc : Nat) (lv : List (Nat × Value)), decode cL_law pc = .ok (.ireturn, 1) → Go E G A KC KS QQ 18 V pc lv [.int 1]) {z : Int32 × Wd} (hz : z.1 = 1) {K126 : Wd → Int32 → Option (Int32 × Wd)} (hK126 : ∀ (V1 : Wd) (a7 : Int32), K126 V1 a7 = some z → Go E G A KC KS QQ 18 V1 126 [(0, .ref b), (1, .ref (AD G 0)), (2, .ref (AD G 118)), (3, .ref (AD G 119)), (4, .ref (AD G 120)), (5, .ref (AD G 121)), (6, .ref (AD G 122)), (7, .int a7)] []) (V : Wd) (x7 : Int32) (x10 : Int32) (x11 : Int32) (x14 : Int32) (x15 : Int32) (x16 : Int32) (h : f_L_law_673 xs L K126 V x7 x10 x11 x14 x15 x16 = some z) : Go E G A KC KS QQ 18 V 673 [(0, .ref b), (1, .ref (AD G 0)), (2, .ref (AD G 118)), (3, .ref (AD G 119)), (4, .ref (AD G 120)), (5, .ref (AD G 121)), (6, .ref (AD G 122)), (7, .int x7), (10, .int x10), (11, .int x11), (14, .int x14), (15, .int x15), (16, .int x16)] [] := by
  unfold f_L_law_673 at h
  refine go_iconst (pc := 673) 0 F dL_law_673 (by decide) ?_
  exact go_sub [0, 1, 2, 3, 4, 5, 6, 7, 8, 9, 10, 11, 12] rfl (lb_L_law_674 F S hL hE hz hK126 V x7 x10 x11 x14 x15 x16 0 h)
set_option maxRecDepth 100000 in
set_option maxHeartbeats 4000000 in
theorem lb_L_law_657 {E : En} {G : Gm} {A : Nat → Prop} {KC KS : Nat} {QQ : State → Prop} {b L : Nat} {xs : Nat → Int32} (F : Fx E G A RL cL_law 18 ret 10 398 KC KS) (S : Sc E A b L xs) (hL : L < 2000) (hE : ∀ (V : Wd) (pc : Nat) (lv : List (Nat × Value)), decode cL_law pc = .ok (.ireturn, 1) → Go E G A KC KS QQ 18 V pc lv [.int 1]) {z : Int32 × Wd} (hz : z.1 = 1) {K126 : Wd → Int32 → Option (Int32 × Wd)} (hK126 : ∀ (V1 : Wd) (a7 : Int32), K126 V1 a7 = some z → Go E G A KC KS QQ 18 V1 126 [(0, .ref b), (1, .ref (AD G 0)), (2, .ref (AD G 118)), (3, .ref (AD G 119)), (4, .ref (AD G 120)), (5, .ref (AD G 121)), (6, .ref (AD G 122)), (7, .int a7)] []) (V : Wd) (x7 : Int32) (x10 : Int32) (x11 : Int32) (x14 : Int32) (x15 : Int32) (s0 : Int32) (h : f_L_law_657 xs L K126 V x7 x10 x11 x14 x15 s0 = some z) : Go E G A KC KS QQ 18 V 657 [(0, .ref b), (1, .ref (AD G 0)), (2, .ref (AD G 118)), (3, .ref (AD G 119)), (4, .ref (AD G 120)), (5, .ref (AD G 121)), (6, .ref (AD G 122)), (7, .int x7), (10, .int x10), (11, .int x11), (14, .int x14), (15, .int x15)] [.int s0] := by
  unfold f_L_law_657 at h
  refine go_istore (pc := 657) (lv' := [(16, .int s0), (0, .ref b), (1, .ref (AD G 0)), (2, .ref (AD G 118)), (3, .ref (AD G 119)), (4, .ref (AD G 120)), (5, .ref (AD G 121)), (6, .ref (AD G 122)), (7, .int x7), (10, .int x10), (11, .int x11), (14, .int x14), (15, .int x15)]) F dL_law_657 (by decide) rfl ?_
  refine go_iload (pc := 659) F dL_law_659 12 rfl ?_
  refine go_if_ne (pc := 661) 673 F dL_law_661 (by decide) h (fun c158 h => ?_) (fun c158 h => ?_)
  · exact go_sub [1, 2, 3, 4, 5, 6, 7, 8, 9, 10, 11, 12, 0] rfl (lb_L_law_673 F S hL hE hz hK126 V x7 x10 x11 x14 x15 s0 h)
  · refine go_iload (pc := 664) F dL_law_664 0 rfl ?_
    refine go_if_ne (pc := 666) 673 F dL_law_666 (by decide) h (fun c157 h => ?_) (fun c157 h => ?_)
    · exact go_sub [1, 2, 3, 4, 5, 6, 7, 8, 9, 10, 11, 12, 0] rfl (lb_L_law_673 F S hL hE hz hK126 V x7 x10 x11 x14 x15 s0 h)
    · refine go_iconst (pc := 669) 1 F dL_law_669 (by decide) ?_
      refine go_goto (pc := 670) 674 F dL_law_670 (by decide) ?_
      exact go_sub [1, 2, 3, 4, 5, 6, 7, 8, 9, 10, 11, 12, 0] rfl (lb_L_law_674 F S hL hE hz hK126 V x7 x10 x11 x14 x15 s0 1 h)
set_option maxRecDepth 100000 in
set_option maxHeartbeats 4000000 in
theorem lb_L_law_652 {E : En} {G : Gm} {A : Nat → Prop} {KC KS : Nat} {QQ : State → Prop} {b L : Nat} {xs : Nat → Int32} (F : Fx E G A RL cL_law 18 ret 10 398 KC KS) (S : Sc E A b L xs) (hL : L < 2000) (hE : ∀ (V : Wd) (pc : Nat) (lv : List (Nat × Value)), decode cL_law pc = .ok (.ireturn, 1) → Go E G A KC KS QQ 18 V pc lv [.int 1]) {z : Int32 × Wd} (hz : z.1 = 1) {K126 : Wd → Int32 → Option (Int32 × Wd)} (hK126 : ∀ (V1 : Wd) (a7 : Int32), K126 V1 a7 = some z → Go E G A KC KS QQ 18 V1 126 [(0, .ref b), (1, .ref (AD G 0)), (2, .ref (AD G 118)), (3, .ref (AD G 119)), (4, .ref (AD G 120)), (5, .ref (AD G 121)), (6, .ref (AD G 122)), (7, .int a7)] []) (V : Wd) (x7 : Int32) (x10 : Int32) (x11 : Int32) (x14 : Int32) (x15 : Int32) (h : f_L_law_652 xs L K126 V x7 x10 x11 x14 x15 = some z) : Go E G A KC KS QQ 18 V 652 [(0, .ref b), (1, .ref (AD G 0)), (2, .ref (AD G 118)), (3, .ref (AD G 119)), (4, .ref (AD G 120)), (5, .ref (AD G 121)), (6, .ref (AD G 122)), (7, .int x7), (10, .int x10), (11, .int x11), (14, .int x14), (15, .int x15)] [] := by
  unfold f_L_law_652 at h
  refine go_iconst (pc := 652) 1 F dL_law_652 (by decide) ?_
  refine go_goto (pc := 653) 657 F dL_law_653 (by decide) ?_
  exact go_sub [0, 1, 2, 3, 4, 5, 6, 7, 8, 9, 10, 11] rfl (lb_L_law_657 F S hL hE hz hK126 V x7 x10 x11 x14 x15 1 h)
set_option maxRecDepth 100000 in
set_option maxHeartbeats 4000000 in
theorem lb_L_law_631 {E : En} {G : Gm} {A : Nat → Prop} {KC KS : Nat} {QQ : State → Prop} {b L : Nat} {xs : Nat → Int32} (F : Fx E G A RL cL_law 18 ret 10 398 KC KS) (S : Sc E A b L xs) (hL : L < 2000) (hE : ∀ (V : Wd) (pc : Nat) (lv : List (Nat × Value)), decode cL_law pc = .ok (.ireturn, 1) → Go E G A KC KS QQ 18 V pc lv [.int 1]) {z : Int32 × Wd} (hz : z.1 = 1) {K126 : Wd → Int32 → Option (Int32 × Wd)} (hK126 : ∀ (V1 : Wd) (a7 : Int32), K126 V1 a7 = some z → Go E G A KC KS QQ 18 V1 126 [(0, .ref b), (1, .ref (AD G 0)), (2, .ref (AD G 118)), (3, .ref (AD G 119)), (4, .ref (AD G 120)), (5, .ref (AD G 121)), (6, .ref (AD G 122)), (7, .int a7)] []) (V : Wd) (x7 : Int32) (x10 : Int32) (x11 : Int32) (x14 : Int32) (s0 : Int32) (h : f_L_law_631 xs L K126 V x7 x10 x11 x14 s0 = some z) : Go E G A KC KS QQ 18 V 631 [(0, .ref b), (1, .ref (AD G 0)), (2, .ref (AD G 118)), (3, .ref (AD G 119)), (4, .ref (AD G 120)), (5, .ref (AD G 121)), (6, .ref (AD G 122)), (7, .int x7), (10, .int x10), (11, .int x11), (14, .int x14)] [.int s0] := by
  unfold f_L_law_631 at h
  refine go_istore (pc := 631) (lv' := [(15, .int s0), (0, .ref b), (1, .ref (AD G 0)), (2, .ref (AD G 118)), (3, .ref (AD G 119)), (4, .ref (AD G 120)), (5, .ref (AD G 121)), (6, .ref (AD G 122)), (7, .int x7), (10, .int x10), (11, .int x11), (14, .int x14)]) F dL_law_631 (by decide) rfl ?_
  refine go_iload (pc := 633) F dL_law_633 10 rfl ?_
  refine go_iconst (pc := 635) 4 F dL_law_635 (by decide) ?_
  refine go_icmp_eq (pc := 636) 652 F dL_law_636 (by decide) h (fun c130 h => ?_) (fun c130 h => ?_)
  · exact go_sub [1, 2, 3, 4, 5, 6, 7, 8, 9, 10, 11, 0] rfl (lb_L_law_652 F S hL hE hz hK126 V x7 x10 x11 x14 s0 h)
  · refine go_aloadn (pc := 639) F dL_law_639 4 rfl ?_
    refine go_iload (pc := 640) F dL_law_640 11 rfl ?_
    obtain ⟨y127, hy127, h⟩ := ob_ h
    refine cv_L_45 (pc := 642) F dL_law_642 (ct_L_used (enL E) G V x14 y127 hy127) (by decide) (by decide) (Nat.le_of_ble_eq_true rfl) ?_
    refine go_aload (pc := 645) F dL_law_645 7 rfl ?_
    refine go_iconst (pc := 647) 0 F dL_law_647 (by decide) ?_
    refine go_jald (pc := 648) 122 7 F dL_law_648 (by decide) (fun _ => rfl) h (fun y128 h => ?_)
    refine go_icmp_lt (pc := 649) 656 F dL_law_649 (by decide) h (fun c129 h => ?_) (fun c129 h => ?_)
    · refine go_iconst (pc := 656) 0 F dL_law_656 (by decide) ?_
      exact go_sub [1, 2, 3, 4, 5, 6, 7, 8, 9, 10, 11, 0] rfl (lb_L_law_657 F S hL hE hz hK126 V x7 x10 x11 x14 s0 0 h)
    · exact go_sub [1, 2, 3, 4, 5, 6, 7, 8, 9, 10, 11, 0] rfl (lb_L_law_652 F S hL hE hz hK126 V x7 x10 x11 x14 s0 h)
set_option maxRecDepth 100000 in
set_option maxHeartbeats 4000000 in
theorem lb_L_law_630 {E : En} {G : Gm} {A : Nat → Prop} {KC KS : Nat} {QQ : State → Prop} {b L : Nat} {xs : Nat → Int32} (F : Fx E G A RL cL_law 18 ret 10 398 KC KS) (S : Sc E A b L xs) (hL : L < 2000) (hE : ∀ (V : Wd) (pc : Nat) (lv : List (Nat × Value)), decode cL_law pc = .ok (.ireturn, 1) → Go E G A KC KS QQ 18 V pc lv [.int 1]) {z : Int32 × Wd} (hz : z.1 = 1) {K126 : Wd → Int32 → Option (Int32 × Wd)} (hK126 : ∀ (V1 : Wd) (a7 : Int32), K126 V1 a7 = some z → Go E G A KC KS QQ 18 V1 126 [(0, .ref b), (1, .ref (AD G 0)), (2, .ref (AD G 118)), (3, .ref (AD G 119)), (4, .ref (AD G 120)), (5, .ref (AD G 121)), (6, .ref (AD G 122)), (7, .int a7)] []) (V : Wd) (x7 : Int32) (x10 : Int32) (x11 : Int32) (x14 : Int32) (h : f_L_law_630 xs L K126 V x7 x10 x11 x14 = some z) : Go E G A KC KS QQ 18 V 630 [(0, .ref b), (1, .ref (AD G 0)), (2, .ref (AD G 118)), (3, .ref (AD G 119)), (4, .ref (AD G 120)), (5, .ref (AD G 121)), (6, .ref (AD G 122)), (7, .int x7), (10, .int x10), (11, .int x11), (14, .int x14)] [] := by
  unfold f_L_law_630 at h
  refine go_iconst (pc := 630) 0 F dL_law_630 (by decide) ?_
  exact go_sub [0, 1, 2, 3, 4, 5, 6, 7, 8, 9, 10] rfl (lb_L_law_631 F S hL hE hz hK126 V x7 x10 x11 x14 0 h)
set_option maxRecDepth 100000 in
set_option maxHeartbeats 4000000 in
theorem lb_L_law_607 {E : En} {G : Gm} {A : Nat → Prop} {KC KS : Nat} {QQ : State → Prop} {b L : Nat} {xs : Nat → Int32} (F : Fx E G A RL cL_law 18 ret 10 398 KC KS) (S : Sc E A b L xs) (hL : L < 2000) (hE : ∀ (V : Wd) (pc : Nat) (lv : List (Nat × Value)), decode cL_law pc = .ok (.ireturn, 1) → Go E G A KC KS QQ 18 V pc lv [.int 1]) {z : Int32 × Wd} (hz : z.1 = 1) {K126 : Wd → Int32 → Option (Int32 × Wd)} (hK126 : ∀ (V1 : Wd) (a7 : Int32), K126 V1 a7 = some z → Go E G A KC KS QQ 18 V1 126 [(0, .ref b), (1, .ref (AD G 0)), (2, .ref (AD G 118)), (3, .ref (AD G 119)), (4, .ref (AD G 120)), (5, .ref (AD G 121)), (6, .ref (AD G 122)), (7, .int a7)] []) (V : Wd) (x7 : Int32) (x10 : Int32) (x11 : Int32) (s0 : Int32) (h : f_L_law_607 xs L K126 V x7 x10 x11 s0 = some z) : Go E G A KC KS QQ 18 V 607 [(0, .ref b), (1, .ref (AD G 0)), (2, .ref (AD G 118)), (3, .ref (AD G 119)), (4, .ref (AD G 120)), (5, .ref (AD G 121)), (6, .ref (AD G 122)), (7, .int x7), (10, .int x10), (11, .int x11)] [.int s0] := by
  unfold f_L_law_607 at h
  refine go_istore (pc := 607) (lv' := [(14, .int s0), (0, .ref b), (1, .ref (AD G 0)), (2, .ref (AD G 118)), (3, .ref (AD G 119)), (4, .ref (AD G 120)), (5, .ref (AD G 121)), (6, .ref (AD G 122)), (7, .int x7), (10, .int x10), (11, .int x11)]) F dL_law_607 (by decide) rfl ?_
  refine go_iload (pc := 609) F dL_law_609 0 rfl ?_
  refine go_bipush (pc := 611) 9 F dL_law_611 (by decide) ?_
  refine go_icmp_le (pc := 613) 630 F dL_law_613 (by decide) h (fun c92 h => ?_) (fun c92 h => ?_)
  · exact go_sub [1, 2, 3, 4, 5, 6, 7, 8, 9, 10, 0] rfl (lb_L_law_630 F S hL hE hz hK126 V x7 x10 x11 s0 h)
  · refine go_iload (pc := 616) F dL_law_616 0 rfl ?_
    refine go_bipush (pc := 618) 10 F dL_law_618 (by decide) ?_
    refine go_isub (pc := 620) F dL_law_620 ?_
    refine go_iload (pc := 621) F dL_law_621 10 rfl ?_
    refine go_icmp_le (pc := 623) 630 F dL_law_623 (by decide) h (fun c91 h => ?_) (fun c91 h => ?_)
    · exact go_sub [1, 2, 3, 4, 5, 6, 7, 8, 9, 10, 0] rfl (lb_L_law_630 F S hL hE hz hK126 V x7 x10 x11 s0 h)
    · refine go_iconst (pc := 626) 1 F dL_law_626 (by decide) ?_
      refine go_goto (pc := 627) 631 F dL_law_627 (by decide) ?_
      exact go_sub [1, 2, 3, 4, 5, 6, 7, 8, 9, 10, 0] rfl (lb_L_law_631 F S hL hE hz hK126 V x7 x10 x11 s0 1 h)
set_option maxRecDepth 100000 in
set_option maxHeartbeats 4000000 in
theorem lb_L_law_791 {E : En} {G : Gm} {A : Nat → Prop} {KC KS : Nat} {QQ : State → Prop} {b L : Nat} {xs : Nat → Int32} (F : Fx E G A RL cL_law 18 ret 10 398 KC KS) (S : Sc E A b L xs) (hL : L < 2000) (hE : ∀ (V : Wd) (pc : Nat) (lv : List (Nat × Value)), decode cL_law pc = .ok (.ireturn, 1) → Go E G A KC KS QQ 18 V pc lv [.int 1]) {z : Int32 × Wd} (hz : z.1 = 1) {K126 : Wd → Int32 → Option (Int32 × Wd)} (hK126 : ∀ (V1 : Wd) (a7 : Int32), K126 V1 a7 = some z → Go E G A KC KS QQ 18 V1 126 [(0, .ref b), (1, .ref (AD G 0)), (2, .ref (AD G 118)), (3, .ref (AD G 119)), (4, .ref (AD G 120)), (5, .ref (AD G 121)), (6, .ref (AD G 122)), (7, .int a7)] []) (V : Wd) (x7 : Int32) (x10 : Int32) (x11 : Int32) (x13 : Int32) (s0 : Int32) (h : f_L_law_791 xs L K126 V x7 x10 x11 x13 s0 = some z) : Go E G A KC KS QQ 18 V 791 [(0, .ref b), (1, .ref (AD G 0)), (2, .ref (AD G 118)), (3, .ref (AD G 119)), (4, .ref (AD G 120)), (5, .ref (AD G 121)), (6, .ref (AD G 122)), (7, .int x7), (10, .int x10), (11, .int x11), (13, .int x13)] [.int s0] := by
  unfold f_L_law_791 at h
  refine go_istore (pc := 791) (lv' := [(12, .int s0), (0, .ref b), (1, .ref (AD G 0)), (2, .ref (AD G 118)), (3, .ref (AD G 119)), (4, .ref (AD G 120)), (5, .ref (AD G 121)), (6, .ref (AD G 122)), (7, .int x7), (10, .int x10), (11, .int x11), (13, .int x13)]) F dL_law_791 (by decide) rfl ?_
  refine go_iload (pc := 793) F dL_law_793 10 rfl ?_
  refine go_if_le (pc := 795) 1586 F dL_law_795 (by decide) h (fun c156 h => ?_) (fun c156 h => ?_)
  · exact go_sub [1, 2, 3, 4, 5, 6, 7, 8, 0, 11] rfl (lb_L_law_1586 F S hL hE hz hK126 V x7 s0 x13 h)
  · refine go_aloadn (pc := 798) F dL_law_798 4 rfl ?_
    refine go_iconst (pc := 799) 4 F dL_law_799 (by decide) ?_
    refine go_iload (pc := 800) F dL_law_800 9 rfl ?_
    refine go_imul (pc := 802) F dL_law_802 ?_
    refine go_iload (pc := 803) F dL_law_803 10 rfl ?_
    refine go_iadd (pc := 805) F dL_law_805 ?_
    refine go_iconst (pc := 806) 1 F dL_law_806 (by decide) ?_
    refine go_isub (pc := 807) F dL_law_807 ?_
    refine go_iconst (pc := 808) (-1) F dL_law_808 (by decide) ?_
    refine go_jast (pc := 809) 119 20 F dL_law_809 (by decide) (fun _ => rfl) h (fun V155 h => ?_)
    refine go_goto (pc := 810) 1586 F dL_law_810 (by decide) ?_
    exact go_sub [1, 2, 3, 4, 5, 6, 7, 8, 0, 11] rfl (lb_L_law_1586 F S hL hE hz hK126 V155 x7 s0 x13 h)
set_option maxRecDepth 100000 in
set_option maxHeartbeats 4000000 in
theorem lb_L_law_783 {E : En} {G : Gm} {A : Nat → Prop} {KC KS : Nat} {QQ : State → Prop} {b L : Nat} {xs : Nat → Int32} (F : Fx E G A RL cL_law 18 ret 10 398 KC KS) (S : Sc E A b L xs) (hL : L < 2000) (hE : ∀ (V : Wd) (pc : Nat) (lv : List (Nat × Value)), decode cL_law pc = .ok (.ireturn, 1) → Go E G A KC KS QQ 18 V pc lv [.int 1]) {z : Int32 × Wd} (hz : z.1 = 1) {K126 : Wd → Int32 → Option (Int32 × Wd)} (hK126 : ∀ (V1 : Wd) (a7 : Int32), K126 V1 a7 = some z → Go E G A KC KS QQ 18 V1 126 [(0, .ref b), (1, .ref (AD G 0)), (2, .ref (AD G 118)), (3, .ref (AD G 119)), (4, .ref (AD G 120)), (5, .ref (AD G 121)), (6, .ref (AD G 122)), (7, .int a7)] []) (V : Wd) (x7 : Int32) (x10 : Int32) (x11 : Int32) (x13 : Int32) (s0 : Int32) (s1 : Int32) (h : f_L_law_783 xs L K126 V x7 x10 x11 x13 s0 s1 = some z) : Go E G A KC KS QQ 18 V 783 [(0, .ref b), (1, .ref (AD G 0)), (2, .ref (AD G 118)), (3, .ref (AD G 119)), (4, .ref (AD G 120)), (5, .ref (AD G 121)), (6, .ref (AD G 122)), (7, .int x7), (10, .int x10), (11, .int x11), (13, .int x13)] [.int s0, .int s1] := by
  unfold f_L_law_783 at h
  refine go_icmp_ne (pc := 783) 790 F dL_law_783 (by decide) h (fun c126 h => ?_) (fun c126 h => ?_)
  · refine go_iconst (pc := 790) 0 F dL_law_790 (by decide) ?_
    exact go_sub [0, 1, 2, 3, 4, 5, 6, 7, 8, 9, 10] rfl (lb_L_law_791 F S hL hE hz hK126 V x7 x10 x11 x13 0 h)
  · refine go_iconst (pc := 786) 1 F dL_law_786 (by decide) ?_
    refine go_goto (pc := 787) 791 F dL_law_787 (by decide) ?_
    exact go_sub [0, 1, 2, 3, 4, 5, 6, 7, 8, 9, 10] rfl (lb_L_law_791 F S hL hE hz hK126 V x7 x10 x11 x13 1 h)
set_option maxRecDepth 100000 in
set_option maxHeartbeats 4000000 in
theorem lb_L_law_754 {E : En} {G : Gm} {A : Nat → Prop} {KC KS : Nat} {QQ : State → Prop} {b L : Nat} {xs : Nat → Int32} (F : Fx E G A RL cL_law 18 ret 10 398 KC KS) (S : Sc E A b L xs) (hL : L < 2000) (hE : ∀ (V : Wd) (pc : Nat) (lv : List (Nat × Value)), decode cL_law pc = .ok (.ireturn, 1) → Go E G A KC KS QQ 18 V pc lv [.int 1]) {z : Int32 × Wd} (hz : z.1 = 1) {K126 : Wd → Int32 → Option (Int32 × Wd)} (hK126 : ∀ (V1 : Wd) (a7 : Int32), K126 V1 a7 = some z → Go E G A KC KS QQ 18 V1 126 [(0, .ref b), (1, .ref (AD G 0)), (2, .ref (AD G 118)), (3, .ref (AD G 119)), (4, .ref (AD G 120)), (5, .ref (AD G 121)), (6, .ref (AD G 122)), (7, .int a7)] []) (V : Wd) (x7 : Int32) (x10 : Int32) (x11 : Int32) (s0 : Int32) (h : f_L_law_754 xs L K126 V x7 x10 x11 s0 = some z) : Go E G A KC KS QQ 18 V 754 [(0, .ref b), (1, .ref (AD G 0)), (2, .ref (AD G 118)), (3, .ref (AD G 119)), (4, .ref (AD G 120)), (5, .ref (AD G 121)), (6, .ref (AD G 122)), (7, .int x7), (10, .int x10), (11, .int x11)] [.int s0] := by
  unfold f_L_law_754 at h
  refine go_istore (pc := 754) (lv' := [(13, .int s0), (0, .ref b), (1, .ref (AD G 0)), (2, .ref (AD G 118)), (3, .ref (AD G 119)), (4, .ref (AD G 120)), (5, .ref (AD G 121)), (6, .ref (AD G 122)), (7, .int x7), (10, .int x10), (11, .int x11)]) F dL_law_754 (by decide) rfl ?_
  refine go_aloadn (pc := 756) F dL_law_756 2 rfl ?_
  refine go_iload (pc := 757) F dL_law_757 9 rfl ?_
  obtain ⟨q86, hq86, h⟩ := ob_ h
  refine cv_L_113 (pc := 759) F dL_law_759 rfl (ct_X8_unbend (enL E) G V x10 q86 hq86) (by decide) (by decide) (Nat.le_of_ble_eq_true rfl) ?_
  obtain ⟨q87, hq87, h⟩ := ob_ h
  refine go_gx h (fun V88 h => ?_)
  refine go_iload (pc := 762) F dL_law_762 10 rfl ?_
  refine go_if_le (pc := 764) 781 F dL_law_764 (by decide) h (fun c90 h => ?_) (fun c90 h => ?_)
  · refine go_bipush (pc := 781) (-3) F dL_law_781 (by decide) ?_
    exact go_sub [1, 2, 3, 4, 5, 6, 7, 8, 9, 10, 0] rfl (lb_L_law_783 F S hL hE hz hK126 V88 x7 x10 x11 s0 (-3) q86.1 h)
  · refine go_aloadn (pc := 767) F dL_law_767 4 rfl ?_
    refine go_iconst (pc := 768) 4 F dL_law_768 (by decide) ?_
    refine go_iload (pc := 769) F dL_law_769 9 rfl ?_
    refine go_imul (pc := 771) F dL_law_771 ?_
    refine go_iload (pc := 772) F dL_law_772 10 rfl ?_
    refine go_iadd (pc := 774) F dL_law_774 ?_
    refine go_iconst (pc := 775) 1 F dL_law_775 (by decide) ?_
    refine go_isub (pc := 776) F dL_law_776 ?_
    refine go_jald (pc := 777) 119 20 F dL_law_777 (by decide) (fun _ => rfl) h (fun y89 h => ?_)
    refine go_goto (pc := 778) 783 F dL_law_778 (by decide) ?_
    exact go_sub [1, 2, 3, 4, 5, 6, 7, 8, 9, 10, 0] rfl (lb_L_law_783 F S hL hE hz hK126 V88 x7 x10 x11 s0 y89 q86.1 h)
set_option maxRecDepth 100000 in
set_option maxHeartbeats 4000000 in
theorem lb_L_law_899 {E : En} {G : Gm} {A : Nat → Prop} {KC KS : Nat} {QQ : State → Prop} {b L : Nat} {xs : Nat → Int32} (F : Fx E G A RL cL_law 18 ret 10 398 KC KS) (S : Sc E A b L xs) (hL : L < 2000) (hE : ∀ (V : Wd) (pc : Nat) (lv : List (Nat × Value)), decode cL_law pc = .ok (.ireturn, 1) → Go E G A KC KS QQ 18 V pc lv [.int 1]) {z : Int32 × Wd} (hz : z.1 = 1) {K126 : Wd → Int32 → Option (Int32 × Wd)} (hK126 : ∀ (V1 : Wd) (a7 : Int32), K126 V1 a7 = some z → Go E G A KC KS QQ 18 V1 126 [(0, .ref b), (1, .ref (AD G 0)), (2, .ref (AD G 118)), (3, .ref (AD G 119)), (4, .ref (AD G 120)), (5, .ref (AD G 121)), (6, .ref (AD G 122)), (7, .int a7)] []) (V : Wd) (x7 : Int32) (x12 : Int32) (x13 : Int32) (h : f_L_law_899 xs L K126 V x7 x12 x13 = some z) : Go E G A KC KS QQ 18 V 899 [(0, .ref b), (1, .ref (AD G 0)), (2, .ref (AD G 118)), (3, .ref (AD G 119)), (4, .ref (AD G 120)), (5, .ref (AD G 121)), (6, .ref (AD G 122)), (7, .int x7), (12, .int x12), (13, .int x13)] [] := by
  unfold f_L_law_899 at h
  refine go_goto (pc := 899) 1586 F dL_law_899 (by decide) ?_
  exact go_sub [0, 1, 2, 3, 4, 5, 6, 7, 8, 9] rfl (lb_L_law_1586 F S hL hE hz hK126 V x7 x12 x13 h)
set_option maxRecDepth 100000 in
set_option maxHeartbeats 4000000 in
theorem lb_L_law_882 {E : En} {G : Gm} {A : Nat → Prop} {KC KS : Nat} {QQ : State → Prop} {b L : Nat} {xs : Nat → Int32} (F : Fx E G A RL cL_law 18 ret 10 398 KC KS) (S : Sc E A b L xs) (hL : L < 2000) (hE : ∀ (V : Wd) (pc : Nat) (lv : List (Nat × Value)), decode cL_law pc = .ok (.ireturn, 1) → Go E G A KC KS QQ 18 V pc lv [.int 1]) {z : Int32 × Wd} (hz : z.1 = 1) {K126 : Wd → Int32 → Option (Int32 × Wd)} (hK126 : ∀ (V1 : Wd) (a7 : Int32), K126 V1 a7 = some z → Go E G A KC KS QQ 18 V1 126 [(0, .ref b), (1, .ref (AD G 0)), (2, .ref (AD G 118)), (3, .ref (AD G 119)), (4, .ref (AD G 120)), (5, .ref (AD G 121)), (6, .ref (AD G 122)), (7, .int a7)] []) (V : Wd) (x7 : Int32) (x10 : Int32) (x13 : Int32) (x14 : Int32) (s0 : Int32) (h : f_L_law_882 xs L K126 V x7 x10 x13 x14 s0 = some z) : Go E G A KC KS QQ 18 V 882 [(0, .ref b), (1, .ref (AD G 0)), (2, .ref (AD G 118)), (3, .ref (AD G 119)), (4, .ref (AD G 120)), (5, .ref (AD G 121)), (6, .ref (AD G 122)), (7, .int x7), (10, .int x10), (13, .int x13), (14, .int x14)] [.int s0] := by
  unfold f_L_law_882 at h
  refine go_istore (pc := 882) (lv' := [(12, .int s0), (0, .ref b), (1, .ref (AD G 0)), (2, .ref (AD G 118)), (3, .ref (AD G 119)), (4, .ref (AD G 120)), (5, .ref (AD G 121)), (6, .ref (AD G 122)), (7, .int x7), (10, .int x10), (13, .int x13), (14, .int x14)]) F dL_law_882 (by decide) rfl ?_
  refine go_iload (pc := 884) F dL_law_884 11 rfl ?_
  refine go_iload (pc := 886) F dL_law_886 9 rfl ?_
  refine go_icmp_eq (pc := 888) 899 F dL_law_888 (by decide) h (fun c154 h => ?_) (fun c154 h => ?_)
  · exact go_sub [1, 2, 3, 4, 5, 6, 7, 8, 0, 10] rfl (lb_L_law_899 F S hL hE hz hK126 V x7 s0 x13 h)
  · refine go_aloadn (pc := 891) F dL_law_891 4 rfl ?_
    refine go_iload (pc := 892) F dL_law_892 9 rfl ?_
    refine go_iload (pc := 894) F dL_law_894 11 rfl ?_
    obtain ⟨V153, hV153, h⟩ := ob_ h
    refine cv_L_83 (pc := 896) F dL_law_896 (ct_L_swap (enL E) G V x10 x14 V153 hV153) (by decide) (by decide) (Nat.le_of_ble_eq_true rfl) ?_
    exact go_sub [1, 2, 3, 4, 5, 6, 7, 8, 0, 10] rfl (lb_L_law_899 F S hL hE hz hK126 V153 x7 s0 x13 h)
set_option maxRecDepth 100000 in
set_option maxHeartbeats 4000000 in
theorem lb_L_law_874 {E : En} {G : Gm} {A : Nat → Prop} {KC KS : Nat} {QQ : State → Prop} {b L : Nat} {xs : Nat → Int32} (F : Fx E G A RL cL_law 18 ret 10 398 KC KS) (S : Sc E A b L xs) (hL : L < 2000) (hE : ∀ (V : Wd) (pc : Nat) (lv : List (Nat × Value)), decode cL_law pc = .ok (.ireturn, 1) → Go E G A KC KS QQ 18 V pc lv [.int 1]) {z : Int32 × Wd} (hz : z.1 = 1) {K126 : Wd → Int32 → Option (Int32 × Wd)} (hK126 : ∀ (V1 : Wd) (a7 : Int32), K126 V1 a7 = some z → Go E G A KC KS QQ 18 V1 126 [(0, .ref b), (1, .ref (AD G 0)), (2, .ref (AD G 118)), (3, .ref (AD G 119)), (4, .ref (AD G 120)), (5, .ref (AD G 121)), (6, .ref (AD G 122)), (7, .int a7)] []) (V : Wd) (x7 : Int32) (x10 : Int32) (x13 : Int32) (x14 : Int32) (s0 : Int32) (s1 : Int32) (h : f_L_law_874 xs L K126 V x7 x10 x13 x14 s0 s1 = some z) : Go E G A KC KS QQ 18 V 874 [(0, .ref b), (1, .ref (AD G 0)), (2, .ref (AD G 118)), (3, .ref (AD G 119)), (4, .ref (AD G 120)), (5, .ref (AD G 121)), (6, .ref (AD G 122)), (7, .int x7), (10, .int x10), (13, .int x13), (14, .int x14)] [.int s0, .int s1] := by
  unfold f_L_law_874 at h
  refine go_icmp_ne (pc := 874) 881 F dL_law_874 (by decide) h (fun c125 h => ?_) (fun c125 h => ?_)
  · refine go_iconst (pc := 881) 0 F dL_law_881 (by decide) ?_
    exact go_sub [0, 1, 2, 3, 4, 5, 6, 7, 8, 9, 10] rfl (lb_L_law_882 F S hL hE hz hK126 V x7 x10 x13 x14 0 h)
  · refine go_iconst (pc := 877) 1 F dL_law_877 (by decide) ?_
    refine go_goto (pc := 878) 882 F dL_law_878 (by decide) ?_
    exact go_sub [0, 1, 2, 3, 4, 5, 6, 7, 8, 9, 10] rfl (lb_L_law_882 F S hL hE hz hK126 V x7 x10 x13 x14 1 h)
set_option maxRecDepth 100000 in
set_option maxHeartbeats 4000000 in
theorem lb_L_law_843 {E : En} {G : Gm} {A : Nat → Prop} {KC KS : Nat} {QQ : State → Prop} {b L : Nat} {xs : Nat → Int32} (F : Fx E G A RL cL_law 18 ret 10 398 KC KS) (S : Sc E A b L xs) (hL : L < 2000) (hE : ∀ (V : Wd) (pc : Nat) (lv : List (Nat × Value)), decode cL_law pc = .ok (.ireturn, 1) → Go E G A KC KS QQ 18 V pc lv [.int 1]) {z : Int32 × Wd} (hz : z.1 = 1) {K126 : Wd → Int32 → Option (Int32 × Wd)} (hK126 : ∀ (V1 : Wd) (a7 : Int32), K126 V1 a7 = some z → Go E G A KC KS QQ 18 V1 126 [(0, .ref b), (1, .ref (AD G 0)), (2, .ref (AD G 118)), (3, .ref (AD G 119)), (4, .ref (AD G 120)), (5, .ref (AD G 121)), (6, .ref (AD G 122)), (7, .int a7)] []) (V : Wd) (x7 : Int32) (x10 : Int32) (x11 : Int32) (x14 : Int32) (s0 : Int32) (h : f_L_law_843 xs L K126 V x7 x10 x11 x14 s0 = some z) : Go E G A KC KS QQ 18 V 843 [(0, .ref b), (1, .ref (AD G 0)), (2, .ref (AD G 118)), (3, .ref (AD G 119)), (4, .ref (AD G 120)), (5, .ref (AD G 121)), (6, .ref (AD G 122)), (7, .int x7), (10, .int x10), (11, .int x11), (14, .int x14)] [.int s0] := by
  unfold f_L_law_843 at h
  refine go_istore (pc := 843) (lv' := [(13, .int s0), (0, .ref b), (1, .ref (AD G 0)), (2, .ref (AD G 118)), (3, .ref (AD G 119)), (4, .ref (AD G 120)), (5, .ref (AD G 121)), (6, .ref (AD G 122)), (7, .int x7), (10, .int x10), (11, .int x11), (14, .int x14)]) F dL_law_843 (by decide) rfl ?_
  refine go_aloadn (pc := 845) F dL_law_845 2 rfl ?_
  refine go_iload (pc := 846) F dL_law_846 9 rfl ?_
  refine go_iload (pc := 848) F dL_law_848 11 rfl ?_
  obtain ⟨q81, hq81, h⟩ := ob_ h
  refine cv_L_116 (pc := 850) F dL_law_850 rfl (ct_X8_exchange (enL E) G V x10 x14 q81 hq81) (by decide) (by decide) (Nat.le_of_ble_eq_true rfl) ?_
  obtain ⟨q82, hq82, h⟩ := ob_ h
  refine go_gx h (fun V83 h => ?_)
  refine go_iload (pc := 853) F dL_law_853 11 rfl ?_
  refine go_iload (pc := 855) F dL_law_855 9 rfl ?_
  refine go_icmp_ne (pc := 857) 865 F dL_law_857 (by decide) h (fun c85 h => ?_) (fun c85 h => ?_)
  · refine go_iload (pc := 865) F dL_law_865 10 rfl ?_
    refine go_aloadn (pc := 867) F dL_law_867 4 rfl ?_
    refine go_iload (pc := 868) F dL_law_868 11 rfl ?_
    obtain ⟨y84, hy84, h⟩ := ob_ h
    refine cv_L_12 (pc := 870) F dL_law_870 (ct_L_many (enL E) G V83 x14 y84 hy84) (by decide) (by decide) (Nat.le_of_ble_eq_true rfl) ?_
    refine go_iadd (pc := 873) F dL_law_873 ?_
    exact go_sub [1, 2, 3, 4, 5, 6, 7, 8, 9, 0, 11] rfl (lb_L_law_874 F S hL hE hz hK126 V83 x7 x10 s0 x14 (x11 + y84) q81.1 h)
  · refine go_bipush (pc := 860) (-2) F dL_law_860 (by decide) ?_
    refine go_goto (pc := 862) 874 F dL_law_862 (by decide) ?_
    exact go_sub [1, 2, 3, 4, 5, 6, 7, 8, 9, 0, 11] rfl (lb_L_law_874 F S hL hE hz hK126 V83 x7 x10 s0 x14 (-2) q81.1 h)
set_option maxRecDepth 100000 in
set_option maxHeartbeats 4000000 in
theorem lb_L_law_1133 {E : En} {G : Gm} {A : Nat → Prop} {KC KS : Nat} {QQ : State → Prop} {b L : Nat} {xs : Nat → Int32} (F : Fx E G A RL cL_law 18 ret 10 398 KC KS) (S : Sc E A b L xs) (hL : L < 2000) (hE : ∀ (V : Wd) (pc : Nat) (lv : List (Nat × Value)), decode cL_law pc = .ok (.ireturn, 1) → Go E G A KC KS QQ 18 V pc lv [.int 1]) {z : Int32 × Wd} (hz : z.1 = 1) {K126 : Wd → Int32 → Option (Int32 × Wd)} (hK126 : ∀ (V1 : Wd) (a7 : Int32), K126 V1 a7 = some z → Go E G A KC KS QQ 18 V1 126 [(0, .ref b), (1, .ref (AD G 0)), (2, .ref (AD G 118)), (3, .ref (AD G 119)), (4, .ref (AD G 120)), (5, .ref (AD G 121)), (6, .ref (AD G 122)), (7, .int a7)] []) (V : Wd) (x7 : Int32) (x12 : Int32) (x13 : Int32) (h : f_L_law_1133 xs L K126 V x7 x12 x13 = some z) : Go E G A KC KS QQ 18 V 1133 [(0, .ref b), (1, .ref (AD G 0)), (2, .ref (AD G 118)), (3, .ref (AD G 119)), (4, .ref (AD G 120)), (5, .ref (AD G 121)), (6, .ref (AD G 122)), (7, .int x7), (12, .int x12), (13, .int x13)] [] := by
  unfold f_L_law_1133 at h
  refine go_goto (pc := 1133) 1586 F dL_law_1133 (by decide) ?_
  exact go_sub [0, 1, 2, 3, 4, 5, 6, 7, 8, 9] rfl (lb_L_law_1586 F S hL hE hz hK126 V x7 x12 x13 h)
set_option maxRecDepth 100000 in
set_option maxHeartbeats 4000000 in
theorem lb_L_law_1090 {E : En} {G : Gm} {A : Nat → Prop} {KC KS : Nat} {QQ : State → Prop} {b L : Nat} {xs : Nat → Int32} (F : Fx E G A RL cL_law 18 ret 10 398 KC KS) (S : Sc E A b L xs) (hL : L < 2000) (hE : ∀ (V : Wd) (pc : Nat) (lv : List (Nat × Value)), decode cL_law pc = .ok (.ireturn, 1) → Go E G A KC KS QQ 18 V pc lv [.int 1]) {z : Int32 × Wd} (hz : z.1 = 1) {K126 : Wd → Int32 → Option (Int32 × Wd)} (hK126 : ∀ (V1 : Wd) (a7 : Int32), K126 V1 a7 = some z → Go E G A KC KS QQ 18 V1 126 [(0, .ref b), (1, .ref (AD G 0)), (2, .ref (AD G 118)), (3, .ref (AD G 119)), (4, .ref (AD G 120)), (5, .ref (AD G 121)), (6, .ref (AD G 122)), (7, .int a7)] []) (V : Wd) (x7 : Int32) (x13 : Int32) (x14 : Int32) (x16 : Int32) (s0 : Int32) (h : f_L_law_1090 xs L K126 V x7 x13 x14 x16 s0 = some z) : Go E G A KC KS QQ 18 V 1090 [(0, .ref b), (1, .ref (AD G 0)), (2, .ref (AD G 118)), (3, .ref (AD G 119)), (4, .ref (AD G 120)), (5, .ref (AD G 121)), (6, .ref (AD G 122)), (7, .int x7), (13, .int x13), (14, .int x14), (16, .int x16)] [.int s0] := by
  unfold f_L_law_1090 at h
  refine go_istore (pc := 1090) (lv' := [(12, .int s0), (0, .ref b), (1, .ref (AD G 0)), (2, .ref (AD G 118)), (3, .ref (AD G 119)), (4, .ref (AD G 120)), (5, .ref (AD G 121)), (6, .ref (AD G 122)), (7, .int x7), (13, .int x13), (14, .int x14), (16, .int x16)]) F dL_law_1090 (by decide) rfl ?_
  refine go_aload (pc := 1092) F dL_law_1092 7 rfl ?_
  refine go_iconst (pc := 1094) 5 F dL_law_1094 (by decide) ?_
  refine go_jald (pc := 1095) 122 7 F dL_law_1095 (by decide) (fun _ => rfl) h (fun y228 h => ?_)
  refine go_bipush (pc := 1096) 12 F dL_law_1096 (by decide) ?_
  refine go_icmp_ge (pc := 1098) 1133 F dL_law_1098 (by decide) h (fun c235 h => ?_) (fun c235 h => ?_)
  · exact go_sub [1, 2, 3, 4, 5, 6, 7, 8, 0, 9] rfl (lb_L_law_1133 F S hL hE hz hK126 V x7 s0 x13 h)
  · refine go_aload (pc := 1101) F dL_law_1101 5 rfl ?_
    refine go_iconst (pc := 1103) 2 F dL_law_1103 (by decide) ?_
    refine go_aload (pc := 1104) F dL_law_1104 7 rfl ?_
    refine go_iconst (pc := 1106) 5 F dL_law_1106 (by decide) ?_
    refine go_jald (pc := 1107) 122 7 F dL_law_1107 (by decide) (fun _ => rfl) h (fun y229 h => ?_)
    refine go_imul (pc := 1108) F dL_law_1108 ?_
    refine go_iload (pc := 1109) F dL_law_1109 10 rfl ?_
    refine go_jast (pc := 1111) 120 24 F dL_law_1111 (by decide) (fun _ => rfl) h (fun V230 h => ?_)
    refine go_aload (pc := 1112) F dL_law_1112 5 rfl ?_
    refine go_iconst (pc := 1114) 2 F dL_law_1114 (by decide) ?_
    refine go_aload (pc := 1115) F dL_law_1115 7 rfl ?_
    refine go_iconst (pc := 1117) 5 F dL_law_1117 (by decide) ?_
    refine go_jald (pc := 1118) 122 7 F dL_law_1118 (by decide) (fun _ => rfl) h (fun y231 h => ?_)
    refine go_imul (pc := 1119) F dL_law_1119 ?_
    refine go_iconst (pc := 1120) 1 F dL_law_1120 (by decide) ?_
    refine go_iadd (pc := 1121) F dL_law_1121 ?_
    refine go_iload (pc := 1122) F dL_law_1122 11 rfl ?_
    refine go_jast (pc := 1124) 120 24 F dL_law_1124 (by decide) (fun _ => rfl) h (fun V232 h => ?_)
    refine go_aload (pc := 1125) F dL_law_1125 7 rfl ?_
    refine go_iconst (pc := 1127) 5 F dL_law_1127 (by decide) ?_
    refine go_dup2 (pc := 1128) F dL_law_1128 rfl rfl ?_
    refine go_jald (pc := 1129) 122 7 F dL_law_1129 (by decide) (fun _ => rfl) h (fun y233 h => ?_)
    refine go_iconst (pc := 1130) 1 F dL_law_1130 (by decide) ?_
    refine go_iadd (pc := 1131) F dL_law_1131 ?_
    refine go_jast (pc := 1132) 122 7 F dL_law_1132 (by decide) (fun _ => rfl) h (fun V234 h => ?_)
    exact go_sub [1, 2, 3, 4, 5, 6, 7, 8, 0, 9] rfl (lb_L_law_1133 F S hL hE hz hK126 V234 x7 s0 x13 h)
set_option maxRecDepth 100000 in
set_option maxHeartbeats 4000000 in
theorem lb_L_law_1082 {E : En} {G : Gm} {A : Nat → Prop} {KC KS : Nat} {QQ : State → Prop} {b L : Nat} {xs : Nat → Int32} (F : Fx E G A RL cL_law 18 ret 10 398 KC KS) (S : Sc E A b L xs) (hL : L < 2000) (hE : ∀ (V : Wd) (pc : Nat) (lv : List (Nat × Value)), decode cL_law pc = .ok (.ireturn, 1) → Go E G A KC KS QQ 18 V pc lv [.int 1]) {z : Int32 × Wd} (hz : z.1 = 1) {K126 : Wd → Int32 → Option (Int32 × Wd)} (hK126 : ∀ (V1 : Wd) (a7 : Int32), K126 V1 a7 = some z → Go E G A KC KS QQ 18 V1 126 [(0, .ref b), (1, .ref (AD G 0)), (2, .ref (AD G 118)), (3, .ref (AD G 119)), (4, .ref (AD G 120)), (5, .ref (AD G 121)), (6, .ref (AD G 122)), (7, .int a7)] []) (V : Wd) (x7 : Int32) (x13 : Int32) (x14 : Int32) (x16 : Int32) (s0 : Int32) (s1 : Int32) (h : f_L_law_1082 xs L K126 V x7 x13 x14 x16 s0 s1 = some z) : Go E G A KC KS QQ 18 V 1082 [(0, .ref b), (1, .ref (AD G 0)), (2, .ref (AD G 118)), (3, .ref (AD G 119)), (4, .ref (AD G 120)), (5, .ref (AD G 121)), (6, .ref (AD G 122)), (7, .int x7), (13, .int x13), (14, .int x14), (16, .int x16)] [.int s0, .int s1] := by
  unfold f_L_law_1082 at h
  refine go_icmp_ne (pc := 1082) 1089 F dL_law_1082 (by decide) h (fun c225 h => ?_) (fun c225 h => ?_)
  · refine go_iconst (pc := 1089) 0 F dL_law_1089 (by decide) ?_
    exact go_sub [0, 1, 2, 3, 4, 5, 6, 7, 8, 9, 10] rfl (lb_L_law_1090 F S hL hE hz hK126 V x7 x13 x14 x16 0 h)
  · refine go_iconst (pc := 1085) 1 F dL_law_1085 (by decide) ?_
    refine go_goto (pc := 1086) 1090 F dL_law_1086 (by decide) ?_
    exact go_sub [0, 1, 2, 3, 4, 5, 6, 7, 8, 9, 10] rfl (lb_L_law_1090 F S hL hE hz hK126 V x7 x13 x14 x16 1 h)
set_option maxRecDepth 100000 in
set_option maxHeartbeats 4000000 in
theorem lb_L_law_1052 {E : En} {G : Gm} {A : Nat → Prop} {KC KS : Nat} {QQ : State → Prop} {b L : Nat} {xs : Nat → Int32} (F : Fx E G A RL cL_law 18 ret 10 398 KC KS) (S : Sc E A b L xs) (hL : L < 2000) (hE : ∀ (V : Wd) (pc : Nat) (lv : List (Nat × Value)), decode cL_law pc = .ok (.ireturn, 1) → Go E G A KC KS QQ 18 V pc lv [.int 1]) {z : Int32 × Wd} (hz : z.1 = 1) {K126 : Wd → Int32 → Option (Int32 × Wd)} (hK126 : ∀ (V1 : Wd) (a7 : Int32), K126 V1 a7 = some z → Go E G A KC KS QQ 18 V1 126 [(0, .ref b), (1, .ref (AD G 0)), (2, .ref (AD G 118)), (3, .ref (AD G 119)), (4, .ref (AD G 120)), (5, .ref (AD G 121)), (6, .ref (AD G 122)), (7, .int a7)] []) (V : Wd) (x7 : Int32) (x14 : Int32) (x16 : Int32) (s0 : Int32) (h : f_L_law_1052 xs L K126 V x7 x14 x16 s0 = some z) : Go E G A KC KS QQ 18 V 1052 [(0, .ref b), (1, .ref (AD G 0)), (2, .ref (AD G 118)), (3, .ref (AD G 119)), (4, .ref (AD G 120)), (5, .ref (AD G 121)), (6, .ref (AD G 122)), (7, .int x7), (14, .int x14), (16, .int x16)] [.int s0] := by
  unfold f_L_law_1052 at h
  refine go_istore (pc := 1052) (lv' := [(13, .int s0), (0, .ref b), (1, .ref (AD G 0)), (2, .ref (AD G 118)), (3, .ref (AD G 119)), (4, .ref (AD G 120)), (5, .ref (AD G 121)), (6, .ref (AD G 122)), (7, .int x7), (14, .int x14), (16, .int x16)]) F dL_law_1052 (by decide) rfl ?_
  refine go_aloadn (pc := 1054) F dL_law_1054 2 rfl ?_
  refine go_iload (pc := 1055) F dL_law_1055 9 rfl ?_
  refine go_iload (pc := 1057) F dL_law_1057 10 rfl ?_
  obtain ⟨q216, hq216, h⟩ := ob_ h
  refine cv_L_119 (pc := 1059) F dL_law_1059 rfl (ct_X8_enter (enL E) G V x14 x16 q216 hq216) (by decide) (by decide) (Nat.le_of_ble_eq_true rfl) ?_
  obtain ⟨q217, hq217, h⟩ := ob_ h
  refine go_gx h (fun V218 h => ?_)
  refine go_aload (pc := 1062) F dL_law_1062 7 rfl ?_
  refine go_iconst (pc := 1064) 5 F dL_law_1064 (by decide) ?_
  refine go_jald (pc := 1065) 122 7 F dL_law_1065 (by decide) (fun _ => rfl) h (fun y219 h => ?_)
  refine go_bipush (pc := 1066) 12 F dL_law_1066 (by decide) ?_
  refine go_icmp_ge (pc := 1068) 1080 F dL_law_1068 (by decide) h (fun c221 h => ?_) (fun c221 h => ?_)
  · refine go_bipush (pc := 1080) (-4) F dL_law_1080 (by decide) ?_
    exact go_sub [1, 2, 3, 4, 5, 6, 7, 8, 0, 9, 10] rfl (lb_L_law_1082 F S hL hE hz hK126 V218 x7 s0 x14 x16 (-4) q216.1 h)
  · refine go_aload (pc := 1071) F dL_law_1071 7 rfl ?_
    refine go_iconst (pc := 1073) 5 F dL_law_1073 (by decide) ?_
    refine go_jald (pc := 1074) 122 7 F dL_law_1074 (by decide) (fun _ => rfl) h (fun y220 h => ?_)
    refine go_iconst (pc := 1075) 1 F dL_law_1075 (by decide) ?_
    refine go_iadd (pc := 1076) F dL_law_1076 ?_
    refine go_goto (pc := 1077) 1082 F dL_law_1077 (by decide) ?_
    exact go_sub [1, 2, 3, 4, 5, 6, 7, 8, 0, 9, 10] rfl (lb_L_law_1082 F S hL hE hz hK126 V218 x7 s0 x14 x16 (y220 + 1) q216.1 h)
set_option maxRecDepth 100000 in
set_option maxHeartbeats 4000000 in
theorem lb_L_law_1033 {E : En} {G : Gm} {A : Nat → Prop} {KC KS : Nat} {QQ : State → Prop} {b L : Nat} {xs : Nat → Int32} (F : Fx E G A RL cL_law 18 ret 10 398 KC KS) (S : Sc E A b L xs) (hL : L < 2000) (hE : ∀ (V : Wd) (pc : Nat) (lv : List (Nat × Value)), decode cL_law pc = .ok (.ireturn, 1) → Go E G A KC KS QQ 18 V pc lv [.int 1]) {z : Int32 × Wd} (hz : z.1 = 1) {K126 : Wd → Int32 → Option (Int32 × Wd)} (hK126 : ∀ (V1 : Wd) (a7 : Int32), K126 V1 a7 = some z → Go E G A KC KS QQ 18 V1 126 [(0, .ref b), (1, .ref (AD G 0)), (2, .ref (AD G 118)), (3, .ref (AD G 119)), (4, .ref (AD G 120)), (5, .ref (AD G 121)), (6, .ref (AD G 122)), (7, .int a7)] []) (V : Wd) (x7 : Int32) (x14 : Int32) (s0 : Int32) (s1 : Int32) (h : f_L_law_1033 xs L K126 V x7 x14 s0 s1 = some z) : Go E G A KC KS QQ 18 V 1033 [(0, .ref b), (1, .ref (AD G 0)), (2, .ref (AD G 118)), (3, .ref (AD G 119)), (4, .ref (AD G 120)), (5, .ref (AD G 121)), (6, .ref (AD G 122)), (7, .int x7), (14, .int x14)] [.int s0, .int s1] := by
  unfold f_L_law_1033 at h
  obtain ⟨y187, hy187, h⟩ := ob_ h
  refine cv_L_97 (pc := 1033) F dL_law_1033 (ct_L_low (enL E) G V s1 s0 y187 hy187) (by decide) (by decide) (Nat.le_of_ble_eq_true rfl) ?_
  refine go_istore (pc := 1036) (lv' := [(16, .int y187), (0, .ref b), (1, .ref (AD G 0)), (2, .ref (AD G 118)), (3, .ref (AD G 119)), (4, .ref (AD G 120)), (5, .ref (AD G 121)), (6, .ref (AD G 122)), (7, .int x7), (14, .int x14)]) F dL_law_1036 (by decide) rfl ?_
  refine go_aload (pc := 1038) F dL_law_1038 7 rfl ?_
  refine go_iconst (pc := 1040) 5 F dL_law_1040 (by decide) ?_
  refine go_jald (pc := 1041) 122 7 F dL_law_1041 (by decide) (fun _ => rfl) h (fun y188 h => ?_)
  refine go_bipush (pc := 1042) 12 F dL_law_1042 (by decide) ?_
  refine go_icmp_ge (pc := 1044) 1051 F dL_law_1044 (by decide) h (fun c189 h => ?_) (fun c189 h => ?_)
  · refine go_iconst (pc := 1051) 0 F dL_law_1051 (by decide) ?_
    exact go_sub [1, 2, 3, 4, 5, 6, 7, 8, 9, 0] rfl (lb_L_law_1052 F S hL hE hz hK126 V x7 x14 y187 0 h)
  · refine go_iconst (pc := 1047) 1 F dL_law_1047 (by decide) ?_
    refine go_goto (pc := 1048) 1052 F dL_law_1048 (by decide) ?_
    exact go_sub [1, 2, 3, 4, 5, 6, 7, 8, 9, 0] rfl (lb_L_law_1052 F S hL hE hz hK126 V x7 x14 y187 1 h)
set_option maxRecDepth 100000 in
set_option maxHeartbeats 4000000 in
theorem lb_L_law_1008 {E : En} {G : Gm} {A : Nat → Prop} {KC KS : Nat} {QQ : State → Prop} {b L : Nat} {xs : Nat → Int32} (F : Fx E G A RL cL_law 18 ret 10 398 KC KS) (S : Sc E A b L xs) (hL : L < 2000) (hE : ∀ (V : Wd) (pc : Nat) (lv : List (Nat × Value)), decode cL_law pc = .ok (.ireturn, 1) → Go E G A KC KS QQ 18 V pc lv [.int 1]) {z : Int32 × Wd} (hz : z.1 = 1) {K126 : Wd → Int32 → Option (Int32 × Wd)} (hK126 : ∀ (V1 : Wd) (a7 : Int32), K126 V1 a7 = some z → Go E G A KC KS QQ 18 V1 126 [(0, .ref b), (1, .ref (AD G 0)), (2, .ref (AD G 118)), (3, .ref (AD G 119)), (4, .ref (AD G 120)), (5, .ref (AD G 121)), (6, .ref (AD G 122)), (7, .int a7)] []) (V : Wd) (x7 : Int32) (x8 : Int32) (s0 : Int32) (h : f_L_law_1008 xs L K126 V x7 x8 s0 = some z) : Go E G A KC KS QQ 18 V 1008 [(0, .ref b), (1, .ref (AD G 0)), (2, .ref (AD G 118)), (3, .ref (AD G 119)), (4, .ref (AD G 120)), (5, .ref (AD G 121)), (6, .ref (AD G 122)), (7, .int x7), (8, .int x8)] [.int s0] := by
  unfold f_L_law_1008 at h
  refine go_istore (pc := 1008) (lv' := [(14, .int s0), (0, .ref b), (1, .ref (AD G 0)), (2, .ref (AD G 118)), (3, .ref (AD G 119)), (4, .ref (AD G 120)), (5, .ref (AD G 121)), (6, .ref (AD G 122)), (7, .int x7), (8, .int x8)]) F dL_law_1008 (by decide) rfl ?_
  refine go_iload (pc := 1010) F dL_law_1010 9 rfl ?_
  refine go_bipush (pc := 1012) 16 F dL_law_1012 (by decide) ?_
  refine go_ishr (pc := 1014) F dL_law_1014 ?_
  refine go_iload (pc := 1015) F dL_law_1015 9 rfl ?_
  refine go_bipush (pc := 1017) 25 F dL_law_1017 (by decide) ?_
  refine go_ishr (pc := 1019) F dL_law_1019 ?_
  refine go_iconst (pc := 1020) 2 F dL_law_1020 (by decide) ?_
  obtain ⟨y151, hy151, h⟩ := ob_ h
  refine cv_L_97 (pc := 1021) F dL_law_1021 (ct_L_low (enL E) G V (x8 >>> (25 &&& 31)) 2 y151 hy151) (by decide) (by decide) (Nat.le_of_ble_eq_true rfl) ?_
  refine go_if_ne (pc := 1024) 1032 F dL_law_1024 (by decide) h (fun c152 h => ?_) (fun c152 h => ?_)
  · refine go_iconst (pc := 1032) 4 F dL_law_1032 (by decide) ?_
    exact go_sub [1, 2, 3, 4, 5, 6, 7, 8, 0] rfl (lb_L_law_1033 F S hL hE hz hK126 V x7 s0 4 (x8 >>> (16 &&& 31)) h)
  · refine go_bipush (pc := 1027) 100 F dL_law_1027 (by decide) ?_
    refine go_goto (pc := 1029) 1033 F dL_law_1029 (by decide) ?_
    exact go_sub [1, 2, 3, 4, 5, 6, 7, 8, 0] rfl (lb_L_law_1033 F S hL hE hz hK126 V x7 s0 100 (x8 >>> (16 &&& 31)) h)
set_option maxRecDepth 100000 in
set_option maxHeartbeats 4000000 in
theorem lb_L_law_985 {E : En} {G : Gm} {A : Nat → Prop} {KC KS : Nat} {QQ : State → Prop} {b L : Nat} {xs : Nat → Int32} (F : Fx E G A RL cL_law 18 ret 10 398 KC KS) (S : Sc E A b L xs) (hL : L < 2000) (hE : ∀ (V : Wd) (pc : Nat) (lv : List (Nat × Value)), decode cL_law pc = .ok (.ireturn, 1) → Go E G A KC KS QQ 18 V pc lv [.int 1]) {z : Int32 × Wd} (hz : z.1 = 1) {K126 : Wd → Int32 → Option (Int32 × Wd)} (hK126 : ∀ (V1 : Wd) (a7 : Int32), K126 V1 a7 = some z → Go E G A KC KS QQ 18 V1 126 [(0, .ref b), (1, .ref (AD G 0)), (2, .ref (AD G 118)), (3, .ref (AD G 119)), (4, .ref (AD G 120)), (5, .ref (AD G 121)), (6, .ref (AD G 122)), (7, .int a7)] []) (V : Wd) (x7 : Int32) (x8 : Int32) (x11 : Int32) (x14 : Int32) (h : f_L_law_985 xs L K126 V x7 x8 x11 x14 = some z) : Go E G A KC KS QQ 18 V 985 [(0, .ref b), (1, .ref (AD G 0)), (2, .ref (AD G 118)), (3, .ref (AD G 119)), (4, .ref (AD G 120)), (5, .ref (AD G 121)), (6, .ref (AD G 122)), (7, .int x7), (8, .int x8), (11, .int x11), (14, .int x14)] [] := by
  unfold f_L_law_985 at h
  refine go_iload (pc := 985) F dL_law_985 9 rfl ?_
  refine go_if_ne (pc := 987) 1006 F dL_law_987 (by decide) h (fun c124 h => ?_) (fun c124 h => ?_)
  · refine go_iload (pc := 1006) F dL_law_1006 10 rfl ?_
    exact go_sub [0, 1, 2, 3, 4, 5, 6, 7, 8] rfl (lb_L_law_1008 F S hL hE hz hK126 V x7 x8 x14 h)
  · refine go_bipush (pc := 990) 10 F dL_law_990 (by decide) ?_
    refine go_iload (pc := 992) F dL_law_992 8 rfl ?_
    refine go_bipush (pc := 994) 10 F dL_law_994 (by decide) ?_
    refine go_ishr (pc := 996) F dL_law_996 ?_
    refine go_bipush (pc := 997) 10 F dL_law_997 (by decide) ?_
    obtain ⟨y123, hy123, h⟩ := ob_ h
    refine cv_L_97 (pc := 999) F dL_law_999 (ct_L_low (enL E) G V (x8 >>> (10 &&& 31)) 10 y123 hy123) (by decide) (by decide) (Nat.le_of_ble_eq_true rfl) ?_
    refine go_iadd (pc := 1002) F dL_law_1002 ?_
    refine go_goto (pc := 1003) 1008 F dL_law_1003 (by decide) ?_
    exact go_sub [0, 1, 2, 3, 4, 5, 6, 7, 8] rfl (lb_L_law_1008 F S hL hE hz hK126 V x7 x8 (10 + y123) h)
set_option maxRecDepth 100000 in
set_option maxHeartbeats 4000000 in
theorem lb_L_law_926 {E : En} {G : Gm} {A : Nat → Prop} {KC KS : Nat} {QQ : State → Prop} {b L : Nat} {xs : Nat → Int32} (F : Fx E G A RL cL_law 18 ret 10 398 KC KS) (S : Sc E A b L xs) (hL : L < 2000) (hE : ∀ (V : Wd) (pc : Nat) (lv : List (Nat × Value)), decode cL_law pc = .ok (.ireturn, 1) → Go E G A KC KS QQ 18 V pc lv [.int 1]) {z : Int32 × Wd} (hz : z.1 = 1) {K126 : Wd → Int32 → Option (Int32 × Wd)} (hK126 : ∀ (V1 : Wd) (a7 : Int32), K126 V1 a7 = some z → Go E G A KC KS QQ 18 V1 126 [(0, .ref b), (1, .ref (AD G 0)), (2, .ref (AD G 118)), (3, .ref (AD G 119)), (4, .ref (AD G 120)), (5, .ref (AD G 121)), (6, .ref (AD G 122)), (7, .int a7)] []) : ∀ (n : Nat) (V : Wd) (x7 : Int32) (x8 : Int32) (x10 : Int32) (x11 : Int32) (x14 : Int32) (x15 : Int32) (x16 : Int32), f_L_law_926 xs L K126 n V x7 x8 x10 x11 x14 x15 x16 = some z → Go E G A KC KS QQ 18 V 926 [(0, .ref b), (1, .ref (AD G 0)), (2, .ref (AD G 118)), (3, .ref (AD G 119)), (4, .ref (AD G 120)), (5, .ref (AD G 121)), (6, .ref (AD G 122)), (7, .int x7), (8, .int x8), (10, .int x10), (11, .int x11), (14, .int x14), (15, .int x15), (16, .int x16)] [] := by
  intro n
  induction n with
  | zero => intro V x7 x8 x10 x11 x14 x15 x16 h; cases h
  | succ n ih =>
    intro V x7 x8 x10 x11 x14 x15 x16 h
    rw [f_L_law_926] at h
    refine go_iload (pc := 926) F dL_law_926 13 rfl ?_
    refine go_iload (pc := 928) F dL_law_928 10 rfl ?_
    refine go_icmp_ge (pc := 930) 985 F dL_law_930 (by decide) h (fun c80 h => ?_) (fun c80 h => ?_)
    · exact go_sub [0, 1, 2, 3, 4, 5, 6, 7, 8, 10, 11] rfl (lb_L_law_985 F S hL hE hz hK126 V x7 x8 x11 x14 h)
    · refine go_aloadn (pc := 933) F dL_law_933 2 rfl ?_
      refine go_aload (pc := 934) F dL_law_934 6 rfl ?_
      refine go_iload (pc := 936) F dL_law_936 12 rfl ?_
      refine go_aloadn (pc := 938) F dL_law_938 3 rfl ?_
      refine go_iload (pc := 939) F dL_law_939 9 rfl ?_
      refine go_iload (pc := 941) F dL_law_941 13 rfl ?_
      obtain ⟨y74, hy74, h⟩ := ob_ h
      refine cv_L_18 (pc := 943) F dL_law_943 (ct_L_stands (enL E) G V x10 x16 y74 hy74) (by decide) (by decide) (Nat.le_of_ble_eq_true rfl) ?_
      obtain ⟨y75, hy75, h⟩ := ob_ h
      refine cv_L_22 (pc := 946) F dL_law_946 (ct_L_taken (enL E) G V x15 y74 y75 hy75) (by decide) (by decide) (Nat.le_of_ble_eq_true rfl) ?_
      refine go_istore (pc := 949) (lv' := [(17, .int y75), (0, .ref b), (1, .ref (AD G 0)), (2, .ref (AD G 118)), (3, .ref (AD G 119)), (4, .ref (AD G 120)), (5, .ref (AD G 121)), (6, .ref (AD G 122)), (7, .int x7), (8, .int x8), (10, .int x10), (11, .int x11), (14, .int x14), (15, .int x15), (16, .int x16)]) F dL_law_949 (by decide) rfl ?_
      refine go_bipush (pc := 951) 10 F dL_law_951 (by decide) ?_
      refine go_iload (pc := 953) F dL_law_953 12 rfl ?_
      refine go_imul (pc := 955) F dL_law_955 ?_
      refine go_iload (pc := 956) F dL_law_956 0 rfl ?_
      refine go_if_ge (pc := 958) 974 F dL_law_958 (by decide) h (fun c79 h => ?_) (fun c79 h => ?_)
      · refine go_iload (pc := 974) F dL_law_974 0 rfl ?_
        refine go_iadd (pc := 976) F dL_law_976 ?_
        refine go_topi h (fun y76 h => ?_)
        refine go_istore (pc := 977) (lv' := [(14, .int y76), (17, .int y75), (0, .ref b), (1, .ref (AD G 0)), (2, .ref (AD G 118)), (3, .ref (AD G 119)), (4, .ref (AD G 120)), (5, .ref (AD G 121)), (6, .ref (AD G 122)), (7, .int x7), (8, .int x8), (10, .int x10), (11, .int x11), (15, .int x15), (16, .int x16)]) F dL_law_977 (by decide) rfl ?_
        refine go_iinc (pc := 979) (x16 + 1) (lv' := [(16, .int (x16 + 1)), (14, .int y76), (17, .int y75), (0, .ref b), (1, .ref (AD G 0)), (2, .ref (AD G 118)), (3, .ref (AD G 119)), (4, .ref (AD G 120)), (5, .ref (AD G 121)), (6, .ref (AD G 122)), (7, .int x7), (8, .int x8), (10, .int x10), (11, .int x11), (15, .int x15)]) F dL_law_979 (k := 14) rfl rfl (by decide) rfl ?_
        refine go_goto (pc := 982) 926 F dL_law_982 (by decide) ?_
        exact go_sub [3, 4, 5, 6, 7, 8, 9, 10, 11, 12, 13, 1, 14, 0] rfl (ih V x7 x8 x10 x11 y76 x15 (x16 + 1) h)
      · refine go_iload (pc := 961) F dL_law_961 9 rfl ?_
        refine go_bipush (pc := 963) 10 F dL_law_963 (by decide) ?_
        refine go_ishr (pc := 965) F dL_law_965 ?_
        refine go_bipush (pc := 966) 10 F dL_law_966 (by decide) ?_
        obtain ⟨y77, hy77, h⟩ := ob_ h
        refine cv_L_97 (pc := 968) F dL_law_968 (ct_L_low (enL E) G V (x8 >>> (10 &&& 31)) 10 y77 hy77) (by decide) (by decide) (Nat.le_of_ble_eq_true rfl) ?_
        refine go_goto (pc := 971) 976 F dL_law_971 (by decide) ?_
        refine go_iadd (pc := 976) F dL_law_976 ?_
        refine go_topi h (fun y78 h => ?_)
        refine go_istore (pc := 977) (lv' := [(14, .int y78), (17, .int y75), (0, .ref b), (1, .ref (AD G 0)), (2, .ref (AD G 118)), (3, .ref (AD G 119)), (4, .ref (AD G 120)), (5, .ref (AD G 121)), (6, .ref (AD G 122)), (7, .int x7), (8, .int x8), (10, .int x10), (11, .int x11), (15, .int x15), (16, .int x16)]) F dL_law_977 (by decide) rfl ?_
        refine go_iinc (pc := 979) (x16 + 1) (lv' := [(16, .int (x16 + 1)), (14, .int y78), (17, .int y75), (0, .ref b), (1, .ref (AD G 0)), (2, .ref (AD G 118)), (3, .ref (AD G 119)), (4, .ref (AD G 120)), (5, .ref (AD G 121)), (6, .ref (AD G 122)), (7, .int x7), (8, .int x8), (10, .int x10), (11, .int x11), (15, .int x15)]) F dL_law_979 (k := 14) rfl rfl (by decide) rfl ?_
        refine go_goto (pc := 982) 926 F dL_law_982 (by decide) ?_
        exact go_sub [3, 4, 5, 6, 7, 8, 9, 10, 11, 12, 13, 1, 14, 0] rfl (ih V x7 x8 x10 x11 y78 x15 (x16 + 1) h)
set_option maxRecDepth 100000 in
set_option maxHeartbeats 4000000 in
theorem lb_L_law_1228 {E : En} {G : Gm} {A : Nat → Prop} {KC KS : Nat} {QQ : State → Prop} {b L : Nat} {xs : Nat → Int32} (F : Fx E G A RL cL_law 18 ret 10 398 KC KS) (S : Sc E A b L xs) (hL : L < 2000) (hE : ∀ (V : Wd) (pc : Nat) (lv : List (Nat × Value)), decode cL_law pc = .ok (.ireturn, 1) → Go E G A KC KS QQ 18 V pc lv [.int 1]) {z : Int32 × Wd} (hz : z.1 = 1) {K126 : Wd → Int32 → Option (Int32 × Wd)} (hK126 : ∀ (V1 : Wd) (a7 : Int32), K126 V1 a7 = some z → Go E G A KC KS QQ 18 V1 126 [(0, .ref b), (1, .ref (AD G 0)), (2, .ref (AD G 118)), (3, .ref (AD G 119)), (4, .ref (AD G 120)), (5, .ref (AD G 121)), (6, .ref (AD G 122)), (7, .int a7)] []) (V : Wd) (x7 : Int32) (x12 : Int32) (x13 : Int32) (h : f_L_law_1228 xs L K126 V x7 x12 x13 = some z) : Go E G A KC KS QQ 18 V 1228 [(0, .ref b), (1, .ref (AD G 0)), (2, .ref (AD G 118)), (3, .ref (AD G 119)), (4, .ref (AD G 120)), (5, .ref (AD G 121)), (6, .ref (AD G 122)), (7, .int x7), (12, .int x12), (13, .int x13)] [] := by
  unfold f_L_law_1228 at h
  refine go_goto (pc := 1228) 1586 F dL_law_1228 (by decide) ?_
  exact go_sub [0, 1, 2, 3, 4, 5, 6, 7, 8, 9] rfl (lb_L_law_1586 F S hL hE hz hK126 V x7 x12 x13 h)
set_option maxRecDepth 100000 in
set_option maxHeartbeats 4000000 in
theorem lb_L_law_1203 {E : En} {G : Gm} {A : Nat → Prop} {KC KS : Nat} {QQ : State → Prop} {b L : Nat} {xs : Nat → Int32} (F : Fx E G A RL cL_law 18 ret 10 398 KC KS) (S : Sc E A b L xs) (hL : L < 2000) (hE : ∀ (V : Wd) (pc : Nat) (lv : List (Nat × Value)), decode cL_law pc = .ok (.ireturn, 1) → Go E G A KC KS QQ 18 V pc lv [.int 1]) {z : Int32 × Wd} (hz : z.1 = 1) {K126 : Wd → Int32 → Option (Int32 × Wd)} (hK126 : ∀ (V1 : Wd) (a7 : Int32), K126 V1 a7 = some z → Go E G A KC KS QQ 18 V1 126 [(0, .ref b), (1, .ref (AD G 0)), (2, .ref (AD G 118)), (3, .ref (AD G 119)), (4, .ref (AD G 120)), (5, .ref (AD G 121)), (6, .ref (AD G 122)), (7, .int a7)] []) : ∀ (n : Nat) (V : Wd) (x7 : Int32) (x12 : Int32) (x13 : Int32) (x15 : Int32), f_L_law_1203 xs L K126 n V x7 x12 x13 x15 = some z → Go E G A KC KS QQ 18 V 1203 [(0, .ref b), (1, .ref (AD G 0)), (2, .ref (AD G 118)), (3, .ref (AD G 119)), (4, .ref (AD G 120)), (5, .ref (AD G 121)), (6, .ref (AD G 122)), (7, .int x7), (12, .int x12), (13, .int x13), (15, .int x15)] [] := by
  intro n
  induction n with
  | zero => intro V x7 x12 x13 x15 h; cases h
  | succ n ih =>
    intro V x7 x12 x13 x15 h
    rw [f_L_law_1203] at h
    refine go_iload (pc := 1203) F dL_law_1203 10 rfl ?_
    refine go_bipush (pc := 1205) 22 F dL_law_1205 (by decide) ?_
    refine go_icmp_ge (pc := 1207) 1228 F dL_law_1207 (by decide) h (fun c73 h => ?_) (fun c73 h => ?_)
    · exact go_sub [0, 1, 2, 3, 4, 5, 6, 7, 8, 9] rfl (lb_L_law_1228 F S hL hE hz hK126 V x7 x12 x13 h)
    · refine go_aload (pc := 1210) F dL_law_1210 4 rfl ?_
      refine go_iload (pc := 1212) F dL_law_1212 10 rfl ?_
      refine go_aload (pc := 1214) F dL_law_1214 4 rfl ?_
      refine go_iload (pc := 1216) F dL_law_1216 10 rfl ?_
      refine go_iconst (pc := 1218) 2 F dL_law_1218 (by decide) ?_
      refine go_iadd (pc := 1219) F dL_law_1219 ?_
      refine go_jald (pc := 1220) 120 24 F dL_law_1220 (by decide) (fun _ => rfl) h (fun y71 h => ?_)
      refine go_jast (pc := 1221) 120 24 F dL_law_1221 (by decide) (fun _ => rfl) h (fun V72 h => ?_)
      refine go_iinc (pc := 1222) (x15 + 1) (lv' := [(15, .int (x15 + 1)), (0, .ref b), (1, .ref (AD G 0)), (2, .ref (AD G 118)), (3, .ref (AD G 119)), (4, .ref (AD G 120)), (5, .ref (AD G 121)), (6, .ref (AD G 122)), (7, .int x7), (12, .int x12), (13, .int x13)]) F dL_law_1222 (k := 10) rfl rfl (by decide) rfl ?_
      refine go_goto (pc := 1225) 1203 F dL_law_1225 (by decide) ?_
      exact go_sub [1, 2, 3, 4, 5, 6, 7, 8, 9, 10, 0] rfl (ih V72 x7 x12 x13 (x15 + 1) h)
set_option maxRecDepth 100000 in
set_option maxHeartbeats 4000000 in
theorem lb_L_law_1267 {E : En} {G : Gm} {A : Nat → Prop} {KC KS : Nat} {QQ : State → Prop} {b L : Nat} {xs : Nat → Int32} (F : Fx E G A RL cL_law 18 ret 10 398 KC KS) (S : Sc E A b L xs) (hL : L < 2000) (hE : ∀ (V : Wd) (pc : Nat) (lv : List (Nat × Value)), decode cL_law pc = .ok (.ireturn, 1) → Go E G A KC KS QQ 18 V pc lv [.int 1]) {z : Int32 × Wd} (hz : z.1 = 1) {K126 : Wd → Int32 → Option (Int32 × Wd)} (hK126 : ∀ (V1 : Wd) (a7 : Int32), K126 V1 a7 = some z → Go E G A KC KS QQ 18 V1 126 [(0, .ref b), (1, .ref (AD G 0)), (2, .ref (AD G 118)), (3, .ref (AD G 119)), (4, .ref (AD G 120)), (5, .ref (AD G 121)), (6, .ref (AD G 122)), (7, .int a7)] []) (V : Wd) (x7 : Int32) (x13 : Int32) (x14 : Int32) (s0 : Int32) (h : f_L_law_1267 xs L K126 V x7 x13 x14 s0 = some z) : Go E G A KC KS QQ 18 V 1267 [(0, .ref b), (1, .ref (AD G 0)), (2, .ref (AD G 118)), (3, .ref (AD G 119)), (4, .ref (AD G 120)), (5, .ref (AD G 121)), (6, .ref (AD G 122)), (7, .int x7), (13, .int x13), (14, .int x14)] [.int s0] := by
  unfold f_L_law_1267 at h
  refine go_istore (pc := 1267) (lv' := [(12, .int s0), (0, .ref b), (1, .ref (AD G 0)), (2, .ref (AD G 118)), (3, .ref (AD G 119)), (4, .ref (AD G 120)), (5, .ref (AD G 121)), (6, .ref (AD G 122)), (7, .int x7), (13, .int x13), (14, .int x14)]) F dL_law_1267 (by decide) rfl ?_
  refine go_aload (pc := 1269) F dL_law_1269 7 rfl ?_
  refine go_iconst (pc := 1271) 3 F dL_law_1271 (by decide) ?_
  refine go_iload (pc := 1272) F dL_law_1272 10 rfl ?_
  refine go_jast (pc := 1274) 122 7 F dL_law_1274 (by decide) (fun _ => rfl) h (fun V122 h => ?_)
  refine go_goto (pc := 1275) 1586 F dL_law_1275 (by decide) ?_
  exact go_sub [1, 2, 3, 4, 5, 6, 7, 8, 0, 9] rfl (lb_L_law_1586 F S hL hE hz hK126 V122 x7 s0 x13 h)
set_option maxRecDepth 100000 in
set_option maxHeartbeats 4000000 in
theorem lb_L_law_1486 {E : En} {G : Gm} {A : Nat → Prop} {KC KS : Nat} {QQ : State → Prop} {b L : Nat} {xs : Nat → Int32} (F : Fx E G A RL cL_law 18 ret 10 398 KC KS) (S : Sc E A b L xs) (hL : L < 2000) (hE : ∀ (V : Wd) (pc : Nat) (lv : List (Nat × Value)), decode cL_law pc = .ok (.ireturn, 1) → Go E G A KC KS QQ 18 V pc lv [.int 1]) {z : Int32 × Wd} (hz : z.1 = 1) {K126 : Wd → Int32 → Option (Int32 × Wd)} (hK126 : ∀ (V1 : Wd) (a7 : Int32), K126 V1 a7 = some z → Go E G A KC KS QQ 18 V1 126 [(0, .ref b), (1, .ref (AD G 0)), (2, .ref (AD G 118)), (3, .ref (AD G 119)), (4, .ref (AD G 120)), (5, .ref (AD G 121)), (6, .ref (AD G 122)), (7, .int a7)] []) (V : Wd) (x7 : Int32) (x12 : Int32) (x13 : Int32) (h : f_L_law_1486 xs L K126 V x7 x12 x13 = some z) : Go E G A KC KS QQ 18 V 1486 [(0, .ref b), (1, .ref (AD G 0)), (2, .ref (AD G 118)), (3, .ref (AD G 119)), (4, .ref (AD G 120)), (5, .ref (AD G 121)), (6, .ref (AD G 122)), (7, .int x7), (12, .int x12), (13, .int x13)] [] := by
  unfold f_L_law_1486 at h
  refine go_goto (pc := 1486) 1586 F dL_law_1486 (by decide) ?_
  exact go_sub [0, 1, 2, 3, 4, 5, 6, 7, 8, 9] rfl (lb_L_law_1586 F S hL hE hz hK126 V x7 x12 x13 h)
set_option maxRecDepth 100000 in
set_option maxHeartbeats 4000000 in
theorem lb_L_law_1468 {E : En} {G : Gm} {A : Nat → Prop} {KC KS : Nat} {QQ : State → Prop} {b L : Nat} {xs : Nat → Int32} (F : Fx E G A RL cL_law 18 ret 10 398 KC KS) (S : Sc E A b L xs) (hL : L < 2000) (hE : ∀ (V : Wd) (pc : Nat) (lv : List (Nat × Value)), decode cL_law pc = .ok (.ireturn, 1) → Go E G A KC KS QQ 18 V pc lv [.int 1]) {z : Int32 × Wd} (hz : z.1 = 1) {K126 : Wd → Int32 → Option (Int32 × Wd)} (hK126 : ∀ (V1 : Wd) (a7 : Int32), K126 V1 a7 = some z → Go E G A KC KS QQ 18 V1 126 [(0, .ref b), (1, .ref (AD G 0)), (2, .ref (AD G 118)), (3, .ref (AD G 119)), (4, .ref (AD G 120)), (5, .ref (AD G 121)), (6, .ref (AD G 122)), (7, .int a7)] []) : ∀ (n : Nat) (V : Wd) (x7 : Int32) (x12 : Int32) (x13 : Int32) (x15 : Int32), f_L_law_1468 xs L K126 n V x7 x12 x13 x15 = some z → Go E G A KC KS QQ 18 V 1468 [(0, .ref b), (1, .ref (AD G 0)), (2, .ref (AD G 118)), (3, .ref (AD G 119)), (4, .ref (AD G 120)), (5, .ref (AD G 121)), (6, .ref (AD G 122)), (7, .int x7), (12, .int x12), (13, .int x13), (15, .int x15)] [] := by
  intro n
  induction n with
  | zero => intro V x7 x12 x13 x15 h; cases h
  | succ n ih =>
    intro V x7 x12 x13 x15 h
    rw [f_L_law_1468] at h
    refine go_iload (pc := 1468) F dL_law_1468 10 rfl ?_
    refine go_bipush (pc := 1470) 20 F dL_law_1470 (by decide) ?_
    refine go_icmp_ge (pc := 1472) 1486 F dL_law_1472 (by decide) h (fun c143 h => ?_) (fun c143 h => ?_)
    · exact go_sub [0, 1, 2, 3, 4, 5, 6, 7, 8, 9] rfl (lb_L_law_1486 F S hL hE hz hK126 V x7 x12 x13 h)
    · refine go_aloadn (pc := 1475) F dL_law_1475 3 rfl ?_
      refine go_iload (pc := 1476) F dL_law_1476 10 rfl ?_
      refine go_iconst (pc := 1478) (-1) F dL_law_1478 (by decide) ?_
      refine go_jast (pc := 1479) 119 20 F dL_law_1479 (by decide) (fun _ => rfl) h (fun V142 h => ?_)
      refine go_iinc (pc := 1480) (x15 + 1) (lv' := [(15, .int (x15 + 1)), (0, .ref b), (1, .ref (AD G 0)), (2, .ref (AD G 118)), (3, .ref (AD G 119)), (4, .ref (AD G 120)), (5, .ref (AD G 121)), (6, .ref (AD G 122)), (7, .int x7), (12, .int x12), (13, .int x13)]) F dL_law_1480 (k := 10) rfl rfl (by decide) rfl ?_
      refine go_goto (pc := 1483) 1468 F dL_law_1483 (by decide) ?_
      exact go_sub [1, 2, 3, 4, 5, 6, 7, 8, 9, 10, 0] rfl (ih V142 x7 x12 x13 (x15 + 1) h)
set_option maxRecDepth 100000 in
set_option maxHeartbeats 4000000 in
theorem lb_L_law_1440 {E : En} {G : Gm} {A : Nat → Prop} {KC KS : Nat} {QQ : State → Prop} {b L : Nat} {xs : Nat → Int32} (F : Fx E G A RL cL_law 18 ret 10 398 KC KS) (S : Sc E A b L xs) (hL : L < 2000) (hE : ∀ (V : Wd) (pc : Nat) (lv : List (Nat × Value)), decode cL_law pc = .ok (.ireturn, 1) → Go E G A KC KS QQ 18 V pc lv [.int 1]) {z : Int32 × Wd} (hz : z.1 = 1) {K126 : Wd → Int32 → Option (Int32 × Wd)} (hK126 : ∀ (V1 : Wd) (a7 : Int32), K126 V1 a7 = some z → Go E G A KC KS QQ 18 V1 126 [(0, .ref b), (1, .ref (AD G 0)), (2, .ref (AD G 118)), (3, .ref (AD G 119)), (4, .ref (AD G 120)), (5, .ref (AD G 121)), (6, .ref (AD G 122)), (7, .int a7)] []) (V : Wd) (x7 : Int32) (x13 : Int32) (x14 : Int32) (h : f_L_law_1440 xs L K126 V x7 x13 x14 = some z) : Go E G A KC KS QQ 18 V 1440 [(0, .ref b), (1, .ref (AD G 0)), (2, .ref (AD G 118)), (3, .ref (AD G 119)), (4, .ref (AD G 120)), (5, .ref (AD G 121)), (6, .ref (AD G 122)), (7, .int x7), (13, .int x13), (14, .int x14)] [] := by
  unfold f_L_law_1440 at h
  refine go_aload (pc := 1440) F dL_law_1440 6 rfl ?_
  refine go_bipush (pc := 1442) 6 F dL_law_1442 (by decide) ?_
  refine go_dup2 (pc := 1444) F dL_law_1444 rfl rfl ?_
  refine go_jald (pc := 1445) 122 7 F dL_law_1445 (by decide) (fun _ => rfl) h (fun y210 h => ?_)
  refine go_iconst (pc := 1446) 1 F dL_law_1446 (by decide) ?_
  refine go_iadd (pc := 1447) F dL_law_1447 ?_
  refine go_jast (pc := 1448) 122 7 F dL_law_1448 (by decide) (fun _ => rfl) h (fun V211 h => ?_)
  refine go_aloadn (pc := 1449) F dL_law_1449 1 rfl ?_
  obtain ⟨q212, hq212, h⟩ := ob_ h
  refine cv_L_128 (pc := 1450) F dL_law_1450 rfl (ct_X8_lower (enL E) G V211 q212 hq212) (by decide) (by decide) (Nat.le_of_ble_eq_true rfl) ?_
  obtain ⟨q213, hq213, h⟩ := ob_ h
  refine go_gx h (fun V214 h => ?_)
  refine go_iload (pc := 1453) F dL_law_1453 9 rfl ?_
  refine go_icmp_ne (pc := 1455) 1462 F dL_law_1455 (by decide) h (fun c215 h => ?_) (fun c215 h => ?_)
  · refine go_iconst (pc := 1462) 0 F dL_law_1462 (by decide) ?_
    refine go_istore (pc := 1463) (lv' := [(12, .int 0), (0, .ref b), (1, .ref (AD G 0)), (2, .ref (AD G 118)), (3, .ref (AD G 119)), (4, .ref (AD G 120)), (5, .ref (AD G 121)), (6, .ref (AD G 122)), (7, .int x7), (13, .int x13), (14, .int x14)]) F dL_law_1463 (by decide) rfl ?_
    refine go_iconst (pc := 1465) 0 F dL_law_1465 (by decide) ?_
    refine go_istore (pc := 1466) (lv' := [(15, .int 0), (12, .int 0), (0, .ref b), (1, .ref (AD G 0)), (2, .ref (AD G 118)), (3, .ref (AD G 119)), (4, .ref (AD G 120)), (5, .ref (AD G 121)), (6, .ref (AD G 122)), (7, .int x7), (13, .int x13), (14, .int x14)]) F dL_law_1466 (by decide) rfl ?_
    exact go_sub [2, 3, 4, 5, 6, 7, 8, 9, 1, 10, 0] rfl (lb_L_law_1468 F S hL hE hz hK126 FU_ V214 x7 0 x13 0 h)
  · refine go_iconst (pc := 1458) 1 F dL_law_1458 (by decide) ?_
    refine go_goto (pc := 1459) 1463 F dL_law_1459 (by decide) ?_
    refine go_istore (pc := 1463) (lv' := [(12, .int 1), (0, .ref b), (1, .ref (AD G 0)), (2, .ref (AD G 118)), (3, .ref (AD G 119)), (4, .ref (AD G 120)), (5, .ref (AD G 121)), (6, .ref (AD G 122)), (7, .int x7), (13, .int x13), (14, .int x14)]) F dL_law_1463 (by decide) rfl ?_
    refine go_iconst (pc := 1465) 0 F dL_law_1465 (by decide) ?_
    refine go_istore (pc := 1466) (lv' := [(15, .int 0), (12, .int 1), (0, .ref b), (1, .ref (AD G 0)), (2, .ref (AD G 118)), (3, .ref (AD G 119)), (4, .ref (AD G 120)), (5, .ref (AD G 121)), (6, .ref (AD G 122)), (7, .int x7), (13, .int x13), (14, .int x14)]) F dL_law_1466 (by decide) rfl ?_
    exact go_sub [2, 3, 4, 5, 6, 7, 8, 9, 1, 10, 0] rfl (lb_L_law_1468 F S hL hE hz hK126 FU_ V214 x7 1 x13 0 h)
set_option maxRecDepth 100000 in
set_option maxHeartbeats 4000000 in
theorem lb_L_law_1394 {E : En} {G : Gm} {A : Nat → Prop} {KC KS : Nat} {QQ : State → Prop} {b L : Nat} {xs : Nat → Int32} (F : Fx E G A RL cL_law 18 ret 10 398 KC KS) (S : Sc E A b L xs) (hL : L < 2000) (hE : ∀ (V : Wd) (pc : Nat) (lv : List (Nat × Value)), decode cL_law pc = .ok (.ireturn, 1) → Go E G A KC KS QQ 18 V pc lv [.int 1]) {z : Int32 × Wd} (hz : z.1 = 1) {K126 : Wd → Int32 → Option (Int32 × Wd)} (hK126 : ∀ (V1 : Wd) (a7 : Int32), K126 V1 a7 = some z → Go E G A KC KS QQ 18 V1 126 [(0, .ref b), (1, .ref (AD G 0)), (2, .ref (AD G 118)), (3, .ref (AD G 119)), (4, .ref (AD G 120)), (5, .ref (AD G 121)), (6, .ref (AD G 122)), (7, .int a7)] []) : ∀ (n : Nat) (V : Wd) (x7 : Int32) (x13 : Int32) (x14 : Int32) (x15 : Int32) (x16 : Int32), f_L_law_1394 xs L K126 n V x7 x13 x14 x15 x16 = some z → Go E G A KC KS QQ 18 V 1394 [(0, .ref b), (1, .ref (AD G 0)), (2, .ref (AD G 118)), (3, .ref (AD G 119)), (4, .ref (AD G 120)), (5, .ref (AD G 121)), (6, .ref (AD G 122)), (7, .int x7), (13, .int x13), (14, .int x14), (15, .int x15), (16, .int x16)] [] := by
  intro n
  induction n with
  | zero => intro V x7 x13 x14 x15 x16 h; cases h
  | succ n ih =>
    intro V x7 x13 x14 x15 x16 h
    rw [f_L_law_1394] at h
    refine go_iload (pc := 1394) F dL_law_1394 11 rfl ?_
    refine go_iload (pc := 1396) F dL_law_1396 9 rfl ?_
    refine go_icmp_ge (pc := 1398) 1440 F dL_law_1398 (by decide) h (fun c186 h => ?_) (fun c186 h => ?_)
    · exact go_sub [0, 1, 2, 3, 4, 5, 6, 7, 8, 9] rfl (lb_L_law_1440 F S hL hE hz hK126 V x7 x13 x14 h)
    · refine go_aload (pc := 1401) F dL_law_1401 5 rfl ?_
      refine go_iload (pc := 1403) F dL_law_1403 10 rfl ?_
      refine go_iconst (pc := 1405) 1 F dL_law_1405 (by decide) ?_
      refine go_iadd (pc := 1406) F dL_law_1406 ?_
      refine go_iload (pc := 1407) F dL_law_1407 11 rfl ?_
      refine go_iadd (pc := 1409) F dL_law_1409 ?_
      refine go_aloadn (pc := 1410) F dL_law_1410 2 rfl ?_
      refine go_aloadn (pc := 1411) F dL_law_1411 3 rfl ?_
      refine go_aload (pc := 1412) F dL_law_1412 4 rfl ?_
      refine go_aload (pc := 1414) F dL_law_1414 6 rfl ?_
      refine go_aload (pc := 1416) F dL_law_1416 6 rfl ?_
      refine go_iconst (pc := 1418) 3 F dL_law_1418 (by decide) ?_
      refine go_jald (pc := 1419) 122 7 F dL_law_1419 (by decide) (fun _ => rfl) h (fun y181 h => ?_)
      refine go_aloadn (pc := 1420) F dL_law_1420 3 rfl ?_
      refine go_aload (pc := 1421) F dL_law_1421 6 rfl ?_
      refine go_iconst (pc := 1423) 3 F dL_law_1423 (by decide) ?_
      refine go_jald (pc := 1424) 122 7 F dL_law_1424 (by decide) (fun _ => rfl) h (fun y182 h => ?_)
      refine go_iload (pc := 1425) F dL_law_1425 11 rfl ?_
      obtain ⟨y183, hy183, h⟩ := ob_ h
      refine cv_L_38 (pc := 1427) F dL_law_1427 (ct_L_nth (enL E) G V y182 x16 y183 hy183) (by decide) (by decide) (Nat.le_of_ble_eq_true rfl) ?_
      obtain ⟨y184, hy184, h⟩ := ob_ h
      refine cv_L_26 (pc := 1430) F dL_law_1430 (ct_L_word (enL E) G V y181 y183 y184 hy184) (by decide) (by decide) (Nat.le_of_ble_eq_true rfl) ?_
      refine go_jast (pc := 1433) 121 48 F dL_law_1433 (by decide) (fun _ => rfl) h (fun V185 h => ?_)
      refine go_iinc (pc := 1434) (x16 + 1) (lv' := [(16, .int (x16 + 1)), (0, .ref b), (1, .ref (AD G 0)), (2, .ref (AD G 118)), (3, .ref (AD G 119)), (4, .ref (AD G 120)), (5, .ref (AD G 121)), (6, .ref (AD G 122)), (7, .int x7), (13, .int x13), (14, .int x14), (15, .int x15)]) F dL_law_1434 (k := 11) rfl rfl (by decide) rfl ?_
      refine go_goto (pc := 1437) 1394 F dL_law_1437 (by decide) ?_
      exact go_sub [1, 2, 3, 4, 5, 6, 7, 8, 9, 10, 11, 0] rfl (ih V185 x7 x13 x14 x15 (x16 + 1) h)
set_option maxRecDepth 100000 in
set_option maxHeartbeats 4000000 in
theorem lb_L_law_1348 {E : En} {G : Gm} {A : Nat → Prop} {KC KS : Nat} {QQ : State → Prop} {b L : Nat} {xs : Nat → Int32} (F : Fx E G A RL cL_law 18 ret 10 398 KC KS) (S : Sc E A b L xs) (hL : L < 2000) (hE : ∀ (V : Wd) (pc : Nat) (lv : List (Nat × Value)), decode cL_law pc = .ok (.ireturn, 1) → Go E G A KC KS QQ 18 V pc lv [.int 1]) {z : Int32 × Wd} (hz : z.1 = 1) {K126 : Wd → Int32 → Option (Int32 × Wd)} (hK126 : ∀ (V1 : Wd) (a7 : Int32), K126 V1 a7 = some z → Go E G A KC KS QQ 18 V1 126 [(0, .ref b), (1, .ref (AD G 0)), (2, .ref (AD G 118)), (3, .ref (AD G 119)), (4, .ref (AD G 120)), (5, .ref (AD G 121)), (6, .ref (AD G 122)), (7, .int a7)] []) : ∀ (n : Nat) (V : Wd) (x7 : Int32) (x13 : Int32) (x14 : Int32) (x15 : Int32) (x16 : Int32), f_L_law_1348 xs L K126 n V x7 x13 x14 x15 x16 = some z → Go E G A KC KS QQ 18 V 1348 [(0, .ref b), (1, .ref (AD G 0)), (2, .ref (AD G 118)), (3, .ref (AD G 119)), (4, .ref (AD G 120)), (5, .ref (AD G 121)), (6, .ref (AD G 122)), (7, .int x7), (13, .int x13), (14, .int x14), (15, .int x15), (16, .int x16)] [] := by
  intro n
  induction n with
  | zero => intro V x7 x13 x14 x15 x16 h; cases h
  | succ n ih =>
    intro V x7 x13 x14 x15 x16 h
    rw [f_L_law_1348] at h
    refine go_iload (pc := 1348) F dL_law_1348 11 rfl ?_
    refine go_bipush (pc := 1350) 42 F dL_law_1350 (by decide) ?_
    refine go_icmp_ge (pc := 1352) 1384 F dL_law_1352 (by decide) h (fun c150 h => ?_) (fun c150 h => ?_)
    · refine go_aload (pc := 1384) F dL_law_1384 5 rfl ?_
      refine go_iload (pc := 1386) F dL_law_1386 10 rfl ?_
      refine go_iload (pc := 1388) F dL_law_1388 9 rfl ?_
      refine go_jast (pc := 1390) 121 48 F dL_law_1390 (by decide) (fun _ => rfl) h (fun V144 h => ?_)
      refine go_iconst (pc := 1391) 0 F dL_law_1391 (by decide) ?_
      refine go_istore (pc := 1392) (lv' := [(16, .int 0), (0, .ref b), (1, .ref (AD G 0)), (2, .ref (AD G 118)), (3, .ref (AD G 119)), (4, .ref (AD G 120)), (5, .ref (AD G 121)), (6, .ref (AD G 122)), (7, .int x7), (13, .int x13), (14, .int x14), (15, .int x15)]) F dL_law_1392 (by decide) rfl ?_
      exact go_sub [1, 2, 3, 4, 5, 6, 7, 8, 9, 10, 11, 0] rfl (lb_L_law_1394 F S hL hE hz hK126 FU_ V144 x7 x13 x14 x15 0 h)
    · refine go_aload (pc := 1355) F dL_law_1355 6 rfl ?_
      refine go_bipush (pc := 1357) 6 F dL_law_1357 (by decide) ?_
      refine go_jald (pc := 1359) 122 7 F dL_law_1359 (by decide) (fun _ => rfl) h (fun y145 h => ?_)
      refine go_bipush (pc := 1360) 7 F dL_law_1360 (by decide) ?_
      refine go_icmp_le (pc := 1362) 1384 F dL_law_1362 (by decide) h (fun c149 h => ?_) (fun c149 h => ?_)
      · refine go_aload (pc := 1384) F dL_law_1384 5 rfl ?_
        refine go_iload (pc := 1386) F dL_law_1386 10 rfl ?_
        refine go_iload (pc := 1388) F dL_law_1388 9 rfl ?_
        refine go_jast (pc := 1390) 121 48 F dL_law_1390 (by decide) (fun _ => rfl) h (fun V146 h => ?_)
        refine go_iconst (pc := 1391) 0 F dL_law_1391 (by decide) ?_
        refine go_istore (pc := 1392) (lv' := [(16, .int 0), (0, .ref b), (1, .ref (AD G 0)), (2, .ref (AD G 118)), (3, .ref (AD G 119)), (4, .ref (AD G 120)), (5, .ref (AD G 121)), (6, .ref (AD G 122)), (7, .int x7), (13, .int x13), (14, .int x14), (15, .int x15)]) F dL_law_1392 (by decide) rfl ?_
        exact go_sub [1, 2, 3, 4, 5, 6, 7, 8, 9, 10, 11, 0] rfl (lb_L_law_1394 F S hL hE hz hK126 FU_ V146 x7 x13 x14 x15 0 h)
      · refine go_aload (pc := 1365) F dL_law_1365 5 rfl ?_
        refine go_iload (pc := 1367) F dL_law_1367 11 rfl ?_
        refine go_aload (pc := 1369) F dL_law_1369 5 rfl ?_
        refine go_iload (pc := 1371) F dL_law_1371 11 rfl ?_
        refine go_bipush (pc := 1373) 6 F dL_law_1373 (by decide) ?_
        refine go_iadd (pc := 1375) F dL_law_1375 ?_
        refine go_jald (pc := 1376) 121 48 F dL_law_1376 (by decide) (fun _ => rfl) h (fun y147 h => ?_)
        refine go_jast (pc := 1377) 121 48 F dL_law_1377 (by decide) (fun _ => rfl) h (fun V148 h => ?_)
        refine go_iinc (pc := 1378) (x16 + 1) (lv' := [(16, .int (x16 + 1)), (0, .ref b), (1, .ref (AD G 0)), (2, .ref (AD G 118)), (3, .ref (AD G 119)), (4, .ref (AD G 120)), (5, .ref (AD G 121)), (6, .ref (AD G 122)), (7, .int x7), (13, .int x13), (14, .int x14), (15, .int x15)]) F dL_law_1378 (k := 11) rfl rfl (by decide) rfl ?_
        refine go_goto (pc := 1381) 1348 F dL_law_1381 (by decide) ?_
        exact go_sub [1, 2, 3, 4, 5, 6, 7, 8, 9, 10, 11, 0] rfl (ih V148 x7 x13 x14 x15 (x16 + 1) h)
set_option maxRecDepth 100000 in
set_option maxHeartbeats 4000000 in
theorem lb_L_law_1313 {E : En} {G : Gm} {A : Nat → Prop} {KC KS : Nat} {QQ : State → Prop} {b L : Nat} {xs : Nat → Int32} (F : Fx E G A RL cL_law 18 ret 10 398 KC KS) (S : Sc E A b L xs) (hL : L < 2000) (hE : ∀ (V : Wd) (pc : Nat) (lv : List (Nat × Value)), decode cL_law pc = .ok (.ireturn, 1) → Go E G A KC KS QQ 18 V pc lv [.int 1]) {z : Int32 × Wd} (hz : z.1 = 1) {K126 : Wd → Int32 → Option (Int32 × Wd)} (hK126 : ∀ (V1 : Wd) (a7 : Int32), K126 V1 a7 = some z → Go E G A KC KS QQ 18 V1 126 [(0, .ref b), (1, .ref (AD G 0)), (2, .ref (AD G 118)), (3, .ref (AD G 119)), (4, .ref (AD G 120)), (5, .ref (AD G 121)), (6, .ref (AD G 122)), (7, .int a7)] []) (V : Wd) (x7 : Int32) (x13 : Int32) (s0 : Int32) (h : f_L_law_1313 xs L K126 V x7 x13 s0 = some z) : Go E G A KC KS QQ 18 V 1313 [(0, .ref b), (1, .ref (AD G 0)), (2, .ref (AD G 118)), (3, .ref (AD G 119)), (4, .ref (AD G 120)), (5, .ref (AD G 121)), (6, .ref (AD G 122)), (7, .int x7), (13, .int x13)] [.int s0] := by
  unfold f_L_law_1313 at h
  refine go_istore (pc := 1313) (lv' := [(14, .int s0), (0, .ref b), (1, .ref (AD G 0)), (2, .ref (AD G 118)), (3, .ref (AD G 119)), (4, .ref (AD G 120)), (5, .ref (AD G 121)), (6, .ref (AD G 122)), (7, .int x7), (13, .int x13)]) F dL_law_1313 (by decide) rfl ?_
  refine go_iload (pc := 1315) F dL_law_1315 0 rfl ?_
  refine go_if_le (pc := 1317) 1449 F dL_law_1317 (by decide) h (fun c121 h => ?_) (fun c121 h => ?_)
  · refine go_aloadn (pc := 1449) F dL_law_1449 2 rfl ?_
    obtain ⟨q113, hq113, h⟩ := ob_ h
    refine cv_L_128 (pc := 1450) F dL_law_1450 rfl (ct_X8_lower (enL E) G V q113 hq113) (by decide) (by decide) (Nat.le_of_ble_eq_true rfl) ?_
    obtain ⟨q114, hq114, h⟩ := ob_ h
    refine go_gx h (fun V115 h => ?_)
    refine go_iload (pc := 1453) F dL_law_1453 0 rfl ?_
    refine go_icmp_ne (pc := 1455) 1462 F dL_law_1455 (by decide) h (fun c116 h => ?_) (fun c116 h => ?_)
    · refine go_iconst (pc := 1462) 0 F dL_law_1462 (by decide) ?_
      refine go_istore (pc := 1463) (lv' := [(12, .int 0), (14, .int s0), (0, .ref b), (1, .ref (AD G 0)), (2, .ref (AD G 118)), (3, .ref (AD G 119)), (4, .ref (AD G 120)), (5, .ref (AD G 121)), (6, .ref (AD G 122)), (7, .int x7), (13, .int x13)]) F dL_law_1463 (by decide) rfl ?_
      refine go_iconst (pc := 1465) 0 F dL_law_1465 (by decide) ?_
      refine go_istore (pc := 1466) (lv' := [(15, .int 0), (12, .int 0), (14, .int s0), (0, .ref b), (1, .ref (AD G 0)), (2, .ref (AD G 118)), (3, .ref (AD G 119)), (4, .ref (AD G 120)), (5, .ref (AD G 121)), (6, .ref (AD G 122)), (7, .int x7), (13, .int x13)]) F dL_law_1466 (by decide) rfl ?_
      exact go_sub [3, 4, 5, 6, 7, 8, 9, 10, 1, 11, 0] rfl (lb_L_law_1468 F S hL hE hz hK126 FU_ V115 x7 0 x13 0 h)
    · refine go_iconst (pc := 1458) 1 F dL_law_1458 (by decide) ?_
      refine go_goto (pc := 1459) 1463 F dL_law_1459 (by decide) ?_
      refine go_istore (pc := 1463) (lv' := [(12, .int 1), (14, .int s0), (0, .ref b), (1, .ref (AD G 0)), (2, .ref (AD G 118)), (3, .ref (AD G 119)), (4, .ref (AD G 120)), (5, .ref (AD G 121)), (6, .ref (AD G 122)), (7, .int x7), (13, .int x13)]) F dL_law_1463 (by decide) rfl ?_
      refine go_iconst (pc := 1465) 0 F dL_law_1465 (by decide) ?_
      refine go_istore (pc := 1466) (lv' := [(15, .int 0), (12, .int 1), (14, .int s0), (0, .ref b), (1, .ref (AD G 0)), (2, .ref (AD G 118)), (3, .ref (AD G 119)), (4, .ref (AD G 120)), (5, .ref (AD G 121)), (6, .ref (AD G 122)), (7, .int x7), (13, .int x13)]) F dL_law_1466 (by decide) rfl ?_
      exact go_sub [3, 4, 5, 6, 7, 8, 9, 10, 1, 11, 0] rfl (lb_L_law_1468 F S hL hE hz hK126 FU_ V115 x7 1 x13 0 h)
  · refine go_aload (pc := 1320) F dL_law_1320 7 rfl ?_
    refine go_bipush (pc := 1322) 6 F dL_law_1322 (by decide) ?_
    refine go_jald (pc := 1324) 122 7 F dL_law_1324 (by decide) (fun _ => rfl) h (fun y117 h => ?_)
    refine go_bipush (pc := 1325) 8 F dL_law_1325 (by decide) ?_
    refine go_icmp_ge (pc := 1327) 1341 F dL_law_1327 (by decide) h (fun c120 h => ?_) (fun c120 h => ?_)
    · refine go_bipush (pc := 1341) 42 F dL_law_1341 (by decide) ?_
      refine go_istore (pc := 1343) (lv' := [(15, .int 42), (14, .int s0), (0, .ref b), (1, .ref (AD G 0)), (2, .ref (AD G 118)), (3, .ref (AD G 119)), (4, .ref (AD G 120)), (5, .ref (AD G 121)), (6, .ref (AD G 122)), (7, .int x7), (13, .int x13)]) F dL_law_1343 (by decide) rfl ?_
      refine go_iconst (pc := 1345) 0 F dL_law_1345 (by decide) ?_
      refine go_istore (pc := 1346) (lv' := [(16, .int 0), (15, .int 42), (14, .int s0), (0, .ref b), (1, .ref (AD G 0)), (2, .ref (AD G 118)), (3, .ref (AD G 119)), (4, .ref (AD G 120)), (5, .ref (AD G 121)), (6, .ref (AD G 122)), (7, .int x7), (13, .int x13)]) F dL_law_1346 (by decide) rfl ?_
      exact go_sub [3, 4, 5, 6, 7, 8, 9, 10, 11, 2, 1, 0] rfl (lb_L_law_1348 F S hL hE hz hK126 FU_ V x7 x13 s0 42 0 h)
    · refine go_bipush (pc := 1330) 6 F dL_law_1330 (by decide) ?_
      refine go_aload (pc := 1332) F dL_law_1332 7 rfl ?_
      refine go_bipush (pc := 1334) 6 F dL_law_1334 (by decide) ?_
      refine go_jald (pc := 1336) 122 7 F dL_law_1336 (by decide) (fun _ => rfl) h (fun y118 h => ?_)
      refine go_imul (pc := 1337) F dL_law_1337 ?_
      refine go_goto (pc := 1338) 1343 F dL_law_1338 (by decide) ?_
      refine go_topi h (fun y119 h => ?_)
      refine go_istore (pc := 1343) (lv' := [(15, .int y119), (14, .int s0), (0, .ref b), (1, .ref (AD G 0)), (2, .ref (AD G 118)), (3, .ref (AD G 119)), (4, .ref (AD G 120)), (5, .ref (AD G 121)), (6, .ref (AD G 122)), (7, .int x7), (13, .int x13)]) F dL_law_1343 (by decide) rfl ?_
      refine go_iconst (pc := 1345) 0 F dL_law_1345 (by decide) ?_
      refine go_istore (pc := 1346) (lv' := [(16, .int 0), (15, .int y119), (14, .int s0), (0, .ref b), (1, .ref (AD G 0)), (2, .ref (AD G 118)), (3, .ref (AD G 119)), (4, .ref (AD G 120)), (5, .ref (AD G 121)), (6, .ref (AD G 122)), (7, .int x7), (13, .int x13)]) F dL_law_1346 (by decide) rfl ?_
      exact go_sub [3, 4, 5, 6, 7, 8, 9, 10, 11, 2, 1, 0] rfl (lb_L_law_1348 F S hL hE hz hK126 FU_ V x7 x13 s0 y119 0 h)
set_option maxRecDepth 100000 in
set_option maxHeartbeats 4000000 in
theorem lb_L_law_1584 {E : En} {G : Gm} {A : Nat → Prop} {KC KS : Nat} {QQ : State → Prop} {b L : Nat} {xs : Nat → Int32} (F : Fx E G A RL cL_law 18 ret 10 398 KC KS) (S : Sc E A b L xs) (hL : L < 2000) (hE : ∀ (V : Wd) (pc : Nat) (lv : List (Nat × Value)), decode cL_law pc = .ok (.ireturn, 1) → Go E G A KC KS QQ 18 V pc lv [.int 1]) {z : Int32 × Wd} (hz : z.1 = 1) {K126 : Wd → Int32 → Option (Int32 × Wd)} (hK126 : ∀ (V1 : Wd) (a7 : Int32), K126 V1 a7 = some z → Go E G A KC KS QQ 18 V1 126 [(0, .ref b), (1, .ref (AD G 0)), (2, .ref (AD G 118)), (3, .ref (AD G 119)), (4, .ref (AD G 120)), (5, .ref (AD G 121)), (6, .ref (AD G 122)), (7, .int a7)] []) (V : Wd) (x7 : Int32) (x13 : Int32) (s0 : Int32) (h : f_L_law_1584 xs L K126 V x7 x13 s0 = some z) : Go E G A KC KS QQ 18 V 1584 [(0, .ref b), (1, .ref (AD G 0)), (2, .ref (AD G 118)), (3, .ref (AD G 119)), (4, .ref (AD G 120)), (5, .ref (AD G 121)), (6, .ref (AD G 122)), (7, .int x7), (13, .int x13)] [.int s0] := by
  unfold f_L_law_1584 at h
  refine go_istore (pc := 1584) (lv' := [(12, .int s0), (0, .ref b), (1, .ref (AD G 0)), (2, .ref (AD G 118)), (3, .ref (AD G 119)), (4, .ref (AD G 120)), (5, .ref (AD G 121)), (6, .ref (AD G 122)), (7, .int x7), (13, .int x13)]) F dL_law_1584 (by decide) rfl ?_
  exact go_sub [1, 2, 3, 4, 5, 6, 7, 8, 0, 9] rfl (lb_L_law_1586 F S hL hE hz hK126 V x7 s0 x13 h)
set_option maxRecDepth 100000 in
set_option maxHeartbeats 4000000 in
theorem lb_L_law_1576 {E : En} {G : Gm} {A : Nat → Prop} {KC KS : Nat} {QQ : State → Prop} {b L : Nat} {xs : Nat → Int32} (F : Fx E G A RL cL_law 18 ret 10 398 KC KS) (S : Sc E A b L xs) (hL : L < 2000) (hE : ∀ (V : Wd) (pc : Nat) (lv : List (Nat × Value)), decode cL_law pc = .ok (.ireturn, 1) → Go E G A KC KS QQ 18 V pc lv [.int 1]) {z : Int32 × Wd} (hz : z.1 = 1) {K126 : Wd → Int32 → Option (Int32 × Wd)} (hK126 : ∀ (V1 : Wd) (a7 : Int32), K126 V1 a7 = some z → Go E G A KC KS QQ 18 V1 126 [(0, .ref b), (1, .ref (AD G 0)), (2, .ref (AD G 118)), (3, .ref (AD G 119)), (4, .ref (AD G 120)), (5, .ref (AD G 121)), (6, .ref (AD G 122)), (7, .int a7)] []) (V : Wd) (x7 : Int32) (x13 : Int32) (s0 : Int32) (s1 : Int32) (h : f_L_law_1576 xs L K126 V x7 x13 s0 s1 = some z) : Go E G A KC KS QQ 18 V 1576 [(0, .ref b), (1, .ref (AD G 0)), (2, .ref (AD G 118)), (3, .ref (AD G 119)), (4, .ref (AD G 120)), (5, .ref (AD G 121)), (6, .ref (AD G 122)), (7, .int x7), (13, .int x13)] [.int s0, .int s1] := by
  unfold f_L_law_1576 at h
  refine go_icmp_ne (pc := 1576) 1583 F dL_law_1576 (by decide) h (fun c224 h => ?_) (fun c224 h => ?_)
  · refine go_iconst (pc := 1583) 0 F dL_law_1583 (by decide) ?_
    exact go_sub [0, 1, 2, 3, 4, 5, 6, 7, 8] rfl (lb_L_law_1584 F S hL hE hz hK126 V x7 x13 0 h)
  · refine go_iconst (pc := 1579) 1 F dL_law_1579 (by decide) ?_
    refine go_goto (pc := 1580) 1584 F dL_law_1580 (by decide) ?_
    exact go_sub [0, 1, 2, 3, 4, 5, 6, 7, 8] rfl (lb_L_law_1584 F S hL hE hz hK126 V x7 x13 1 h)
set_option maxRecDepth 100000 in
set_option maxHeartbeats 4000000 in
theorem lb_L_law_1556 {E : En} {G : Gm} {A : Nat → Prop} {KC KS : Nat} {QQ : State → Prop} {b L : Nat} {xs : Nat → Int32} (F : Fx E G A RL cL_law 18 ret 10 398 KC KS) (S : Sc E A b L xs) (hL : L < 2000) (hE : ∀ (V : Wd) (pc : Nat) (lv : List (Nat × Value)), decode cL_law pc = .ok (.ireturn, 1) → Go E G A KC KS QQ 18 V pc lv [.int 1]) {z : Int32 × Wd} (hz : z.1 = 1) {K126 : Wd → Int32 → Option (Int32 × Wd)} (hK126 : ∀ (V1 : Wd) (a7 : Int32), K126 V1 a7 = some z → Go E G A KC KS QQ 18 V1 126 [(0, .ref b), (1, .ref (AD G 0)), (2, .ref (AD G 118)), (3, .ref (AD G 119)), (4, .ref (AD G 120)), (5, .ref (AD G 121)), (6, .ref (AD G 122)), (7, .int a7)] []) (V : Wd) (x7 : Int32) (x13 : Int32) (x14 : Int32) (s0 : Int32) (s1 : Int32) (s2 : Int32) (h : f_L_law_1556 xs L K126 V x7 x13 x14 s0 s1 s2 = some z) : Go E G A KC KS QQ 18 V 1556 [(0, .ref b), (1, .ref (AD G 0)), (2, .ref (AD G 118)), (3, .ref (AD G 119)), (4, .ref (AD G 120)), (5, .ref (AD G 121)), (6, .ref (AD G 122)), (7, .int x7), (13, .int x13), (14, .int x14)] [.int s0, .int s1, .int s2, .ref (AD G 122)] := by
  unfold f_L_law_1556 at h
  refine go_iadd (pc := 1556) F dL_law_1556 ?_
  refine go_jast (pc := 1557) 122 7 F dL_law_1557 (by decide) (fun _ => rfl) h (fun V204 h => ?_)
  refine go_aloadn (pc := 1558) F dL_law_1558 1 rfl ?_
  obtain ⟨q205, hq205, h⟩ := ob_ h
  refine cv_L_131 (pc := 1559) F dL_law_1559 rfl (ct_X8_answer (enL E) G V204 q205 hq205) (by decide) (by decide) (Nat.le_of_ble_eq_true rfl) ?_
  obtain ⟨q206, hq206, h⟩ := ob_ h
  refine go_gx h (fun V207 h => ?_)
  refine go_iload (pc := 1562) F dL_law_1562 9 rfl ?_
  refine go_if_eq (pc := 1564) 1574 F dL_law_1564 (by decide) h (fun c209 h => ?_) (fun c209 h => ?_)
  · refine go_bipush (pc := 1574) (-3) F dL_law_1574 (by decide) ?_
    exact go_sub [0, 1, 2, 3, 4, 5, 6, 7, 8] rfl (lb_L_law_1576 F S hL hE hz hK126 V207 x7 x13 (-3) q205.1 h)
  · refine go_aload (pc := 1567) F dL_law_1567 6 rfl ?_
    refine go_iconst (pc := 1569) 4 F dL_law_1569 (by decide) ?_
    refine go_jald (pc := 1570) 122 7 F dL_law_1570 (by decide) (fun _ => rfl) h (fun y208 h => ?_)
    refine go_goto (pc := 1571) 1576 F dL_law_1571 (by decide) ?_
    exact go_sub [0, 1, 2, 3, 4, 5, 6, 7, 8] rfl (lb_L_law_1576 F S hL hE hz hK126 V207 x7 x13 y208 q205.1 h)
set_option maxRecDepth 100000 in
set_option maxHeartbeats 4000000 in
theorem lb_L_law_1536 {E : En} {G : Gm} {A : Nat → Prop} {KC KS : Nat} {QQ : State → Prop} {b L : Nat} {xs : Nat → Int32} (F : Fx E G A RL cL_law 18 ret 10 398 KC KS) (S : Sc E A b L xs) (hL : L < 2000) (hE : ∀ (V : Wd) (pc : Nat) (lv : List (Nat × Value)), decode cL_law pc = .ok (.ireturn, 1) → Go E G A KC KS QQ 18 V pc lv [.int 1]) {z : Int32 × Wd} (hz : z.1 = 1) {K126 : Wd → Int32 → Option (Int32 × Wd)} (hK126 : ∀ (V1 : Wd) (a7 : Int32), K126 V1 a7 = some z → Go E G A KC KS QQ 18 V1 126 [(0, .ref b), (1, .ref (AD G 0)), (2, .ref (AD G 118)), (3, .ref (AD G 119)), (4, .ref (AD G 120)), (5, .ref (AD G 121)), (6, .ref (AD G 122)), (7, .int a7)] []) (V : Wd) (x7 : Int32) (s0 : Int32) (h : f_L_law_1536 xs L K126 V x7 s0 = some z) : Go E G A KC KS QQ 18 V 1536 [(0, .ref b), (1, .ref (AD G 0)), (2, .ref (AD G 118)), (3, .ref (AD G 119)), (4, .ref (AD G 120)), (5, .ref (AD G 121)), (6, .ref (AD G 122)), (7, .int x7)] [.int s0] := by
  unfold f_L_law_1536 at h
  refine go_istore (pc := 1536) (lv' := [(14, .int s0), (0, .ref b), (1, .ref (AD G 0)), (2, .ref (AD G 118)), (3, .ref (AD G 119)), (4, .ref (AD G 120)), (5, .ref (AD G 121)), (6, .ref (AD G 122)), (7, .int x7)]) F dL_law_1536 (by decide) rfl ?_
  refine go_iconst (pc := 1538) 0 F dL_law_1538 (by decide) ?_
  refine go_istore (pc := 1539) (lv' := [(13, .int 0), (14, .int s0), (0, .ref b), (1, .ref (AD G 0)), (2, .ref (AD G 118)), (3, .ref (AD G 119)), (4, .ref (AD G 120)), (5, .ref (AD G 121)), (6, .ref (AD G 122)), (7, .int x7)]) F dL_law_1539 (by decide) rfl ?_
  refine go_aload (pc := 1541) F dL_law_1541 8 rfl ?_
  refine go_iconst (pc := 1543) 4 F dL_law_1543 (by decide) ?_
  refine go_dup2 (pc := 1544) F dL_law_1544 rfl rfl ?_
  refine go_jald (pc := 1545) 122 7 F dL_law_1545 (by decide) (fun _ => rfl) h (fun y179 h => ?_)
  refine go_iload (pc := 1546) F dL_law_1546 1 rfl ?_
  refine go_if_eq (pc := 1548) 1555 F dL_law_1548 (by decide) h (fun c180 h => ?_) (fun c180 h => ?_)
  · refine go_iconst (pc := 1555) 0 F dL_law_1555 (by decide) ?_
    exact go_sub [2, 3, 4, 5, 6, 7, 8, 9, 0, 1] rfl (lb_L_law_1556 F S hL hE hz hK126 V x7 0 s0 0 y179 4 h)
  · refine go_iconst (pc := 1551) 1 F dL_law_1551 (by decide) ?_
    refine go_goto (pc := 1552) 1556 F dL_law_1552 (by decide) ?_
    exact go_sub [2, 3, 4, 5, 6, 7, 8, 9, 0, 1] rfl (lb_L_law_1556 F S hL hE hz hK126 V x7 0 s0 1 y179 4 h)
set_option maxRecDepth 100000 in
set_option maxHeartbeats 4000000 in
theorem lb_L_law_1531 {E : En} {G : Gm} {A : Nat → Prop} {KC KS : Nat} {QQ : State → Prop} {b L : Nat} {xs : Nat → Int32} (F : Fx E G A RL cL_law 18 ret 10 398 KC KS) (S : Sc E A b L xs) (hL : L < 2000) (hE : ∀ (V : Wd) (pc : Nat) (lv : List (Nat × Value)), decode cL_law pc = .ok (.ireturn, 1) → Go E G A KC KS QQ 18 V pc lv [.int 1]) {z : Int32 × Wd} (hz : z.1 = 1) {K126 : Wd → Int32 → Option (Int32 × Wd)} (hK126 : ∀ (V1 : Wd) (a7 : Int32), K126 V1 a7 = some z → Go E G A KC KS QQ 18 V1 126 [(0, .ref b), (1, .ref (AD G 0)), (2, .ref (AD G 118)), (3, .ref (AD G 119)), (4, .ref (AD G 120)), (5, .ref (AD G 121)), (6, .ref (AD G 122)), (7, .int a7)] []) (V : Wd) (x7 : Int32) (h : f_L_law_1531 xs L K126 V x7 = some z) : Go E G A KC KS QQ 18 V 1531 [(0, .ref b), (1, .ref (AD G 0)), (2, .ref (AD G 118)), (3, .ref (AD G 119)), (4, .ref (AD G 120)), (5, .ref (AD G 121)), (6, .ref (AD G 122)), (7, .int x7)] [] := by
  unfold f_L_law_1531 at h
  refine go_iconst (pc := 1531) 1 F dL_law_1531 (by decide) ?_
  refine go_goto (pc := 1532) 1536 F dL_law_1532 (by decide) ?_
  exact go_sub [0, 1, 2, 3, 4, 5, 6, 7] rfl (lb_L_law_1536 F S hL hE hz hK126 V x7 1 h)
set_option maxRecDepth 100000 in
set_option maxHeartbeats 4000000 in
theorem lb_L_law_1535 {E : En} {G : Gm} {A : Nat → Prop} {KC KS : Nat} {QQ : State → Prop} {b L : Nat} {xs : Nat → Int32} (F : Fx E G A RL cL_law 18 ret 10 398 KC KS) (S : Sc E A b L xs) (hL : L < 2000) (hE : ∀ (V : Wd) (pc : Nat) (lv : List (Nat × Value)), decode cL_law pc = .ok (.ireturn, 1) → Go E G A KC KS QQ 18 V pc lv [.int 1]) {z : Int32 × Wd} (hz : z.1 = 1) {K126 : Wd → Int32 → Option (Int32 × Wd)} (hK126 : ∀ (V1 : Wd) (a7 : Int32), K126 V1 a7 = some z → Go E G A KC KS QQ 18 V1 126 [(0, .ref b), (1, .ref (AD G 0)), (2, .ref (AD G 118)), (3, .ref (AD G 119)), (4, .ref (AD G 120)), (5, .ref (AD G 121)), (6, .ref (AD G 122)), (7, .int a7)] []) (V : Wd) (x7 : Int32) (h : f_L_law_1535 xs L K126 V x7 = some z) : Go E G A KC KS QQ 18 V 1535 [(0, .ref b), (1, .ref (AD G 0)), (2, .ref (AD G 118)), (3, .ref (AD G 119)), (4, .ref (AD G 120)), (5, .ref (AD G 121)), (6, .ref (AD G 122)), (7, .int x7)] [] := by
  unfold f_L_law_1535 at h
  refine go_iconst (pc := 1535) 0 F dL_law_1535 (by decide) ?_
  exact go_sub [0, 1, 2, 3, 4, 5, 6, 7] rfl (lb_L_law_1536 F S hL hE hz hK126 V x7 0 h)
set_option maxRecDepth 100000 in
set_option maxHeartbeats 4000000 in
theorem lb_L_law_1489 {E : En} {G : Gm} {A : Nat → Prop} {KC KS : Nat} {QQ : State → Prop} {b L : Nat} {xs : Nat → Int32} (F : Fx E G A RL cL_law 18 ret 10 398 KC KS) (S : Sc E A b L xs) (hL : L < 2000) (hE : ∀ (V : Wd) (pc : Nat) (lv : List (Nat × Value)), decode cL_law pc = .ok (.ireturn, 1) → Go E G A KC KS QQ 18 V pc lv [.int 1]) {z : Int32 × Wd} (hz : z.1 = 1) {K126 : Wd → Int32 → Option (Int32 × Wd)} (hK126 : ∀ (V1 : Wd) (a7 : Int32), K126 V1 a7 = some z → Go E G A KC KS QQ 18 V1 126 [(0, .ref b), (1, .ref (AD G 0)), (2, .ref (AD G 118)), (3, .ref (AD G 119)), (4, .ref (AD G 120)), (5, .ref (AD G 121)), (6, .ref (AD G 122)), (7, .int a7)] []) (V : Wd) (x7 : Int32) (h : f_L_law_1489 xs L K126 V x7 = some z) : Go E G A KC KS QQ 18 V 1489 [(0, .ref b), (1, .ref (AD G 0)), (2, .ref (AD G 118)), (3, .ref (AD G 119)), (4, .ref (AD G 120)), (5, .ref (AD G 121)), (6, .ref (AD G 122)), (7, .int x7)] [] := by
  unfold f_L_law_1489 at h
  refine go_aloadn (pc := 1489) F dL_law_1489 3 rfl ?_
  obtain ⟨y103, hy103, h⟩ := ob_ h
  refine cv_L_30 (pc := 1490) F dL_law_1490 (ct_L_hoists (enL E) G V y103 hy103) (by decide) (by decide) (Nat.le_of_ble_eq_true rfl) ?_
  refine go_if_le (pc := 1493) 1535 F dL_law_1493 (by decide) h (fun c112 h => ?_) (fun c112 h => ?_)
  · exact go_sub [0, 1, 2, 3, 4, 5, 6, 7] rfl (lb_L_law_1535 F S hL hE hz hK126 V x7 h)
  · refine go_aload (pc := 1496) F dL_law_1496 6 rfl ?_
    refine go_iconst (pc := 1498) 4 F dL_law_1498 (by decide) ?_
    refine go_jald (pc := 1499) 122 7 F dL_law_1499 (by decide) (fun _ => rfl) h (fun y104 h => ?_)
    refine go_if_eq (pc := 1500) 1531 F dL_law_1500 (by decide) h (fun c111 h => ?_) (fun c111 h => ?_)
    · exact go_sub [0, 1, 2, 3, 4, 5, 6, 7] rfl (lb_L_law_1531 F S hL hE hz hK126 V x7 h)
    · refine go_aload (pc := 1503) F dL_law_1503 6 rfl ?_
      refine go_iconst (pc := 1505) 4 F dL_law_1505 (by decide) ?_
      refine go_jald (pc := 1506) 122 7 F dL_law_1506 (by decide) (fun _ => rfl) h (fun y105 h => ?_)
      refine go_iconst (pc := 1507) 1 F dL_law_1507 (by decide) ?_
      refine go_icmp_ne (pc := 1508) 1535 F dL_law_1508 (by decide) h (fun c110 h => ?_) (fun c110 h => ?_)
      · exact go_sub [0, 1, 2, 3, 4, 5, 6, 7] rfl (lb_L_law_1535 F S hL hE hz hK126 V x7 h)
      · refine go_aloadn (pc := 1511) F dL_law_1511 2 rfl ?_
        refine go_aloadn (pc := 1512) F dL_law_1512 3 rfl ?_
        refine go_aload (pc := 1513) F dL_law_1513 4 rfl ?_
        refine go_aload (pc := 1515) F dL_law_1515 6 rfl ?_
        refine go_aload (pc := 1517) F dL_law_1517 6 rfl ?_
        refine go_iconst (pc := 1519) 3 F dL_law_1519 (by decide) ?_
        refine go_jald (pc := 1520) 122 7 F dL_law_1520 (by decide) (fun _ => rfl) h (fun y106 h => ?_)
        obtain ⟨y107, hy107, h⟩ := ob_ h
        refine cv_L_34 (pc := 1521) F dL_law_1521 (ct_L_known (enL E) G V y106 y107 hy107) (by decide) (by decide) (Nat.le_of_ble_eq_true rfl) ?_
        refine go_aloadn (pc := 1524) F dL_law_1524 3 rfl ?_
        obtain ⟨y108, hy108, h⟩ := ob_ h
        refine cv_L_30 (pc := 1525) F dL_law_1525 (ct_L_hoists (enL E) G V y108 hy108) (by decide) (by decide) (Nat.le_of_ble_eq_true rfl) ?_
        refine go_icmp_ne (pc := 1528) 1535 F dL_law_1528 (by decide) h (fun c109 h => ?_) (fun c109 h => ?_)
        · exact go_sub [0, 1, 2, 3, 4, 5, 6, 7] rfl (lb_L_law_1535 F S hL hE hz hK126 V x7 h)
        · exact go_sub [0, 1, 2, 3, 4, 5, 6, 7] rfl (lb_L_law_1531 F S hL hE hz hK126 V x7 h)
set_option maxRecDepth 100000 in
set_option maxHeartbeats 4000000 in
theorem lb_L_law_1231 {E : En} {G : Gm} {A : Nat → Prop} {KC KS : Nat} {QQ : State → Prop} {b L : Nat} {xs : Nat → Int32} (F : Fx E G A RL cL_law 18 ret 10 398 KC KS) (S : Sc E A b L xs) (hL : L < 2000) (hE : ∀ (V : Wd) (pc : Nat) (lv : List (Nat × Value)), decode cL_law pc = .ok (.ireturn, 1) → Go E G A KC KS QQ 18 V pc lv [.int 1]) {z : Int32 × Wd} (hz : z.1 = 1) {K126 : Wd → Int32 → Option (Int32 × Wd)} (hK126 : ∀ (V1 : Wd) (a7 : Int32), K126 V1 a7 = some z → Go E G A KC KS QQ 18 V1 126 [(0, .ref b), (1, .ref (AD G 0)), (2, .ref (AD G 118)), (3, .ref (AD G 119)), (4, .ref (AD G 120)), (5, .ref (AD G 121)), (6, .ref (AD G 122)), (7, .int a7)] []) (V : Wd) (x7 : Int32) (x8 : Int32) (x9 : Int32) (x13 : Int32) (h : f_L_law_1231 xs L K126 V x7 x8 x9 x13 = some z) : Go E G A KC KS QQ 18 V 1231 [(0, .ref b), (1, .ref (AD G 0)), (2, .ref (AD G 118)), (3, .ref (AD G 119)), (4, .ref (AD G 120)), (5, .ref (AD G 121)), (6, .ref (AD G 122)), (7, .int x7), (8, .int x8), (9, .int x9), (13, .int x13)] [] := by
  unfold f_L_law_1231 at h
  refine go_iload (pc := 1231) F dL_law_1231 9 rfl ?_
  refine go_bipush (pc := 1233) 17 F dL_law_1233 (by decide) ?_
  refine go_icmp_ne (pc := 1235) 1278 F dL_law_1235 (by decide) h (fun c70 h => ?_) (fun c70 h => ?_)
  · refine go_iload (pc := 1278) F dL_law_1278 9 rfl ?_
    refine go_bipush (pc := 1280) 18 F dL_law_1280 (by decide) ?_
    refine go_icmp_ne (pc := 1282) 1489 F dL_law_1282 (by decide) h (fun c63 h => ?_) (fun c63 h => ?_)
    · exact go_sub [0, 1, 2, 3, 4, 5, 6, 7] rfl (lb_L_law_1489 F S hL hE hz hK126 V x7 h)
    · refine go_iload (pc := 1285) F dL_law_1285 8 rfl ?_
      refine go_bipush (pc := 1287) 8 F dL_law_1287 (by decide) ?_
      refine go_ishr (pc := 1289) F dL_law_1289 ?_
      refine go_iconst (pc := 1290) 2 F dL_law_1290 (by decide) ?_
      obtain ⟨y58, hy58, h⟩ := ob_ h
      refine cv_L_97 (pc := 1291) F dL_law_1291 (ct_L_low (enL E) G V (x8 >>> (8 &&& 31)) 2 y58 hy58) (by decide) (by decide) (Nat.le_of_ble_eq_true rfl) ?_
      refine go_if_ne (pc := 1294) 1489 F dL_law_1294 (by decide) h (fun c62 h => ?_) (fun c62 h => ?_)
      · exact go_sub [0, 1, 2, 3, 4, 5, 6, 7] rfl (lb_L_law_1489 F S hL hE hz hK126 V x7 h)
      · refine go_aload (pc := 1297) F dL_law_1297 6 rfl ?_
        refine go_iconst (pc := 1299) 4 F dL_law_1299 (by decide) ?_
        refine go_jald (pc := 1300) 122 7 F dL_law_1300 (by decide) (fun _ => rfl) h (fun y59 h => ?_)
        refine go_iconst (pc := 1301) 2 F dL_law_1301 (by decide) ?_
        refine go_icmp_ne (pc := 1302) 1312 F dL_law_1302 (by decide) h (fun c61 h => ?_) (fun c61 h => ?_)
        · refine go_iconst (pc := 1312) 0 F dL_law_1312 (by decide) ?_
          exact go_sub [0, 1, 2, 3, 4, 5, 6, 7, 10] rfl (lb_L_law_1313 F S hL hE hz hK126 V x7 x13 0 h)
        · refine go_aloadn (pc := 1305) F dL_law_1305 3 rfl ?_
          obtain ⟨y60, hy60, h⟩ := ob_ h
          refine cv_L_30 (pc := 1306) F dL_law_1306 (ct_L_hoists (enL E) G V y60 hy60) (by decide) (by decide) (Nat.le_of_ble_eq_true rfl) ?_
          refine go_goto (pc := 1309) 1313 F dL_law_1309 (by decide) ?_
          exact go_sub [0, 1, 2, 3, 4, 5, 6, 7, 10] rfl (lb_L_law_1313 F S hL hE hz hK126 V x7 x13 y60 h)
  · refine go_iload (pc := 1238) F dL_law_1238 8 rfl ?_
    refine go_bipush (pc := 1240) 8 F dL_law_1240 (by decide) ?_
    refine go_ishr (pc := 1242) F dL_law_1242 ?_
    refine go_iconst (pc := 1243) 2 F dL_law_1243 (by decide) ?_
    obtain ⟨y64, hy64, h⟩ := ob_ h
    refine cv_L_97 (pc := 1244) F dL_law_1244 (ct_L_low (enL E) G V (x8 >>> (8 &&& 31)) 2 y64 hy64) (by decide) (by decide) (Nat.le_of_ble_eq_true rfl) ?_
    refine go_istore (pc := 1247) (lv' := [(14, .int y64), (0, .ref b), (1, .ref (AD G 0)), (2, .ref (AD G 118)), (3, .ref (AD G 119)), (4, .ref (AD G 120)), (5, .ref (AD G 121)), (6, .ref (AD G 122)), (7, .int x7), (8, .int x8), (9, .int x9), (13, .int x13)]) F dL_law_1247 (by decide) rfl ?_
    refine go_aloadn (pc := 1249) F dL_law_1249 2 rfl ?_
    refine go_iload (pc := 1250) F dL_law_1250 0 rfl ?_
    obtain ⟨q65, hq65, h⟩ := ob_ h
    refine cv_L_125 (pc := 1252) F dL_law_1252 rfl (ct_X8_sail (enL E) G V y64 q65 hq65) (by decide) (by decide) (Nat.le_of_ble_eq_true rfl) ?_
    obtain ⟨q66, hq66, h⟩ := ob_ h
    refine go_gx h (fun V67 h => ?_)
    refine go_aload (pc := 1255) F dL_law_1255 7 rfl ?_
    refine go_iconst (pc := 1257) 3 F dL_law_1257 (by decide) ?_
    refine go_jald (pc := 1258) 122 7 F dL_law_1258 (by decide) (fun _ => rfl) h (fun y68 h => ?_)
    refine go_icmp_ne (pc := 1259) 1266 F dL_law_1259 (by decide) h (fun c69 h => ?_) (fun c69 h => ?_)
    · refine go_iconst (pc := 1266) 0 F dL_law_1266 (by decide) ?_
      exact go_sub [1, 2, 3, 4, 5, 6, 7, 8, 11, 0] rfl (lb_L_law_1267 F S hL hE hz hK126 V67 x7 x13 y64 0 h)
    · refine go_iconst (pc := 1262) 1 F dL_law_1262 (by decide) ?_
      refine go_goto (pc := 1263) 1267 F dL_law_1263 (by decide) ?_
      exact go_sub [1, 2, 3, 4, 5, 6, 7, 8, 11, 0] rfl (lb_L_law_1267 F S hL hE hz hK126 V67 x7 x13 y64 1 h)
set_option maxRecDepth 100000 in
set_option maxHeartbeats 4000000 in
theorem lb_L_law_126 {E : En} {G : Gm} {A : Nat → Prop} {KC KS : Nat} {QQ : State → Prop} {b L : Nat} {xs : Nat → Int32} (F : Fx E G A RL cL_law 18 ret 10 398 KC KS) (S : Sc E A b L xs) (hL : L < 2000) (hE : ∀ (V : Wd) (pc : Nat) (lv : List (Nat × Value)), decode cL_law pc = .ok (.ireturn, 1) → Go E G A KC KS QQ 18 V pc lv [.int 1]) {z : Int32 × Wd} (hz : z.1 = 1) : ∀ (n : Nat) (V : Wd) (x7 : Int32), f_L_law_126 xs L n V x7 = some z → Go E G A KC KS QQ 18 V 126 [(0, .ref b), (1, .ref (AD G 0)), (2, .ref (AD G 118)), (3, .ref (AD G 119)), (4, .ref (AD G 120)), (5, .ref (AD G 121)), (6, .ref (AD G 122)), (7, .int x7)] [] := by
  intro n
  induction n with
  | zero => intro V x7 h; cases h
  | succ n ih =>
    intro V x7 h
    rw [f_L_law_126] at h
    refine go_iload (pc := 126) F dL_law_126 7 rfl ?_
    refine go_bipush (pc := 128) 64 F dL_law_128 (by decide) ?_
    refine go_icmp_ge (pc := 130) 1665 F dL_law_130 (by decide) h (fun c57 h => ?_) (fun c57 h => ?_)
    · refine go_iconst (pc := 1665) 1 F dL_law_1665 (by decide) ?_
      exact go_lret (pc := 1666) hE hz dL_law_1666 h
    · refine go_aloadn (pc := 133) F dL_law_133 0 rfl ?_
      refine go_iload (pc := 134) F dL_law_134 7 rfl ?_
      refine go_gn h (fun hc9 h => ?_)
      refine cv_cell (pc := 136) F S hL hc9 dL_law_136 ml_L_94 (by decide) (by decide) (Nat.le_of_ble_eq_true rfl) ?_
      refine go_topi h (fun y10 h => ?_)
      refine go_istore (pc := 139) (lv' := [(8, .int y10), (0, .ref b), (1, .ref (AD G 0)), (2, .ref (AD G 118)), (3, .ref (AD G 119)), (4, .ref (AD G 120)), (5, .ref (AD G 121)), (6, .ref (AD G 122)), (7, .int x7)]) F dL_law_139 (by decide) rfl ?_
      refine go_iload (pc := 141) F dL_law_141 0 rfl ?_
      refine go_bipush (pc := 143) 22 F dL_law_143 (by decide) ?_
      obtain ⟨y11, hy11, h⟩ := ob_ h
      refine cv_L_97 (pc := 145) F dL_law_145 (ct_L_low (enL E) G V y10 22 y11 hy11) (by decide) (by decide) (Nat.le_of_ble_eq_true rfl) ?_
      refine go_istore (pc := 148) (lv' := [(9, .int y11), (8, .int y10), (0, .ref b), (1, .ref (AD G 0)), (2, .ref (AD G 118)), (3, .ref (AD G 119)), (4, .ref (AD G 120)), (5, .ref (AD G 121)), (6, .ref (AD G 122)), (7, .int x7)]) F dL_law_148 (by decide) rfl ?_
      refine go_iload (pc := 150) F dL_law_150 1 rfl ?_
      refine go_iconst (pc := 152) 5 F dL_law_152 (by decide) ?_
      refine go_ishr (pc := 153) F dL_law_153 ?_
      refine go_iconst (pc := 154) 5 F dL_law_154 (by decide) ?_
      obtain ⟨y12, hy12, h⟩ := ob_ h
      refine cv_L_97 (pc := 155) F dL_law_155 (ct_L_low (enL E) G V (y10 >>> (5 &&& 31)) 5 y12 hy12) (by decide) (by decide) (Nat.le_of_ble_eq_true rfl) ?_
      refine go_istore (pc := 158) (lv' := [(10, .int y12), (9, .int y11), (8, .int y10), (0, .ref b), (1, .ref (AD G 0)), (2, .ref (AD G 118)), (3, .ref (AD G 119)), (4, .ref (AD G 120)), (5, .ref (AD G 121)), (6, .ref (AD G 122)), (7, .int x7)]) F dL_law_158 (by decide) rfl ?_
      refine go_aloadn (pc := 160) F dL_law_160 6 rfl ?_
      refine go_iload (pc := 161) F dL_law_161 0 rfl ?_
      obtain ⟨y13, hy13, h⟩ := ob_ h
      refine cv_L_12 (pc := 163) F dL_law_163 (ct_L_many (enL E) G V y12 y13 hy13) (by decide) (by decide) (Nat.le_of_ble_eq_true rfl) ?_
      refine go_istore (pc := 166) (lv' := [(11, .int y13), (10, .int y12), (9, .int y11), (8, .int y10), (0, .ref b), (1, .ref (AD G 0)), (2, .ref (AD G 118)), (3, .ref (AD G 119)), (4, .ref (AD G 120)), (5, .ref (AD G 121)), (6, .ref (AD G 122)), (7, .int x7)]) F dL_law_166 (by decide) rfl ?_
      refine go_iconst (pc := 168) 1 F dL_law_168 (by decide) ?_
      refine go_istore (pc := 169) (lv' := [(12, .int 1), (11, .int y13), (10, .int y12), (9, .int y11), (8, .int y10), (0, .ref b), (1, .ref (AD G 0)), (2, .ref (AD G 118)), (3, .ref (AD G 119)), (4, .ref (AD G 120)), (5, .ref (AD G 121)), (6, .ref (AD G 122)), (7, .int x7)]) F dL_law_169 (by decide) rfl ?_
      refine go_iconst (pc := 171) 1 F dL_law_171 (by decide) ?_
      refine go_istore (pc := 172) (lv' := [(13, .int 1), (12, .int 1), (11, .int y13), (10, .int y12), (9, .int y11), (8, .int y10), (0, .ref b), (1, .ref (AD G 0)), (2, .ref (AD G 118)), (3, .ref (AD G 119)), (4, .ref (AD G 120)), (5, .ref (AD G 121)), (6, .ref (AD G 122)), (7, .int x7)]) F dL_law_172 (by decide) rfl ?_
      refine go_iload (pc := 174) F dL_law_174 4 rfl ?_
      refine go_iconst (pc := 176) 2 F dL_law_176 (by decide) ?_
      refine go_icmp_ge (pc := 177) 382 F dL_law_177 (by decide) h (fun c56 h => ?_) (fun c56 h => ?_)
      · refine go_iload (pc := 382) F dL_law_382 4 rfl ?_
        refine go_iconst (pc := 384) 2 F dL_law_384 (by decide) ?_
        refine go_icmp_ne (pc := 385) 497 F dL_law_385 (by decide) h (fun c52 h => ?_) (fun c52 h => ?_)
        · refine go_iload (pc := 497) F dL_law_497 4 rfl ?_
          refine go_iconst (pc := 499) 5 F dL_law_499 (by decide) ?_
          refine go_icmp_ge (pc := 500) 563 F dL_law_500 (by decide) h (fun c49 h => ?_) (fun c49 h => ?_)
          · refine go_iload (pc := 563) F dL_law_563 4 rfl ?_
            refine go_bipush (pc := 565) 10 F dL_law_565 (by decide) ?_
            refine go_icmp_ge (pc := 567) 737 F dL_law_567 (by decide) h (fun c41 h => ?_) (fun c41 h => ?_)
            · refine go_iload (pc := 737) F dL_law_737 4 rfl ?_
              refine go_bipush (pc := 739) 10 F dL_law_739 (by decide) ?_
              refine go_icmp_ne (pc := 741) 813 F dL_law_741 (by decide) h (fun c36 h => ?_) (fun c36 h => ?_)
              · refine go_iload (pc := 813) F dL_law_813 4 rfl ?_
                refine go_bipush (pc := 815) 11 F dL_law_815 (by decide) ?_
                refine go_icmp_ne (pc := 817) 902 F dL_law_817 (by decide) h (fun c34 h => ?_) (fun c34 h => ?_)
                · refine go_iload (pc := 902) F dL_law_902 4 rfl ?_
                  refine go_bipush (pc := 904) 16 F dL_law_904 (by decide) ?_
                  refine go_icmp_ge (pc := 906) 1136 F dL_law_906 (by decide) h (fun c31 h => ?_) (fun c31 h => ?_)
                  · refine go_iload (pc := 1136) F dL_law_1136 4 rfl ?_
                    refine go_bipush (pc := 1138) 16 F dL_law_1138 (by decide) ?_
                    refine go_icmp_ne (pc := 1140) 1231 F dL_law_1140 (by decide) h (fun c29 h => ?_) (fun c29 h => ?_)
                    · exact go_sub [6, 7, 8, 9, 10, 11, 12, 13, 5, 4, 0] rfl (lb_L_law_1231 F S hL hE hz (fun V1 a7 h => ih V1 a7 h) V x7 y10 y11 1 h)
                    · refine go_aload (pc := 1143) F dL_law_1143 12 rfl ?_
                      refine go_iconst (pc := 1145) 5 F dL_law_1145 (by decide) ?_
                      refine go_jald (pc := 1146) 122 7 F dL_law_1146 (by decide) (fun _ => rfl) h (fun y14 h => ?_)
                      refine go_if_le (pc := 1147) 1231 F dL_law_1147 (by decide) h (fun c28 h => ?_) (fun c28 h => ?_)
                      · exact go_sub [6, 7, 8, 9, 10, 11, 12, 13, 5, 4, 0] rfl (lb_L_law_1231 F S hL hE hz (fun V1 a7 h => ih V1 a7 h) V x7 y10 y11 1 h)
                      · refine go_iload (pc := 1150) F dL_law_1150 5 rfl ?_
                        refine go_bipush (pc := 1152) 8 F dL_law_1152 (by decide) ?_
                        refine go_ishr (pc := 1154) F dL_law_1154 ?_
                        refine go_aload (pc := 1155) F dL_law_1155 12 rfl ?_
                        refine go_iconst (pc := 1157) 5 F dL_law_1157 (by decide) ?_
                        refine go_jald (pc := 1158) 122 7 F dL_law_1158 (by decide) (fun _ => rfl) h (fun y15 h => ?_)
                        obtain ⟨y16, hy16, h⟩ := ob_ h
                        refine cv_L_97 (pc := 1159) F dL_law_1159 (ct_L_low (enL E) G V (y10 >>> (8 &&& 31)) y15 y16 hy16) (by decide) (by decide) (Nat.le_of_ble_eq_true rfl) ?_
                        refine go_istore (pc := 1162) (lv' := [(14, .int y16), (13, .int 1), (12, .int 1), (11, .int y13), (10, .int y12), (9, .int y11), (8, .int y10), (0, .ref b), (1, .ref (AD G 0)), (2, .ref (AD G 118)), (3, .ref (AD G 119)), (4, .ref (AD G 120)), (5, .ref (AD G 121)), (6, .ref (AD G 122)), (7, .int x7)]) F dL_law_1162 (by decide) rfl ?_
                        refine go_aloadn (pc := 1164) F dL_law_1164 8 rfl ?_
                        refine go_iload (pc := 1165) F dL_law_1165 0 rfl ?_
                        obtain ⟨q17, hq17, h⟩ := ob_ h
                        refine cv_L_122 (pc := 1167) F dL_law_1167 rfl (ct_X8_strike (enL E) G V y16 q17 hq17) (by decide) (by decide) (Nat.le_of_ble_eq_true rfl) ?_
                        obtain ⟨q18, hq18, h⟩ := ob_ h
                        refine go_gx h (fun V19 h => ?_)
                        refine go_aload (pc := 1170) F dL_law_1170 11 rfl ?_
                        refine go_iconst (pc := 1172) 2 F dL_law_1172 (by decide) ?_
                        refine go_iload (pc := 1173) F dL_law_1173 0 rfl ?_
                        refine go_imul (pc := 1175) F dL_law_1175 ?_
                        refine go_iconst (pc := 1176) 1 F dL_law_1176 (by decide) ?_
                        refine go_iadd (pc := 1177) F dL_law_1177 ?_
                        refine go_jald (pc := 1178) 120 24 F dL_law_1178 (by decide) (fun _ => rfl) h (fun y20 h => ?_)
                        refine go_icmp_ne (pc := 1179) 1186 F dL_law_1179 (by decide) h (fun c27 h => ?_) (fun c27 h => ?_)
                        · refine go_iconst (pc := 1186) 0 F dL_law_1186 (by decide) ?_
                          refine go_istore (pc := 1187) (lv' := [(12, .int 0), (14, .int y16), (13, .int 1), (11, .int y13), (10, .int y12), (9, .int y11), (8, .int y10), (0, .ref b), (1, .ref (AD G 0)), (2, .ref (AD G 118)), (3, .ref (AD G 119)), (4, .ref (AD G 120)), (5, .ref (AD G 121)), (6, .ref (AD G 122)), (7, .int x7)]) F dL_law_1187 (by decide) rfl ?_
                          refine go_aload (pc := 1189) F dL_law_1189 13 rfl ?_
                          refine go_iconst (pc := 1191) 5 F dL_law_1191 (by decide) ?_
                          refine go_dup2 (pc := 1192) F dL_law_1192 rfl rfl ?_
                          refine go_jald (pc := 1193) 122 7 F dL_law_1193 (by decide) (fun _ => rfl) h (fun y21 h => ?_)
                          refine go_iconst (pc := 1194) 1 F dL_law_1194 (by decide) ?_
                          refine go_isub (pc := 1195) F dL_law_1195 ?_
                          refine go_jast (pc := 1196) 122 7 F dL_law_1196 (by decide) (fun _ => rfl) h (fun V22 h => ?_)
                          refine go_iconst (pc := 1197) 2 F dL_law_1197 (by decide) ?_
                          refine go_iload (pc := 1198) F dL_law_1198 1 rfl ?_
                          refine go_imul (pc := 1200) F dL_law_1200 ?_
                          refine go_topi h (fun y23 h => ?_)
                          refine go_istore (pc := 1201) (lv' := [(15, .int y23), (12, .int 0), (14, .int y16), (13, .int 1), (11, .int y13), (10, .int y12), (9, .int y11), (8, .int y10), (0, .ref b), (1, .ref (AD G 0)), (2, .ref (AD G 118)), (3, .ref (AD G 119)), (4, .ref (AD G 120)), (5, .ref (AD G 121)), (6, .ref (AD G 122)), (7, .int x7)]) F dL_law_1201 (by decide) rfl ?_
                          exact go_sub [8, 9, 10, 11, 12, 13, 14, 15, 1, 3, 0] rfl (lb_L_law_1203 F S hL hE hz (fun V1 a7 h => ih V1 a7 h) FU_ V22 x7 0 1 y23 h)
                        · refine go_iconst (pc := 1182) 1 F dL_law_1182 (by decide) ?_
                          refine go_goto (pc := 1183) 1187 F dL_law_1183 (by decide) ?_
                          refine go_istore (pc := 1187) (lv' := [(12, .int 1), (14, .int y16), (13, .int 1), (11, .int y13), (10, .int y12), (9, .int y11), (8, .int y10), (0, .ref b), (1, .ref (AD G 0)), (2, .ref (AD G 118)), (3, .ref (AD G 119)), (4, .ref (AD G 120)), (5, .ref (AD G 121)), (6, .ref (AD G 122)), (7, .int x7)]) F dL_law_1187 (by decide) rfl ?_
                          refine go_aload (pc := 1189) F dL_law_1189 13 rfl ?_
                          refine go_iconst (pc := 1191) 5 F dL_law_1191 (by decide) ?_
                          refine go_dup2 (pc := 1192) F dL_law_1192 rfl rfl ?_
                          refine go_jald (pc := 1193) 122 7 F dL_law_1193 (by decide) (fun _ => rfl) h (fun y24 h => ?_)
                          refine go_iconst (pc := 1194) 1 F dL_law_1194 (by decide) ?_
                          refine go_isub (pc := 1195) F dL_law_1195 ?_
                          refine go_jast (pc := 1196) 122 7 F dL_law_1196 (by decide) (fun _ => rfl) h (fun V25 h => ?_)
                          refine go_iconst (pc := 1197) 2 F dL_law_1197 (by decide) ?_
                          refine go_iload (pc := 1198) F dL_law_1198 1 rfl ?_
                          refine go_imul (pc := 1200) F dL_law_1200 ?_
                          refine go_topi h (fun y26 h => ?_)
                          refine go_istore (pc := 1201) (lv' := [(15, .int y26), (12, .int 1), (14, .int y16), (13, .int 1), (11, .int y13), (10, .int y12), (9, .int y11), (8, .int y10), (0, .ref b), (1, .ref (AD G 0)), (2, .ref (AD G 118)), (3, .ref (AD G 119)), (4, .ref (AD G 120)), (5, .ref (AD G 121)), (6, .ref (AD G 122)), (7, .int x7)]) F dL_law_1201 (by decide) rfl ?_
                          exact go_sub [8, 9, 10, 11, 12, 13, 14, 15, 1, 3, 0] rfl (lb_L_law_1203 F S hL hE hz (fun V1 a7 h => ih V1 a7 h) FU_ V25 x7 1 1 y26 h)
                  · refine go_iconst (pc := 909) 1 F dL_law_909 (by decide) ?_
                    refine go_istore (pc := 910) (lv' := [(14, .int 1), (13, .int 1), (12, .int 1), (11, .int y13), (10, .int y12), (9, .int y11), (8, .int y10), (0, .ref b), (1, .ref (AD G 0)), (2, .ref (AD G 118)), (3, .ref (AD G 119)), (4, .ref (AD G 120)), (5, .ref (AD G 121)), (6, .ref (AD G 122)), (7, .int x7)]) F dL_law_910 (by decide) rfl ?_
                    refine go_iload (pc := 912) F dL_law_912 6 rfl ?_
                    refine go_bipush (pc := 914) 8 F dL_law_914 (by decide) ?_
                    refine go_ishr (pc := 916) F dL_law_916 ?_
                    refine go_iconst (pc := 917) 2 F dL_law_917 (by decide) ?_
                    obtain ⟨y30, hy30, h⟩ := ob_ h
                    refine cv_L_97 (pc := 918) F dL_law_918 (ct_L_low (enL E) G V (y10 >>> (8 &&& 31)) 2 y30 hy30) (by decide) (by decide) (Nat.le_of_ble_eq_true rfl) ?_
                    refine go_istore (pc := 921) (lv' := [(15, .int y30), (14, .int 1), (13, .int 1), (12, .int 1), (11, .int y13), (10, .int y12), (9, .int y11), (8, .int y10), (0, .ref b), (1, .ref (AD G 0)), (2, .ref (AD G 118)), (3, .ref (AD G 119)), (4, .ref (AD G 120)), (5, .ref (AD G 121)), (6, .ref (AD G 122)), (7, .int x7)]) F dL_law_921 (by decide) rfl ?_
                    refine go_iconst (pc := 923) 0 F dL_law_923 (by decide) ?_
                    refine go_istore (pc := 924) (lv' := [(16, .int 0), (15, .int y30), (14, .int 1), (13, .int 1), (12, .int 1), (11, .int y13), (10, .int y12), (9, .int y11), (8, .int y10), (0, .ref b), (1, .ref (AD G 0)), (2, .ref (AD G 118)), (3, .ref (AD G 119)), (4, .ref (AD G 120)), (5, .ref (AD G 121)), (6, .ref (AD G 122)), (7, .int x7)]) F dL_law_924 (by decide) rfl ?_
                    exact go_sub [9, 10, 11, 12, 13, 14, 15, 16, 8, 6, 5, 2, 1, 0] rfl (lb_L_law_926 F S hL hE hz (fun V1 a7 h => ih V1 a7 h) FU_ V x7 y10 y12 y13 1 y30 0 h)
                · refine go_iload (pc := 820) F dL_law_820 5 rfl ?_
                  refine go_bipush (pc := 822) 8 F dL_law_822 (by decide) ?_
                  refine go_ishr (pc := 824) F dL_law_824 ?_
                  refine go_iconst (pc := 825) 5 F dL_law_825 (by decide) ?_
                  obtain ⟨y32, hy32, h⟩ := ob_ h
                  refine cv_L_97 (pc := 826) F dL_law_826 (ct_L_low (enL E) G V (y10 >>> (8 &&& 31)) 5 y32 hy32) (by decide) (by decide) (Nat.le_of_ble_eq_true rfl) ?_
                  refine go_istore (pc := 829) (lv' := [(14, .int y32), (13, .int 1), (12, .int 1), (11, .int y13), (10, .int y12), (9, .int y11), (8, .int y10), (0, .ref b), (1, .ref (AD G 0)), (2, .ref (AD G 118)), (3, .ref (AD G 119)), (4, .ref (AD G 120)), (5, .ref (AD G 121)), (6, .ref (AD G 122)), (7, .int x7)]) F dL_law_829 (by decide) rfl ?_
                  refine go_iload (pc := 831) F dL_law_831 0 rfl ?_
                  refine go_iload (pc := 833) F dL_law_833 4 rfl ?_
                  refine go_icmp_eq (pc := 835) 842 F dL_law_835 (by decide) h (fun c33 h => ?_) (fun c33 h => ?_)
                  · refine go_iconst (pc := 842) 0 F dL_law_842 (by decide) ?_
                    exact go_sub [7, 8, 9, 10, 11, 12, 13, 14, 4, 3, 0] rfl (lb_L_law_843 F S hL hE hz (fun V1 a7 h => ih V1 a7 h) V x7 y12 y13 y32 0 h)
                  · refine go_iconst (pc := 838) 1 F dL_law_838 (by decide) ?_
                    refine go_goto (pc := 839) 843 F dL_law_839 (by decide) ?_
                    exact go_sub [7, 8, 9, 10, 11, 12, 13, 14, 4, 3, 0] rfl (lb_L_law_843 F S hL hE hz (fun V1 a7 h => ih V1 a7 h) V x7 y12 y13 y32 1 h)
              · refine go_iload (pc := 744) F dL_law_744 2 rfl ?_
                refine go_if_le (pc := 746) 753 F dL_law_746 (by decide) h (fun c35 h => ?_) (fun c35 h => ?_)
                · refine go_iconst (pc := 753) 0 F dL_law_753 (by decide) ?_
                  exact go_sub [6, 7, 8, 9, 10, 11, 12, 13, 3, 2] rfl (lb_L_law_754 F S hL hE hz (fun V1 a7 h => ih V1 a7 h) V x7 y12 y13 0 h)
                · refine go_iconst (pc := 749) 1 F dL_law_749 (by decide) ?_
                  refine go_goto (pc := 750) 754 F dL_law_750 (by decide) ?_
                  exact go_sub [6, 7, 8, 9, 10, 11, 12, 13, 3, 2] rfl (lb_L_law_754 F S hL hE hz (fun V1 a7 h => ih V1 a7 h) V x7 y12 y13 1 h)
            · refine go_iload (pc := 570) F dL_law_570 5 rfl ?_
              refine go_bipush (pc := 572) 8 F dL_law_572 (by decide) ?_
              refine go_ishr (pc := 574) F dL_law_574 ?_
              refine go_iconst (pc := 575) 4 F dL_law_575 (by decide) ?_
              obtain ⟨y37, hy37, h⟩ := ob_ h
              refine cv_L_97 (pc := 576) F dL_law_576 (ct_L_low (enL E) G V (y10 >>> (8 &&& 31)) 4 y37 hy37) (by decide) (by decide) (Nat.le_of_ble_eq_true rfl) ?_
              refine go_if_ne (pc := 579) 597 F dL_law_579 (by decide) h (fun c40 h => ?_) (fun c40 h => ?_)
              · refine go_iload (pc := 597) F dL_law_597 5 rfl ?_
                refine go_bipush (pc := 599) 12 F dL_law_599 (by decide) ?_
                refine go_ishr (pc := 601) F dL_law_601 ?_
                refine go_bipush (pc := 602) 10 F dL_law_602 (by decide) ?_
                obtain ⟨y38, hy38, h⟩ := ob_ h
                refine cv_L_97 (pc := 604) F dL_law_604 (ct_L_low (enL E) G V (y10 >>> (12 &&& 31)) 10 y38 hy38) (by decide) (by decide) (Nat.le_of_ble_eq_true rfl) ?_
                exact go_sub [6, 7, 8, 9, 10, 11, 12, 13, 3, 2] rfl (lb_L_law_607 F S hL hE hz (fun V1 a7 h => ih V1 a7 h) V x7 y12 y13 y38 h)
              · refine go_bipush (pc := 582) 11 F dL_law_582 (by decide) ?_
                refine go_iload (pc := 584) F dL_law_584 5 rfl ?_
                refine go_bipush (pc := 586) 10 F dL_law_586 (by decide) ?_
                refine go_ishr (pc := 588) F dL_law_588 ?_
                refine go_iconst (pc := 589) 3 F dL_law_589 (by decide) ?_
                obtain ⟨y39, hy39, h⟩ := ob_ h
                refine cv_L_97 (pc := 590) F dL_law_590 (ct_L_low (enL E) G V (y10 >>> (10 &&& 31)) 3 y39 hy39) (by decide) (by decide) (Nat.le_of_ble_eq_true rfl) ?_
                refine go_iadd (pc := 593) F dL_law_593 ?_
                refine go_goto (pc := 594) 607 F dL_law_594 (by decide) ?_
                exact go_sub [6, 7, 8, 9, 10, 11, 12, 13, 3, 2] rfl (lb_L_law_607 F S hL hE hz (fun V1 a7 h => ih V1 a7 h) V x7 y12 y13 (11 + y39) h)
          · refine go_iload (pc := 503) F dL_law_503 5 rfl ?_
            refine go_bipush (pc := 505) 8 F dL_law_505 (by decide) ?_
            refine go_ishr (pc := 507) F dL_law_507 ?_
            refine go_bipush (pc := 508) 10 F dL_law_508 (by decide) ?_
            obtain ⟨y42, hy42, h⟩ := ob_ h
            refine cv_L_97 (pc := 510) F dL_law_510 (ct_L_low (enL E) G V (y10 >>> (8 &&& 31)) 10 y42 hy42) (by decide) (by decide) (Nat.le_of_ble_eq_true rfl) ?_
            refine go_istore (pc := 513) (lv' := [(14, .int y42), (13, .int 1), (12, .int 1), (11, .int y13), (10, .int y12), (9, .int y11), (8, .int y10), (0, .ref b), (1, .ref (AD G 0)), (2, .ref (AD G 118)), (3, .ref (AD G 119)), (4, .ref (AD G 120)), (5, .ref (AD G 121)), (6, .ref (AD G 122)), (7, .int x7)]) F dL_law_513 (by decide) rfl ?_
            refine go_iload (pc := 515) F dL_law_515 6 rfl ?_
            refine go_bipush (pc := 517) 12 F dL_law_517 (by decide) ?_
            refine go_ishr (pc := 519) F dL_law_519 ?_
            refine go_iconst (pc := 520) 2 F dL_law_520 (by decide) ?_
            obtain ⟨y43, hy43, h⟩ := ob_ h
            refine cv_L_97 (pc := 521) F dL_law_521 (ct_L_low (enL E) G V (y10 >>> (12 &&& 31)) 2 y43 hy43) (by decide) (by decide) (Nat.le_of_ble_eq_true rfl) ?_
            refine go_istore (pc := 524) (lv' := [(15, .int y43), (14, .int y42), (13, .int 1), (12, .int 1), (11, .int y13), (10, .int y12), (9, .int y11), (8, .int y10), (0, .ref b), (1, .ref (AD G 0)), (2, .ref (AD G 118)), (3, .ref (AD G 119)), (4, .ref (AD G 120)), (5, .ref (AD G 121)), (6, .ref (AD G 122)), (7, .int x7)]) F dL_law_524 (by decide) rfl ?_
            refine go_aloadn (pc := 526) F dL_law_526 9 rfl ?_
            refine go_iload (pc := 527) F dL_law_527 1 rfl ?_
            refine go_iload (pc := 529) F dL_law_529 0 rfl ?_
            obtain ⟨q44, hq44, h⟩ := ob_ h
            refine cv_L_107 (pc := 531) F dL_law_531 rfl (ct_X8_setWind (enL E) G V y42 y43 q44 hq44) (by decide) (by decide) (Nat.le_of_ble_eq_true rfl) ?_
            obtain ⟨q45, hq45, h⟩ := ob_ h
            refine go_gx h (fun V46 h => ?_)
            refine go_aload (pc := 534) F dL_law_534 14 rfl ?_
            refine go_iconst (pc := 536) 1 F dL_law_536 (by decide) ?_
            refine go_jald (pc := 537) 122 7 F dL_law_537 (by decide) (fun _ => rfl) h (fun y47 h => ?_)
            refine go_icmp_ne (pc := 538) 545 F dL_law_538 (by decide) h (fun c48 h => ?_) (fun c48 h => ?_)
            · refine go_iconst (pc := 545) 0 F dL_law_545 (by decide) ?_
              exact go_sub [8, 9, 10, 11, 12, 13, 14, 15, 2, 1, 0] rfl (lb_L_law_546 F S hL hE hz (fun V1 a7 h => ih V1 a7 h) V46 x7 1 y42 y43 0 h)
            · refine go_iconst (pc := 541) 1 F dL_law_541 (by decide) ?_
              refine go_goto (pc := 542) 546 F dL_law_542 (by decide) ?_
              exact go_sub [8, 9, 10, 11, 12, 13, 14, 15, 2, 1, 0] rfl (lb_L_law_546 F S hL hE hz (fun V1 a7 h => ih V1 a7 h) V46 x7 1 y42 y43 1 h)
        · refine go_iconst (pc := 388) 1 F dL_law_388 (by decide) ?_
          refine go_iload (pc := 389) F dL_law_389 5 rfl ?_
          refine go_bipush (pc := 391) 8 F dL_law_391 (by decide) ?_
          refine go_ishr (pc := 393) F dL_law_393 ?_
          refine go_iconst (pc := 394) 3 F dL_law_394 (by decide) ?_
          obtain ⟨y50, hy50, h⟩ := ob_ h
          refine cv_L_97 (pc := 395) F dL_law_395 (ct_L_low (enL E) G V (y10 >>> (8 &&& 31)) 3 y50 hy50) (by decide) (by decide) (Nat.le_of_ble_eq_true rfl) ?_
          refine go_iadd (pc := 398) F dL_law_398 ?_
          refine go_topi h (fun y51 h => ?_)
          refine go_istore (pc := 399) (lv' := [(14, .int y51), (13, .int 1), (12, .int 1), (11, .int y13), (10, .int y12), (9, .int y11), (8, .int y10), (0, .ref b), (1, .ref (AD G 0)), (2, .ref (AD G 118)), (3, .ref (AD G 119)), (4, .ref (AD G 120)), (5, .ref (AD G 121)), (6, .ref (AD G 122)), (7, .int x7)]) F dL_law_399 (by decide) rfl ?_
          refine go_iconst (pc := 401) 1 F dL_law_401 (by decide) ?_
          refine go_istore (pc := 402) (lv' := [(15, .int 1), (14, .int y51), (13, .int 1), (12, .int 1), (11, .int y13), (10, .int y12), (9, .int y11), (8, .int y10), (0, .ref b), (1, .ref (AD G 0)), (2, .ref (AD G 118)), (3, .ref (AD G 119)), (4, .ref (AD G 120)), (5, .ref (AD G 121)), (6, .ref (AD G 122)), (7, .int x7)]) F dL_law_402 (by decide) rfl ?_
          refine go_iconst (pc := 404) 0 F dL_law_404 (by decide) ?_
          refine go_istore (pc := 405) (lv' := [(16, .int 0), (15, .int 1), (14, .int y51), (13, .int 1), (12, .int 1), (11, .int y13), (10, .int y12), (9, .int y11), (8, .int y10), (0, .ref b), (1, .ref (AD G 0)), (2, .ref (AD G 118)), (3, .ref (AD G 119)), (4, .ref (AD G 120)), (5, .ref (AD G 121)), (6, .ref (AD G 122)), (7, .int x7)]) F dL_law_405 (by decide) rfl ?_
          exact go_sub [9, 10, 11, 12, 13, 14, 15, 16, 2, 1, 0] rfl (lb_L_law_407 F S hL hE hz (fun V1 a7 h => ih V1 a7 h) FU_ V x7 y51 1 0 h)
      · refine go_iload (pc := 180) F dL_law_180 5 rfl ?_
        refine go_bipush (pc := 182) 8 F dL_law_182 (by decide) ?_
        refine go_ishr (pc := 184) F dL_law_184 ?_
        refine go_bipush (pc := 185) 10 F dL_law_185 (by decide) ?_
        obtain ⟨y53, hy53, h⟩ := ob_ h
        refine cv_L_97 (pc := 187) F dL_law_187 (ct_L_low (enL E) G V (y10 >>> (8 &&& 31)) 10 y53 hy53) (by decide) (by decide) (Nat.le_of_ble_eq_true rfl) ?_
        refine go_istore (pc := 190) (lv' := [(14, .int y53), (13, .int 1), (12, .int 1), (11, .int y13), (10, .int y12), (9, .int y11), (8, .int y10), (0, .ref b), (1, .ref (AD G 0)), (2, .ref (AD G 118)), (3, .ref (AD G 119)), (4, .ref (AD G 120)), (5, .ref (AD G 121)), (6, .ref (AD G 122)), (7, .int x7)]) F dL_law_190 (by decide) rfl ?_
        refine go_aloadn (pc := 192) F dL_law_192 9 rfl ?_
        refine go_iconst (pc := 193) 3 F dL_law_193 (by decide) ?_
        refine go_iload (pc := 194) F dL_law_194 0 rfl ?_
        refine go_imul (pc := 196) F dL_law_196 ?_
        refine go_iload (pc := 197) F dL_law_197 6 rfl ?_
        refine go_bipush (pc := 199) 12 F dL_law_199 (by decide) ?_
        refine go_ishr (pc := 201) F dL_law_201 ?_
        refine go_iload (pc := 202) F dL_law_202 6 rfl ?_
        refine go_bipush (pc := 204) 25 F dL_law_204 (by decide) ?_
        refine go_ishr (pc := 206) F dL_law_206 ?_
        refine go_iconst (pc := 207) 2 F dL_law_207 (by decide) ?_
        obtain ⟨y54, hy54, h⟩ := ob_ h
        refine cv_L_97 (pc := 208) F dL_law_208 (ct_L_low (enL E) G V (y10 >>> (25 &&& 31)) 2 y54 hy54) (by decide) (by decide) (Nat.le_of_ble_eq_true rfl) ?_
        refine go_if_ne (pc := 211) 219 F dL_law_211 (by decide) h (fun c55 h => ?_) (fun c55 h => ?_)
        · refine go_iconst (pc := 219) 2 F dL_law_219 (by decide) ?_
          exact go_sub [7, 8, 9, 10, 11, 12, 13, 14, 6, 1, 0] rfl (lb_L_law_220 F S hL hE hz (fun V1 a7 h => ih V1 a7 h) V x7 y10 1 y53 2 (y10 >>> (12 &&& 31)) (3 * y53) h)
        · refine go_bipush (pc := 214) 8 F dL_law_214 (by decide) ?_
          refine go_goto (pc := 216) 220 F dL_law_216 (by decide) ?_
          exact go_sub [7, 8, 9, 10, 11, 12, 13, 14, 6, 1, 0] rfl (lb_L_law_220 F S hL hE hz (fun V1 a7 h => ih V1 a7 h) V x7 y10 1 y53 8 (y10 >>> (12 &&& 31)) (3 * y53) h)
set_option maxRecDepth 100000 in
set_option maxHeartbeats 4000000 in
theorem lb_L_law_105 {E : En} {G : Gm} {A : Nat → Prop} {KC KS : Nat} {QQ : State → Prop} {b L : Nat} {xs : Nat → Int32} (F : Fx E G A RL cL_law 18 ret 10 398 KC KS) (S : Sc E A b L xs) (hL : L < 2000) (hE : ∀ (V : Wd) (pc : Nat) (lv : List (Nat × Value)), decode cL_law pc = .ok (.ireturn, 1) → Go E G A KC KS QQ 18 V pc lv [.int 1]) {z : Int32 × Wd} (hz : z.1 = 1) : ∀ (n : Nat) (V : Wd) (x7 : Int32), f_L_law_105 xs L n V x7 = some z → Go E G A KC KS QQ 18 V 105 [(0, .ref b), (1, .ref (AD G 0)), (2, .ref (AD G 118)), (3, .ref (AD G 119)), (4, .ref (AD G 120)), (5, .ref (AD G 121)), (6, .ref (AD G 122)), (7, .int x7)] [] := by
  intro n
  induction n with
  | zero => intro V x7 h; cases h
  | succ n ih =>
    intro V x7 h
    rw [f_L_law_105] at h
    refine go_iload (pc := 105) F dL_law_105 7 rfl ?_
    refine go_bipush (pc := 107) 20 F dL_law_107 (by decide) ?_
    refine go_icmp_ge (pc := 109) 123 F dL_law_109 (by decide) h (fun c8 h => ?_) (fun c8 h => ?_)
    · refine go_iconst (pc := 123) 0 F dL_law_123 (by decide) ?_
      refine go_istore (pc := 124) (lv' := [(7, .int 0), (0, .ref b), (1, .ref (AD G 0)), (2, .ref (AD G 118)), (3, .ref (AD G 119)), (4, .ref (AD G 120)), (5, .ref (AD G 121)), (6, .ref (AD G 122))]) F dL_law_124 (by decide) rfl ?_
      exact go_sub [1, 2, 3, 4, 5, 6, 7, 0] rfl (lb_L_law_126 F S hL hE hz FU_ V 0 h)
    · refine go_aloadn (pc := 112) F dL_law_112 3 rfl ?_
      refine go_iload (pc := 113) F dL_law_113 7 rfl ?_
      refine go_iconst (pc := 115) (-1) F dL_law_115 (by decide) ?_
      refine go_jast (pc := 116) 119 20 F dL_law_116 (by decide) (fun _ => rfl) h (fun V7 h => ?_)
      refine go_iinc (pc := 117) (x7 + 1) (lv' := [(7, .int (x7 + 1)), (0, .ref b), (1, .ref (AD G 0)), (2, .ref (AD G 118)), (3, .ref (AD G 119)), (4, .ref (AD G 120)), (5, .ref (AD G 121)), (6, .ref (AD G 122))]) F dL_law_117 (k := 7) rfl rfl (by decide) rfl ?_
      refine go_goto (pc := 120) 105 F dL_law_120 (by decide) ?_
      exact go_sub [1, 2, 3, 4, 5, 6, 7, 0] rfl (ih V7 (x7 + 1) h)
set_option maxRecDepth 100000 in
set_option maxHeartbeats 4000000 in
theorem lb_L_law_49 {E : En} {G : Gm} {A : Nat → Prop} {KC KS : Nat} {QQ : State → Prop} {b L : Nat} {xs : Nat → Int32} (F : Fx E G A RL cL_law 18 ret 10 398 KC KS) (S : Sc E A b L xs) (hL : L < 2000) (hE : ∀ (V : Wd) (pc : Nat) (lv : List (Nat × Value)), decode cL_law pc = .ok (.ireturn, 1) → Go E G A KC KS QQ 18 V pc lv [.int 1]) {z : Int32 × Wd} (hz : z.1 = 1) : ∀ (n : Nat) (V : Wd) (x7 : Int32), f_L_law_49 xs L n V x7 = some z → Go E G A KC KS QQ 18 V 49 [(0, .ref b), (1, .ref (AD G 0)), (2, .ref (AD G 118)), (3, .ref (AD G 119)), (4, .ref (AD G 120)), (5, .ref (AD G 121)), (6, .ref (AD G 122)), (7, .int x7)] [] := by
  intro n
  induction n with
  | zero => intro V x7 h; cases h
  | succ n ih =>
    intro V x7 h
    rw [f_L_law_49] at h
    refine go_iload (pc := 49) F dL_law_49 7 rfl ?_
    refine go_bipush (pc := 51) 10 F dL_law_51 (by decide) ?_
    refine go_icmp_ge (pc := 53) 102 F dL_law_53 (by decide) h (fun c6 h => ?_) (fun c6 h => ?_)
    · refine go_iconst (pc := 102) 0 F dL_law_102 (by decide) ?_
      refine go_istore (pc := 103) (lv' := [(7, .int 0), (0, .ref b), (1, .ref (AD G 0)), (2, .ref (AD G 118)), (3, .ref (AD G 119)), (4, .ref (AD G 120)), (5, .ref (AD G 121)), (6, .ref (AD G 122))]) F dL_law_103 (by decide) rfl ?_
      exact go_sub [1, 2, 3, 4, 5, 6, 7, 0] rfl (lb_L_law_105 F S hL hE hz FU_ V 0 h)
    · refine go_aloadn (pc := 56) F dL_law_56 2 rfl ?_
      refine go_iconst (pc := 57) 3 F dL_law_57 (by decide) ?_
      refine go_iload (pc := 58) F dL_law_58 7 rfl ?_
      refine go_imul (pc := 60) F dL_law_60 ?_
      refine go_iload (pc := 61) F dL_law_61 7 rfl ?_
      refine go_bipush (pc := 63) 8 F dL_law_63 (by decide) ?_
      refine go_irem (pc := 65) F dL_law_65 (by decide) ?_
      refine go_jast (pc := 66) 118 30 F dL_law_66 (by decide) (fun _ => rfl) h (fun V3 h => ?_)
      refine go_aloadn (pc := 67) F dL_law_67 2 rfl ?_
      refine go_iconst (pc := 68) 3 F dL_law_68 (by decide) ?_
      refine go_iload (pc := 69) F dL_law_69 7 rfl ?_
      refine go_imul (pc := 71) F dL_law_71 ?_
      refine go_iconst (pc := 72) 1 F dL_law_72 (by decide) ?_
      refine go_iadd (pc := 73) F dL_law_73 ?_
      refine go_iconst (pc := 74) 3 F dL_law_74 (by decide) ?_
      refine go_iload (pc := 75) F dL_law_75 7 rfl ?_
      refine go_imul (pc := 77) F dL_law_77 ?_
      refine go_iconst (pc := 78) 1 F dL_law_78 (by decide) ?_
      refine go_iadd (pc := 79) F dL_law_79 ?_
      refine go_bipush (pc := 80) 8 F dL_law_80 (by decide) ?_
      refine go_irem (pc := 82) F dL_law_82 (by decide) ?_
      refine go_jast (pc := 83) 118 30 F dL_law_83 (by decide) (fun _ => rfl) h (fun V4 h => ?_)
      refine go_aloadn (pc := 84) F dL_law_84 2 rfl ?_
      refine go_iconst (pc := 85) 3 F dL_law_85 (by decide) ?_
      refine go_iload (pc := 86) F dL_law_86 7 rfl ?_
      refine go_imul (pc := 88) F dL_law_88 ?_
      refine go_iconst (pc := 89) 2 F dL_law_89 (by decide) ?_
      refine go_iadd (pc := 90) F dL_law_90 ?_
      refine go_iload (pc := 91) F dL_law_91 7 rfl ?_
      refine go_iconst (pc := 93) 2 F dL_law_93 (by decide) ?_
      refine go_idiv (pc := 94) F dL_law_94 (by decide) ?_
      refine go_jast (pc := 95) 118 30 F dL_law_95 (by decide) (fun _ => rfl) h (fun V5 h => ?_)
      refine go_iinc (pc := 96) (x7 + 1) (lv' := [(7, .int (x7 + 1)), (0, .ref b), (1, .ref (AD G 0)), (2, .ref (AD G 118)), (3, .ref (AD G 119)), (4, .ref (AD G 120)), (5, .ref (AD G 121)), (6, .ref (AD G 122))]) F dL_law_96 (k := 7) rfl rfl (by decide) rfl ?_
      refine go_goto (pc := 99) 49 F dL_law_99 (by decide) ?_
      exact go_sub [1, 2, 3, 4, 5, 6, 7, 0] rfl (ih V5 (x7 + 1) h)
set_option maxRecDepth 100000 in
set_option maxHeartbeats 8000000 in
theorem law_go {E : En} {G : Gm} {A : Nat → Prop} {KC KS : Nat} {QQ : State → Prop} {b L : Nat} {xs : Nat → Int32} (F : Fx E G A RL cL_law 18 ret 10 398 KC KS) (S : Sc E A b L xs) (hL : L < 2000) (hE : ∀ (V : Wd) (pc : Nat) (lv : List (Nat × Value)), decode cL_law pc = .ok (.ireturn, 1) → Go E G A KC KS QQ 18 V pc lv [.int 1]) (V : Wd) {z : Int32 × Wd} (hz : z.1 = 1) (h : f_L_law xs L V = some z) : Go E G A KC KS QQ 18 V 36 [(0, .ref b), (1, .ref (AD G 0)), (2, .ref (AD G 118)), (3, .ref (AD G 119)), (4, .ref (AD G 120)), (5, .ref (AD G 121)), (6, .ref (AD G 122))] [] := by
  unfold f_L_law at h
  refine go_aload (pc := 36) F dL_law_36 6 rfl ?_
  refine go_iconst (pc := 38) 0 F dL_law_38 (by decide) ?_
  refine go_iconst (pc := 39) 1 F dL_law_39 (by decide) ?_
  refine go_jast (pc := 40) 122 7 F dL_law_40 (by decide) (fun _ => rfl) h (fun V1 h => ?_)
  refine go_aload (pc := 41) F dL_law_41 6 rfl ?_
  refine go_iconst (pc := 43) 1 F dL_law_43 (by decide) ?_
  refine go_iconst (pc := 44) 5 F dL_law_44 (by decide) ?_
  refine go_jast (pc := 45) 122 7 F dL_law_45 (by decide) (fun _ => rfl) h (fun V2 h => ?_)
  refine go_iconst (pc := 46) 0 F dL_law_46 (by decide) ?_
  refine go_istore (pc := 47) (lv' := [(7, .int 0), (0, .ref b), (1, .ref (AD G 0)), (2, .ref (AD G 118)), (3, .ref (AD G 119)), (4, .ref (AD G 120)), (5, .ref (AD G 121)), (6, .ref (AD G 122))]) F dL_law_47 (by decide) rfl ?_
  exact go_sub [1, 2, 3, 4, 5, 6, 7, 0] rfl (lb_L_law_49 F S hL hE hz FU_ V2 0 h)

/-! THE CLAIM OUT OF ONE WALK OF THE LAW'S BODY. Your part is whole_start (and what it stands on); all else here is the same for every law, but numbers. -/
def R_law : String := "MastFlagsLaw"
def lw_P (b : Addr) (xs : List Int32) (args : Array Value) (s : State) : Prop := args = #[.ref b] ∧ s.IntsAt b xs ∧ xs.length ≤ 2560 ∧ (Jvm.Cond.and given_1 narrow_1).before args s = true
def lw_Q (_ : Array Value) (s : State) (o : Outcome) (t : State) : Prop := o = .returned (some (.int 1)) ∧ Framed s o t [] 600000 7302250
def lw_Z (below : List Frame) (a : Array Value) (s : State) : State → Prop := fun t => ∃ o, t.status = .running ∧ Ended t below o ∧ lw_Q a s o t
/-- the law's own end, with 1 on the stack, nothing written that was there before, its room as the claim has it -/
theorem lw_ret {p : Program} {l : Launch} {e : Env} {s : State} {m : MethodId} {below : List Frame} {meth : Method} {c : Code} {b : Nat} (hx : p.tables.exec = Jvm.exec) (hb : c.code = code) (hr : meth.sig.returnType = ret) (hlocks : meth.locks = false) {pc : Nat} {H : Heap} {ls : Array Slot} (hdg : decode code pc = .ok (.ireturn, 1)) : W p l e room_1 s m #[Value.ref b] below meth c H [] 600000 7302250 (lw_Z below #[Value.ref b] s) (F0 m pc ls [.int 1]) := by
  intro T hT X
  obtain ⟨fs, hret, hrun, hended, hW, hframe⟩ := X.leave (v := some (.int 1)) (hlocks := hlocks) (fun h => by rw [hr] at h; cases h)
  have hmeth' : T.vm.method? m = some meth := X.method'
  refine ⟨T.setFrames fs, ?_, .returned (some (.int 1)), hrun, hended, rfl, ⟨_, rfl⟩, hW, hframe⟩
  jvm_step X.here [X.here.top, hx, hb, hdg, hmeth', hr, ret, narrow_b1]
  (try refine ⟨rfl, ?_⟩); (try refine ⟨rfl, ?_⟩)
  first | (intro acts; rw [hret _ acts rfl rfl rfl]) | rw [hret _ _ rfl rfl rfl]
  exact Steps.refl _
/-- what holds at the law's entry: the machine, the code, the tables' words (any of lw_tbl by 'hts w (by decide +kernel)'), the script of L ints xs at the cell b, what the Statement gives of the start (any of its parts by flat_of_before) -/
def lw_At (p : Program) (s : State) (m : MethodId) (meth : Method) (c : Code) (b L : Nat) (xs : Nat → Int32) : Prop :=
  p.tables.exec = Jvm.exec ∧ c.code = code ∧ meth.sig.returnType = ret ∧ c.maxLocals = 4 ∧ s.vm.findClass R_law = some m.cls ∧ (∀ w ∈ lw_tbl, w.before #[Value.ref b] s = true) ∧ va_X b L xs s s.heap ∧ b < s.heap.size ∧ meth.locks = false ∧ (Jvm.Cond.and given_1 narrow_1).before #[Value.ref b] s = true
def lwE (p : Program) (l : Launch) (e : Env) (s : State) (m : MethodId) (b : Nat) (below : List Frame) (meth : Method) (c : Code) : En := (p, l, e, room_1, s, m, #[Value.ref b], below, meth, c)
def Sc (E : En) (A : Nat → Prop) (b L : Nat) (xs : Nat → Int32) : Prop := match E with
  | (_, _, _, _, s, _, _, _, _, _) => va_X b L xs s s.heap ∧ b < s.heap.size ∧ ¬ A b
section LAWR
variable {E : En} {G : Gm} {A : Nat → Prop} {own : String} {cc : ByteArray} {nL fr lo kc ks : Nat} {ret : Option FieldType} {Q : State → Prop} {V : Wd} {pc : Nat} {lv : List (Nat × Value)} {st : List Value} {b L : Nat} {xs : Nat → Int32}
theorem go_slen (F : Fx E G A own cc nL ret fr lo kc ks) (S : Sc E A b L xs) (hd : decode cc pc = .ok (.arraylength, 1)) (kk : Go E G A kc ks Q nL V (pc + 1) lv (.int (nI L) :: st)) : Go E G A kc ks Q nL V pc lv (.ref b :: st) := by
  obtain ⟨p, l, e, R, s, m, args, below, meth, c⟩ := E
  intro H locs ls hP hS hh
  exact va_slen F.1 F.2.1 S.1 S.2.1 S.2.2 hS hd (kk H locs ls hP hS hh)
theorem go_sld {i : Int32} (F : Fx E G A own cc nL ret fr lo kc ks) (S : Sc E A b L xs) (hd : decode cc pc = .ok (.iaload, 1)) (hin : vp_in i L) (kk : Go E G A kc ks Q nL V (pc + 1) lv (.int (xs i.toNatClampNeg) :: st)) : Go E G A kc ks Q nL V pc lv (.int i :: .ref b :: st) := by
  obtain ⟨p, l, e, R, s, m, args, below, meth, c⟩ := E
  intro H locs ls hP hS hh
  exact va_sld F.1 F.2.1 S.1 S.2.1 S.2.2 hS hin hd (kk H locs ls hP hS hh)
theorem go_eqT {x : Int32} {off : Int} (tgt : Nat) (F : Fx E G A own cc nL ret fr lo kc ks) (hd : decode cc pc = .ok (.if_icmp .eq off, 3)) (ht : (pc : Int) + off = (tgt : Int)) (kk : Go E G A kc ks Q nL V tgt lv st) : Go E G A kc ks Q nL V pc lv (.int x :: .int x :: st) := by
  obtain ⟨p, l, e, R, s, m, args, below, meth, c⟩ := E
  intro H locs ls hP hS hh
  exact lv_icmp_eq F.1 F.2.1 hd ht (fun _ => kk H locs ls hP hS hh) (fun q => absurd rfl q)
theorem go_gtB {x y : Int32} {off : Int} (tgt : Nat) (F : Fx E G A own cc nL ret fr lo kc ks) (hd : decode cc pc = .ok (.if_icmp .gt off, 3)) (ht : (pc : Int) + off = (tgt : Int)) (kt : y < x → Go E G A kc ks Q nL V tgt lv st) (kf : ¬ y < x → Go E G A kc ks Q nL V (pc + 3) lv st) : Go E G A kc ks Q nL V pc lv (.int y :: .int x :: st) := by
  obtain ⟨p, l, e, R, s, m, args, below, meth, c⟩ := E
  intro H locs ls hP hS hh
  exact lv_icmp_gt F.1 F.2.1 hd ht (fun q => kt q H locs ls hP hS hh) (fun q => kf q H locs ls hP hS hh)
end LAWR
theorem lwi_in {x : Int32} {j L k : Nat} (hL : L ≤ 2560) (e : x = nI j) (hj : j + 5 ≤ L) (hk : k < 5) {v : Int32} (hv : v = nI k) : vp_in (x + v) L := by
  rw [e, hv, nI_add]
  exact vp_in_nI (by omega) (by omega)
theorem lwi_0 {x : Int32} {j L : Nat} (hL : L ≤ 2560) (e : x = nI j) (hj : j + 5 ≤ L) : vp_in x L := by
  rw [e]
  exact vp_in_nI (by omega) (by omega)
theorem nI_toInt' {n : Nat} (h : n < 4000) : (nI n).toInt = (n : Int) := nI_toInt (by omega)
theorem sub5 {L : Nat} (hL : L ≤ 2560) : (nI L - 5).toInt = (L : Int) - 5 := by
  have h1 := nI_toInt' (n := L) (by omega)
  have h5 : (5 : Int32).toInt = 5 := rfl
  rw [Int32.toInt_sub, h1, h5]
  exact Int.bmod_eq_of_le (by omega) (by omega)
theorem lwi_gt {x : Int32} {j L : Nat} (hL : L ≤ 2560) (hjL : j ≤ 2560) (e : x = nI j) (h : ¬ nI L - 5 < x) : j + 5 ≤ L := by
  rw [e, Int32.lt_iff_toInt_lt, sub5 hL, nI_toInt' (by omega)] at h
  omega

def S_paint (I : Wd → Prop) : Prop := ∀ V : Wd, I V → ∀ a1 a2 a3 a4 : Int32, ∃ (r : Int32) (V1 V2 : Wd), f_X8_paint V a1 a2 a3 a4 = some (r, V1) ∧ f_X9_paint V1 a1 a2 a3 a4 = some (r, V2) ∧ I V2
def S_setStock (I : Wd → Prop) : Prop := ∀ V : Wd, I V → ∀ a1 : Int32, ∃ (r : Int32) (V1 V2 : Wd), f_X8_setStock V a1 = some (r, V1) ∧ f_X9_setStock V1 a1 = some (r, V2) ∧ I V2
def S_setWind (I : Wd → Prop) : Prop := ∀ V : Wd, I V → ∀ a1 a2 : Int32, ∃ (r : Int32) (V1 V2 : Wd), f_X8_setWind V a1 a2 = some (r, V1) ∧ f_X9_setWind V1 a1 a2 = some (r, V2) ∧ I V2
def S_flag (I : Wd → Prop) : Prop := ∀ V : Wd, I V → ∀ a1 a2 : Int32, ∃ (r : Int32), f_X8_flag V a1 a2 = some r ∧ f_X9_flag V a1 a2 = some r
def S_bend (I : Wd → Prop) : Prop := ∀ V : Wd, I V → ∀ a1 a2 : Int32, ∃ (r : Int32) (V1 V2 : Wd), f_X8_bend V a1 a2 = some (r, V1) ∧ f_X9_bend V1 a1 a2 = some (r, V2) ∧ I V2
def S_unbend (I : Wd → Prop) : Prop := ∀ V : Wd, I V → ∀ a1 : Int32, ∃ (r : Int32) (V1 V2 : Wd), f_X8_unbend V a1 = some (r, V1) ∧ f_X9_unbend V1 a1 = some (r, V2) ∧ I V2
def S_exchange (I : Wd → Prop) : Prop := ∀ V : Wd, I V → ∀ a1 a2 : Int32, ∃ (r : Int32) (V1 V2 : Wd), f_X8_exchange V a1 a2 = some (r, V1) ∧ f_X9_exchange V1 a1 a2 = some (r, V2) ∧ I V2
def S_lower (I : Wd → Prop) : Prop := ∀ V : Wd, I V → ∃ (r : Int32) (V1 V2 : Wd), f_X8_lower V = some (r, V1) ∧ f_X9_lower V1 = some (r, V2) ∧ I V2
def S_sign (I : Wd → Prop) : Prop := ∀ V : Wd, I V → ∀ a1 a2 a3 : Int32, ∃ (r : Int32), f_X8_sign V a1 a2 a3 = some r ∧ f_X9_sign V a1 a2 a3 = some r
def S_enter (I : Wd → Prop) : Prop := ∀ V : Wd, I V → ∀ a1 a2 : Int32, ∃ (r : Int32) (V1 V2 : Wd), f_X8_enter V a1 a2 = some (r, V1) ∧ f_X9_enter V1 a1 a2 = some (r, V2) ∧ I V2
def S_strike (I : Wd → Prop) : Prop := ∀ V : Wd, I V → ∀ a1 : Int32, ∃ (r : Int32) (V1 V2 : Wd), f_X8_strike V a1 = some (r, V1) ∧ f_X9_strike V1 a1 = some (r, V2) ∧ I V2
def S_entry (I : Wd → Prop) : Prop := ∀ V : Wd, I V → ∀ a1 a2 : Int32, ∃ (r : Int32), f_X8_entry V a1 a2 = some r ∧ f_X9_entry V a1 a2 = some r
def S_seen (I : Wd → Prop) : Prop := ∀ V : Wd, I V → ∀ a1 a2 a3 : Int32, ∃ (r : Int32), f_X8_seen V a1 a2 a3 = some r ∧ f_X9_seen V a1 a2 a3 = some r
def S_word (I : Wd → Prop) : Prop := ∀ V : Wd, I V → ∀ a1 a2 : Int32, ∃ (r : Int32) (V1 : Wd), f_X8_word V a1 a2 = some (r, V1) ∧ f_X9_word V1 a1 a2 = some r ∧ I V1
def S_known (I : Wd → Prop) : Prop := ∀ V : Wd, I V → ∀ a1 : Int32, ∃ (r : Int32) (V1 : Wd), f_X8_known V a1 = some (r, V1) ∧ f_X9_known V1 a1 = some r ∧ I V1
def S_isSame (I : Wd → Prop) : Prop := ∀ V : Wd, I V → ∃ (r : Int32) (V1 : Wd), f_X8_isSame V = some (r, V1) ∧ f_X9_isSame V1 = some r ∧ I V1
def S_sail (I : Wd → Prop) : Prop := ∀ V : Wd, I V → ∀ a1 : Int32, ∃ (r : Int32) (V1 V2 : Wd), f_X8_sail V a1 = some (r, V1) ∧ f_X9_sail V1 a1 = some (r, V2) ∧ I V2
def S_answer (I : Wd → Prop) : Prop := ∀ V : Wd, I V → ∃ (r : Int32) (V1 V2 : Wd), f_X8_answer V = some (r, V1) ∧ f_X9_answer V1 = some (r, V2) ∧ I V2
def S_logged (I : Wd → Prop) : Prop := ∀ V : Wd, I V → ∀ a1 a2 : Int32, ∃ (r : Int32), f_X8_logged V a1 a2 = some r ∧ f_X9_logged V a1 a2 = some r
def S_total (I : Wd → Prop) : Prop := ∀ V : Wd, I V → ∀ a1 : Int32, ∃ (r : Int32), f_X8_total V a1 = some r ∧ f_X9_total V a1 = some r
def S_leastWind (I : Wd → Prop) : Prop := ∀ V : Wd, I V → ∀ a1 : Int32, ∃ (r : Int32) (V1 V2 : Wd), f_X8_leastWind V a1 = some (r, V1) ∧ f_X9_leastWind V1 a1 = some (r, V2) ∧ I V2
def S_ifTurned (I : Wd → Prop) : Prop := ∀ V : Wd, I V → ∀ a1 : Int32, ∃ (r : Int32) (V1 V2 : Wd), f_X8_ifTurned V a1 = some (r, V1) ∧ f_X9_ifTurned V1 a1 = some (r, V2) ∧ I V2
def S_mendingExchange (I : Wd → Prop) : Prop := ∀ V : Wd, I V → ∃ (r : Int32) (V1 V2 : Wd), f_X8_mendingExchange V = some (r, V1) ∧ f_X9_mendingExchange V1 = some (r, V2) ∧ I V2
def S_bestEntry (I : Wd → Prop) : Prop := ∀ V : Wd, I V → ∀ a1 : Int32, ∃ (r : Int32), f_X8_bestEntry V a1 = some r ∧ f_X9_bestEntry V a1 = some r
def S_append (I : Wd → Prop) : Prop := ∀ V : Wd, I V → ∀ a1 : Int32, ∃ (r : Int32) (V1 V2 : Wd), f_X8_append V a1 = some (r, V1) ∧ f_X9_append V1 a1 = some (r, V2) ∧ I V2
def S_clearText (I : Wd → Prop) : Prop := ∀ V : Wd, I V → ∃ (r : Int32) (V1 V2 : Wd), f_X8_clearText V = some (r, V1) ∧ f_X9_clearText V1 = some (r, V2) ∧ I V2
def S_errorPosition (I : Wd → Prop) : Prop := ∀ V : Wd, I V → ∃ (r : Int32) (V1 V2 : Wd), f_X8_errorPosition V = some (r, V1) ∧ f_X9_errorPosition V1 = some (r, V2) ∧ I V2
def S_hoist (I : Wd → Prop) : Prop := ∀ V : Wd, I V → ∃ (r : Int32) (V1 V2 : Wd), f_X8_hoist V = some (r, V1) ∧ f_X9_hoist V1 = some (r, V2) ∧ I V2
def S_undo (I : Wd → Prop) : Prop := ∀ V : Wd, I V → ∃ (r : Int32) (V1 V2 : Wd), f_X8_undo V = some (r, V1) ∧ f_X9_undo V1 = some (r, V2) ∧ I V2
def S_save (I : Wd → Prop) : Prop := ∀ V : Wd, I V → ∃ (r : Int32) (V1 V2 : Wd), f_X8_save V = some (r, V1) ∧ f_X9_save V1 = some (r, V2) ∧ I V2
def S_restore (I : Wd → Prop) : Prop := ∀ V : Wd, I V → ∃ (r : Int32) (V1 V2 : Wd), f_X8_restore V = some (r, V1) ∧ f_X9_restore V1 = some (r, V2) ∧ I V2
def StepsOK (I : Wd → Prop) : Prop := S_paint I ∧ S_setStock I ∧ S_setWind I ∧ S_flag I ∧ S_bend I ∧ S_unbend I ∧ S_exchange I ∧ S_lower I ∧ S_sign I ∧ S_enter I ∧ S_strike I ∧ S_entry I ∧ S_seen I ∧ S_word I ∧ S_known I ∧ S_isSame I ∧ S_sail I ∧ S_answer I ∧ S_logged I ∧ S_total I ∧ S_leastWind I ∧ S_ifTurned I ∧ S_mendingExchange I ∧ S_bestEntry I ∧ S_append I ∧ S_clearText I ∧ S_errorPosition I ∧ S_hoist I ∧ S_undo I ∧ S_save I ∧ S_restore I
set_option maxRecDepth 100000 in
set_option maxHeartbeats 8000000 in
theorem law_loop {I : Wd → Prop} (hs : StepsOK I) {p : Program} {l : Launch} {e : Env} {s : State} {m : MethodId} {b L : Nat} {below : List Frame} {meth : Method} {c : Code} {G : Gm} {A : Nat → Prop} {xs : Nat → Int32} (hL : L ≤ 2560)
    (F : Fx (lwE p l e s m b below meth c) G A RL code 4 ret 10 366 600000 7302250) (S : Sc (lwE p l e s m b below meth c) A b L xs) (hE : ∀ (V : Wd) (lv : List (Nat × Value)), Go (lwE p l e s m b below meth c) G A 600000 7302250 (lw_Z below #[Value.ref b] s) 4 V 942 lv [.int 1]) :
    ∀ (n j : Nat) (x3 : Int32) (V : Wd), j ≤ 2560 → L + 1 ≤ j + n → x3 = nI j → I V → Go (lwE p l e s m b below meth c) G A 600000 7302250 (lw_Z below #[Value.ref b] s) 4 V 18 [(0, .ref b), (1, .ref (AD G 0)), (2, .ref (AD G 112)), (3, .int x3)] [] := by
  obtain ⟨E, hEe⟩ : ∃ E : En, E = lwE p l e s m b below meth c := ⟨_, rfl⟩
  rw [← hEe] at F S hE ⊢
  clear hEe
  intro n
  induction n with
  | zero =>
    intro j x3 V hj hjn e3 hI
    have e1 : j ≤ 2560 := hj
    refine go_iloadn (pc := 18) F dL_law_18 3 rfl ?_
    refine go_aloadn (pc := 19) F dL_law_19 0 rfl ?_
    refine go_slen (pc := 20) F S dL_law_20 ?_
    refine go_iconst (pc := 21) 5 F dL_law_21 (by decide) ?_
    refine go_isub (pc := 22) F dL_law_22 ?_
    refine go_gtB (pc := 23) 941 F dL_law_23 (by decide) (fun c1 => ?_) (fun c1 => ?_)
    · refine go_iconst (pc := 941) 1 F dL_law_941 (by decide) ?_
      exact hE V _
    · exact absurd (lwi_gt hL hj e3 c1) (by omega)
  | succ n ih =>
    intro j x3 V hj hjn e3 hI
    refine go_iloadn (pc := 18) F dL_law_18 3 rfl ?_
    refine go_aloadn (pc := 19) F dL_law_19 0 rfl ?_
    refine go_slen (pc := 20) F S dL_law_20 ?_
    refine go_iconst (pc := 21) 5 F dL_law_21 (by decide) ?_
    refine go_isub (pc := 22) F dL_law_22 ?_
    refine go_gtB (pc := 23) 941 F dL_law_23 (by decide) (fun c1 => ?_) (fun c1 => ?_)
    · refine go_iconst (pc := 941) 1 F dL_law_941 (by decide) ?_
      exact hE V _
    · have h5 : j + 5 ≤ L := lwi_gt hL hj e3 c1
      have hjn5 : L + 1 ≤ (j + 5) + n := by omega
      have hj5 : j + 5 ≤ 2560 := by omega
      have hb : ∀ V1 : Wd, I V1 → Go E G A 600000 7302250 (lw_Z below #[Value.ref b] s) 4 V1 935 [(0, .ref b), (1, .ref (AD G 0)), (2, .ref (AD G 112)), (3, .int x3)] [] := by
        intro V1 hI1
        refine go_iinc (pc := 935) (x3 + 5) (lv' := [(3, .int (x3 + 5)), (0, .ref b), (1, .ref (AD G 0)), (2, .ref (AD G 112))]) F dL_law_935 (k := 3) rfl rfl (by decide) rfl ?_
        refine go_goto (pc := 938) 18 F dL_law_938 (by decide) ?_
        exact go_sub [1, 2, 3, 0] rfl (ih (j + 5) (x3 + 5) V1 hj5 hjn5 (by rw [e3]; exact nI_add j 5) hI1)
      clear ih
      refine go_aloadn (pc := 26) F dL_law_26 0 rfl ?_
      refine go_iloadn (pc := 27) F dL_law_27 3 rfl ?_
      refine go_sld (pc := 28) F S dL_law_28 (lwi_0 hL e3 h5) ?_
      refine go_bipush (pc := 29) 31 F dL_law_29 (by decide) ?_
      refine go_iand (pc := 31) F dL_law_31 ?_
      generalize xs x3.toNatClampNeg &&& 31 = v
      by_cases c0 : v = 0
      · refine go_tabI (pc := 32) 172 F dL_law_32 c0 (by decide) (by decide) rfl (by decide) ?_
        obtain ⟨r, V1, V2, h1, h2, hI2⟩ := hs.1 V hI (xs (x3 + 1).toNatClampNeg) (xs (x3 + 2).toNatClampNeg) (xs (x3 + 3).toNatClampNeg) (xs (x3 + 4).toNatClampNeg)
        refine go_aloadn (pc := 172) F dL_law_172 1 rfl ?_
        refine go_aloadn (pc := 173) F dL_law_173 0 rfl ?_
        refine go_iloadn (pc := 174) F dL_law_174 3 rfl ?_
        refine go_iconst (pc := 175) 1 F dL_law_175 (by decide) ?_
        refine go_iadd (pc := 176) F dL_law_176 ?_
        refine go_sld (pc := 177) F S dL_law_177 (lwi_in (k := 1) hL e3 h5 (by decide) rfl) ?_
        refine go_aloadn (pc := 178) F dL_law_178 0 rfl ?_
        refine go_iloadn (pc := 179) F dL_law_179 3 rfl ?_
        refine go_iconst (pc := 180) 2 F dL_law_180 (by decide) ?_
        refine go_iadd (pc := 181) F dL_law_181 ?_
        refine go_sld (pc := 182) F S dL_law_182 (lwi_in (k := 2) hL e3 h5 (by decide) rfl) ?_
        refine go_aloadn (pc := 183) F dL_law_183 0 rfl ?_
        refine go_iloadn (pc := 184) F dL_law_184 3 rfl ?_
        refine go_iconst (pc := 185) 3 F dL_law_185 (by decide) ?_
        refine go_iadd (pc := 186) F dL_law_186 ?_
        refine go_sld (pc := 187) F S dL_law_187 (lwi_in (k := 3) hL e3 h5 (by decide) rfl) ?_
        refine go_aloadn (pc := 188) F dL_law_188 0 rfl ?_
        refine go_iloadn (pc := 189) F dL_law_189 3 rfl ?_
        refine go_iconst (pc := 190) 4 F dL_law_190 (by decide) ?_
        refine go_iadd (pc := 191) F dL_law_191 ?_
        refine go_sld (pc := 192) F S dL_law_192 (lwi_in (k := 4) hL e3 h5 (by decide) rfl) ?_
        refine cv_L_13 (pc := 193) F dL_law_193 rfl (ct_X8_paint (enL E) G V (xs (x3 + 1).toNatClampNeg) (xs (x3 + 2).toNatClampNeg) (xs (x3 + 3).toNatClampNeg) (xs (x3 + 4).toNatClampNeg) (r, V1) h1) (by decide) (by decide) (Nat.le_of_ble_eq_true rfl) ?_
        refine go_aloadn (pc := 196) F dL_law_196 2 rfl ?_
        refine go_aloadn (pc := 197) F dL_law_197 0 rfl ?_
        refine go_iloadn (pc := 198) F dL_law_198 3 rfl ?_
        refine go_iconst (pc := 199) 1 F dL_law_199 (by decide) ?_
        refine go_iadd (pc := 200) F dL_law_200 ?_
        refine go_sld (pc := 201) F S dL_law_201 (lwi_in (k := 1) hL e3 h5 (by decide) rfl) ?_
        refine go_aloadn (pc := 202) F dL_law_202 0 rfl ?_
        refine go_iloadn (pc := 203) F dL_law_203 3 rfl ?_
        refine go_iconst (pc := 204) 2 F dL_law_204 (by decide) ?_
        refine go_iadd (pc := 205) F dL_law_205 ?_
        refine go_sld (pc := 206) F S dL_law_206 (lwi_in (k := 2) hL e3 h5 (by decide) rfl) ?_
        refine go_aloadn (pc := 207) F dL_law_207 0 rfl ?_
        refine go_iloadn (pc := 208) F dL_law_208 3 rfl ?_
        refine go_iconst (pc := 209) 3 F dL_law_209 (by decide) ?_
        refine go_iadd (pc := 210) F dL_law_210 ?_
        refine go_sld (pc := 211) F S dL_law_211 (lwi_in (k := 3) hL e3 h5 (by decide) rfl) ?_
        refine go_aloadn (pc := 212) F dL_law_212 0 rfl ?_
        refine go_iloadn (pc := 213) F dL_law_213 3 rfl ?_
        refine go_iconst (pc := 214) 4 F dL_law_214 (by decide) ?_
        refine go_iadd (pc := 215) F dL_law_215 ?_
        refine go_sld (pc := 216) F S dL_law_216 (lwi_in (k := 4) hL e3 h5 (by decide) rfl) ?_
        refine cv_L_17 (pc := 217) F dL_law_217 rfl (ct_X9_paint (enL E) G V1 (xs (x3 + 1).toNatClampNeg) (xs (x3 + 2).toNatClampNeg) (xs (x3 + 3).toNatClampNeg) (xs (x3 + 4).toNatClampNeg) (r, V2) h2) (by decide) (by decide) (Nat.le_of_ble_eq_true rfl) ?_
        refine go_eqT (pc := 220) 935 F dL_law_220 (by decide) ?_
        exact hb V2 hI2
      by_cases c1 : v = 1
      · refine go_tabI (pc := 32) 225 F dL_law_32 c1 (by decide) (by decide) rfl (by decide) ?_
        obtain ⟨r, V1, V2, h1, h2, hI2⟩ := hs.2.1 V hI (xs (x3 + 1).toNatClampNeg)
        refine go_aloadn (pc := 225) F dL_law_225 1 rfl ?_
        refine go_aloadn (pc := 226) F dL_law_226 0 rfl ?_
        refine go_iloadn (pc := 227) F dL_law_227 3 rfl ?_
        refine go_iconst (pc := 228) 1 F dL_law_228 (by decide) ?_
        refine go_iadd (pc := 229) F dL_law_229 ?_
        refine go_sld (pc := 230) F S dL_law_230 (lwi_in (k := 1) hL e3 h5 (by decide) rfl) ?_
        refine cv_L_18 (pc := 231) F dL_law_231 rfl (ct_X8_setStock (enL E) G V (xs (x3 + 1).toNatClampNeg) (r, V1) h1) (by decide) (by decide) (Nat.le_of_ble_eq_true rfl) ?_
        refine go_aloadn (pc := 234) F dL_law_234 2 rfl ?_
        refine go_aloadn (pc := 235) F dL_law_235 0 rfl ?_
        refine go_iloadn (pc := 236) F dL_law_236 3 rfl ?_
        refine go_iconst (pc := 237) 1 F dL_law_237 (by decide) ?_
        refine go_iadd (pc := 238) F dL_law_238 ?_
        refine go_sld (pc := 239) F S dL_law_239 (lwi_in (k := 1) hL e3 h5 (by decide) rfl) ?_
        refine cv_L_22 (pc := 240) F dL_law_240 rfl (ct_X9_setStock (enL E) G V1 (xs (x3 + 1).toNatClampNeg) (r, V2) h2) (by decide) (by decide) (Nat.le_of_ble_eq_true rfl) ?_
        refine go_eqT (pc := 243) 935 F dL_law_243 (by decide) ?_
        exact hb V2 hI2
      by_cases c2 : v = 2
      · refine go_tabI (pc := 32) 248 F dL_law_32 c2 (by decide) (by decide) rfl (by decide) ?_
        obtain ⟨r, V1, V2, h1, h2, hI2⟩ := hs.2.2.1 V hI (xs (x3 + 1).toNatClampNeg) (xs (x3 + 2).toNatClampNeg)
        refine go_aloadn (pc := 248) F dL_law_248 1 rfl ?_
        refine go_aloadn (pc := 249) F dL_law_249 0 rfl ?_
        refine go_iloadn (pc := 250) F dL_law_250 3 rfl ?_
        refine go_iconst (pc := 251) 1 F dL_law_251 (by decide) ?_
        refine go_iadd (pc := 252) F dL_law_252 ?_
        refine go_sld (pc := 253) F S dL_law_253 (lwi_in (k := 1) hL e3 h5 (by decide) rfl) ?_
        refine go_aloadn (pc := 254) F dL_law_254 0 rfl ?_
        refine go_iloadn (pc := 255) F dL_law_255 3 rfl ?_
        refine go_iconst (pc := 256) 2 F dL_law_256 (by decide) ?_
        refine go_iadd (pc := 257) F dL_law_257 ?_
        refine go_sld (pc := 258) F S dL_law_258 (lwi_in (k := 2) hL e3 h5 (by decide) rfl) ?_
        refine cv_L_23 (pc := 259) F dL_law_259 rfl (ct_X8_setWind (enL E) G V (xs (x3 + 1).toNatClampNeg) (xs (x3 + 2).toNatClampNeg) (r, V1) h1) (by decide) (by decide) (Nat.le_of_ble_eq_true rfl) ?_
        refine go_aloadn (pc := 262) F dL_law_262 2 rfl ?_
        refine go_aloadn (pc := 263) F dL_law_263 0 rfl ?_
        refine go_iloadn (pc := 264) F dL_law_264 3 rfl ?_
        refine go_iconst (pc := 265) 1 F dL_law_265 (by decide) ?_
        refine go_iadd (pc := 266) F dL_law_266 ?_
        refine go_sld (pc := 267) F S dL_law_267 (lwi_in (k := 1) hL e3 h5 (by decide) rfl) ?_
        refine go_aloadn (pc := 268) F dL_law_268 0 rfl ?_
        refine go_iloadn (pc := 269) F dL_law_269 3 rfl ?_
        refine go_iconst (pc := 270) 2 F dL_law_270 (by decide) ?_
        refine go_iadd (pc := 271) F dL_law_271 ?_
        refine go_sld (pc := 272) F S dL_law_272 (lwi_in (k := 2) hL e3 h5 (by decide) rfl) ?_
        refine cv_L_27 (pc := 273) F dL_law_273 rfl (ct_X9_setWind (enL E) G V1 (xs (x3 + 1).toNatClampNeg) (xs (x3 + 2).toNatClampNeg) (r, V2) h2) (by decide) (by decide) (Nat.le_of_ble_eq_true rfl) ?_
        refine go_eqT (pc := 276) 935 F dL_law_276 (by decide) ?_
        exact hb V2 hI2
      by_cases c3 : v = 3
      · refine go_tabI (pc := 32) 281 F dL_law_32 c3 (by decide) (by decide) rfl (by decide) ?_
        obtain ⟨r, h1, h2⟩ := hs.2.2.2.1 V hI (xs (x3 + 1).toNatClampNeg) (xs (x3 + 2).toNatClampNeg)
        refine go_aloadn (pc := 281) F dL_law_281 1 rfl ?_
        refine go_aloadn (pc := 282) F dL_law_282 0 rfl ?_
        refine go_iloadn (pc := 283) F dL_law_283 3 rfl ?_
        refine go_iconst (pc := 284) 1 F dL_law_284 (by decide) ?_
        refine go_iadd (pc := 285) F dL_law_285 ?_
        refine go_sld (pc := 286) F S dL_law_286 (lwi_in (k := 1) hL e3 h5 (by decide) rfl) ?_
        refine go_aloadn (pc := 287) F dL_law_287 0 rfl ?_
        refine go_iloadn (pc := 288) F dL_law_288 3 rfl ?_
        refine go_iconst (pc := 289) 2 F dL_law_289 (by decide) ?_
        refine go_iadd (pc := 290) F dL_law_290 ?_
        refine go_sld (pc := 291) F S dL_law_291 (lwi_in (k := 2) hL e3 h5 (by decide) rfl) ?_
        refine cv_L_28 (pc := 292) F dL_law_292 rfl (ct_X8_flag (enL E) G V (xs (x3 + 1).toNatClampNeg) (xs (x3 + 2).toNatClampNeg) r h1) (by decide) (by decide) (Nat.le_of_ble_eq_true rfl) ?_
        refine go_aloadn (pc := 295) F dL_law_295 2 rfl ?_
        refine go_aloadn (pc := 296) F dL_law_296 0 rfl ?_
        refine go_iloadn (pc := 297) F dL_law_297 3 rfl ?_
        refine go_iconst (pc := 298) 1 F dL_law_298 (by decide) ?_
        refine go_iadd (pc := 299) F dL_law_299 ?_
        refine go_sld (pc := 300) F S dL_law_300 (lwi_in (k := 1) hL e3 h5 (by decide) rfl) ?_
        refine go_aloadn (pc := 301) F dL_law_301 0 rfl ?_
        refine go_iloadn (pc := 302) F dL_law_302 3 rfl ?_
        refine go_iconst (pc := 303) 2 F dL_law_303 (by decide) ?_
        refine go_iadd (pc := 304) F dL_law_304 ?_
        refine go_sld (pc := 305) F S dL_law_305 (lwi_in (k := 2) hL e3 h5 (by decide) rfl) ?_
        refine cv_L_31 (pc := 306) F dL_law_306 rfl (ct_X9_flag (enL E) G V (xs (x3 + 1).toNatClampNeg) (xs (x3 + 2).toNatClampNeg) r h2) (by decide) (by decide) (Nat.le_of_ble_eq_true rfl) ?_
        refine go_eqT (pc := 309) 935 F dL_law_309 (by decide) ?_
        exact hb V hI
      by_cases c4 : v = 4
      · refine go_tabI (pc := 32) 314 F dL_law_32 c4 (by decide) (by decide) rfl (by decide) ?_
        obtain ⟨r, V1, V2, h1, h2, hI2⟩ := hs.2.2.2.2.1 V hI (xs (x3 + 1).toNatClampNeg) (xs (x3 + 2).toNatClampNeg)
        refine go_aloadn (pc := 314) F dL_law_314 1 rfl ?_
        refine go_aloadn (pc := 315) F dL_law_315 0 rfl ?_
        refine go_iloadn (pc := 316) F dL_law_316 3 rfl ?_
        refine go_iconst (pc := 317) 1 F dL_law_317 (by decide) ?_
        refine go_iadd (pc := 318) F dL_law_318 ?_
        refine go_sld (pc := 319) F S dL_law_319 (lwi_in (k := 1) hL e3 h5 (by decide) rfl) ?_
        refine go_aloadn (pc := 320) F dL_law_320 0 rfl ?_
        refine go_iloadn (pc := 321) F dL_law_321 3 rfl ?_
        refine go_iconst (pc := 322) 2 F dL_law_322 (by decide) ?_
        refine go_iadd (pc := 323) F dL_law_323 ?_
        refine go_sld (pc := 324) F S dL_law_324 (lwi_in (k := 2) hL e3 h5 (by decide) rfl) ?_
        refine cv_L_32 (pc := 325) F dL_law_325 rfl (ct_X8_bend (enL E) G V (xs (x3 + 1).toNatClampNeg) (xs (x3 + 2).toNatClampNeg) (r, V1) h1) (by decide) (by decide) (Nat.le_of_ble_eq_true rfl) ?_
        refine go_aloadn (pc := 328) F dL_law_328 2 rfl ?_
        refine go_aloadn (pc := 329) F dL_law_329 0 rfl ?_
        refine go_iloadn (pc := 330) F dL_law_330 3 rfl ?_
        refine go_iconst (pc := 331) 1 F dL_law_331 (by decide) ?_
        refine go_iadd (pc := 332) F dL_law_332 ?_
        refine go_sld (pc := 333) F S dL_law_333 (lwi_in (k := 1) hL e3 h5 (by decide) rfl) ?_
        refine go_aloadn (pc := 334) F dL_law_334 0 rfl ?_
        refine go_iloadn (pc := 335) F dL_law_335 3 rfl ?_
        refine go_iconst (pc := 336) 2 F dL_law_336 (by decide) ?_
        refine go_iadd (pc := 337) F dL_law_337 ?_
        refine go_sld (pc := 338) F S dL_law_338 (lwi_in (k := 2) hL e3 h5 (by decide) rfl) ?_
        refine cv_L_35 (pc := 339) F dL_law_339 rfl (ct_X9_bend (enL E) G V1 (xs (x3 + 1).toNatClampNeg) (xs (x3 + 2).toNatClampNeg) (r, V2) h2) (by decide) (by decide) (Nat.le_of_ble_eq_true rfl) ?_
        refine go_eqT (pc := 342) 935 F dL_law_342 (by decide) ?_
        exact hb V2 hI2
      by_cases c5 : v = 5
      · refine go_tabI (pc := 32) 347 F dL_law_32 c5 (by decide) (by decide) rfl (by decide) ?_
        obtain ⟨r, V1, V2, h1, h2, hI2⟩ := hs.2.2.2.2.2.1 V hI (xs (x3 + 1).toNatClampNeg)
        refine go_aloadn (pc := 347) F dL_law_347 1 rfl ?_
        refine go_aloadn (pc := 348) F dL_law_348 0 rfl ?_
        refine go_iloadn (pc := 349) F dL_law_349 3 rfl ?_
        refine go_iconst (pc := 350) 1 F dL_law_350 (by decide) ?_
        refine go_iadd (pc := 351) F dL_law_351 ?_
        refine go_sld (pc := 352) F S dL_law_352 (lwi_in (k := 1) hL e3 h5 (by decide) rfl) ?_
        refine cv_L_36 (pc := 353) F dL_law_353 rfl (ct_X8_unbend (enL E) G V (xs (x3 + 1).toNatClampNeg) (r, V1) h1) (by decide) (by decide) (Nat.le_of_ble_eq_true rfl) ?_
        refine go_aloadn (pc := 356) F dL_law_356 2 rfl ?_
        refine go_aloadn (pc := 357) F dL_law_357 0 rfl ?_
        refine go_iloadn (pc := 358) F dL_law_358 3 rfl ?_
        refine go_iconst (pc := 359) 1 F dL_law_359 (by decide) ?_
        refine go_iadd (pc := 360) F dL_law_360 ?_
        refine go_sld (pc := 361) F S dL_law_361 (lwi_in (k := 1) hL e3 h5 (by decide) rfl) ?_
        refine cv_L_39 (pc := 362) F dL_law_362 rfl (ct_X9_unbend (enL E) G V1 (xs (x3 + 1).toNatClampNeg) (r, V2) h2) (by decide) (by decide) (Nat.le_of_ble_eq_true rfl) ?_
        refine go_eqT (pc := 365) 935 F dL_law_365 (by decide) ?_
        exact hb V2 hI2
      by_cases c6 : v = 6
      · refine go_tabI (pc := 32) 370 F dL_law_32 c6 (by decide) (by decide) rfl (by decide) ?_
        obtain ⟨r, V1, V2, h1, h2, hI2⟩ := hs.2.2.2.2.2.2.1 V hI (xs (x3 + 1).toNatClampNeg) (xs (x3 + 2).toNatClampNeg)
        refine go_aloadn (pc := 370) F dL_law_370 1 rfl ?_
        refine go_aloadn (pc := 371) F dL_law_371 0 rfl ?_
        refine go_iloadn (pc := 372) F dL_law_372 3 rfl ?_
        refine go_iconst (pc := 373) 1 F dL_law_373 (by decide) ?_
        refine go_iadd (pc := 374) F dL_law_374 ?_
        refine go_sld (pc := 375) F S dL_law_375 (lwi_in (k := 1) hL e3 h5 (by decide) rfl) ?_
        refine go_aloadn (pc := 376) F dL_law_376 0 rfl ?_
        refine go_iloadn (pc := 377) F dL_law_377 3 rfl ?_
        refine go_iconst (pc := 378) 2 F dL_law_378 (by decide) ?_
        refine go_iadd (pc := 379) F dL_law_379 ?_
        refine go_sld (pc := 380) F S dL_law_380 (lwi_in (k := 2) hL e3 h5 (by decide) rfl) ?_
        refine cv_L_40 (pc := 381) F dL_law_381 rfl (ct_X8_exchange (enL E) G V (xs (x3 + 1).toNatClampNeg) (xs (x3 + 2).toNatClampNeg) (r, V1) h1) (by decide) (by decide) (Nat.le_of_ble_eq_true rfl) ?_
        refine go_aloadn (pc := 384) F dL_law_384 2 rfl ?_
        refine go_aloadn (pc := 385) F dL_law_385 0 rfl ?_
        refine go_iloadn (pc := 386) F dL_law_386 3 rfl ?_
        refine go_iconst (pc := 387) 1 F dL_law_387 (by decide) ?_
        refine go_iadd (pc := 388) F dL_law_388 ?_
        refine go_sld (pc := 389) F S dL_law_389 (lwi_in (k := 1) hL e3 h5 (by decide) rfl) ?_
        refine go_aloadn (pc := 390) F dL_law_390 0 rfl ?_
        refine go_iloadn (pc := 391) F dL_law_391 3 rfl ?_
        refine go_iconst (pc := 392) 2 F dL_law_392 (by decide) ?_
        refine go_iadd (pc := 393) F dL_law_393 ?_
        refine go_sld (pc := 394) F S dL_law_394 (lwi_in (k := 2) hL e3 h5 (by decide) rfl) ?_
        refine cv_L_43 (pc := 395) F dL_law_395 rfl (ct_X9_exchange (enL E) G V1 (xs (x3 + 1).toNatClampNeg) (xs (x3 + 2).toNatClampNeg) (r, V2) h2) (by decide) (by decide) (Nat.le_of_ble_eq_true rfl) ?_
        refine go_eqT (pc := 398) 935 F dL_law_398 (by decide) ?_
        exact hb V2 hI2
      by_cases c7 : v = 7
      · refine go_tabI (pc := 32) 403 F dL_law_32 c7 (by decide) (by decide) rfl (by decide) ?_
        obtain ⟨r, V1, V2, h1, h2, hI2⟩ := hs.2.2.2.2.2.2.2.1 V hI
        refine go_aloadn (pc := 403) F dL_law_403 1 rfl ?_
        refine cv_L_44 (pc := 404) F dL_law_404 rfl (ct_X8_lower (enL E) G V  (r, V1) h1) (by decide) (by decide) (Nat.le_of_ble_eq_true rfl) ?_
        refine go_aloadn (pc := 407) F dL_law_407 2 rfl ?_
        refine cv_L_48 (pc := 408) F dL_law_408 rfl (ct_X9_lower (enL E) G V1  (r, V2) h2) (by decide) (by decide) (Nat.le_of_ble_eq_true rfl) ?_
        refine go_eqT (pc := 411) 935 F dL_law_411 (by decide) ?_
        exact hb V2 hI2
      by_cases c8 : v = 8
      · refine go_tabI (pc := 32) 416 F dL_law_32 c8 (by decide) (by decide) rfl (by decide) ?_
        obtain ⟨r, h1, h2⟩ := hs.2.2.2.2.2.2.2.2.1 V hI (xs (x3 + 1).toNatClampNeg) (xs (x3 + 2).toNatClampNeg) (xs (x3 + 3).toNatClampNeg)
        refine go_aloadn (pc := 416) F dL_law_416 1 rfl ?_
        refine go_aloadn (pc := 417) F dL_law_417 0 rfl ?_
        refine go_iloadn (pc := 418) F dL_law_418 3 rfl ?_
        refine go_iconst (pc := 419) 1 F dL_law_419 (by decide) ?_
        refine go_iadd (pc := 420) F dL_law_420 ?_
        refine go_sld (pc := 421) F S dL_law_421 (lwi_in (k := 1) hL e3 h5 (by decide) rfl) ?_
        refine go_aloadn (pc := 422) F dL_law_422 0 rfl ?_
        refine go_iloadn (pc := 423) F dL_law_423 3 rfl ?_
        refine go_iconst (pc := 424) 2 F dL_law_424 (by decide) ?_
        refine go_iadd (pc := 425) F dL_law_425 ?_
        refine go_sld (pc := 426) F S dL_law_426 (lwi_in (k := 2) hL e3 h5 (by decide) rfl) ?_
        refine go_aloadn (pc := 427) F dL_law_427 0 rfl ?_
        refine go_iloadn (pc := 428) F dL_law_428 3 rfl ?_
        refine go_iconst (pc := 429) 3 F dL_law_429 (by decide) ?_
        refine go_iadd (pc := 430) F dL_law_430 ?_
        refine go_sld (pc := 431) F S dL_law_431 (lwi_in (k := 3) hL e3 h5 (by decide) rfl) ?_
        refine cv_L_49 (pc := 432) F dL_law_432 rfl (ct_X8_sign (enL E) G V (xs (x3 + 1).toNatClampNeg) (xs (x3 + 2).toNatClampNeg) (xs (x3 + 3).toNatClampNeg) r h1) (by decide) (by decide) (Nat.le_of_ble_eq_true rfl) ?_
        refine go_aloadn (pc := 435) F dL_law_435 2 rfl ?_
        refine go_aloadn (pc := 436) F dL_law_436 0 rfl ?_
        refine go_iloadn (pc := 437) F dL_law_437 3 rfl ?_
        refine go_iconst (pc := 438) 1 F dL_law_438 (by decide) ?_
        refine go_iadd (pc := 439) F dL_law_439 ?_
        refine go_sld (pc := 440) F S dL_law_440 (lwi_in (k := 1) hL e3 h5 (by decide) rfl) ?_
        refine go_aloadn (pc := 441) F dL_law_441 0 rfl ?_
        refine go_iloadn (pc := 442) F dL_law_442 3 rfl ?_
        refine go_iconst (pc := 443) 2 F dL_law_443 (by decide) ?_
        refine go_iadd (pc := 444) F dL_law_444 ?_
        refine go_sld (pc := 445) F S dL_law_445 (lwi_in (k := 2) hL e3 h5 (by decide) rfl) ?_
        refine go_aloadn (pc := 446) F dL_law_446 0 rfl ?_
        refine go_iloadn (pc := 447) F dL_law_447 3 rfl ?_
        refine go_iconst (pc := 448) 3 F dL_law_448 (by decide) ?_
        refine go_iadd (pc := 449) F dL_law_449 ?_
        refine go_sld (pc := 450) F S dL_law_450 (lwi_in (k := 3) hL e3 h5 (by decide) rfl) ?_
        refine cv_L_53 (pc := 451) F dL_law_451 rfl (ct_X9_sign (enL E) G V (xs (x3 + 1).toNatClampNeg) (xs (x3 + 2).toNatClampNeg) (xs (x3 + 3).toNatClampNeg) r h2) (by decide) (by decide) (Nat.le_of_ble_eq_true rfl) ?_
        refine go_eqT (pc := 454) 935 F dL_law_454 (by decide) ?_
        exact hb V hI
      by_cases c9 : v = 9
      · refine go_tabI (pc := 32) 459 F dL_law_32 c9 (by decide) (by decide) rfl (by decide) ?_
        obtain ⟨r, V1, V2, h1, h2, hI2⟩ := hs.2.2.2.2.2.2.2.2.2.1 V hI (xs (x3 + 1).toNatClampNeg) (xs (x3 + 2).toNatClampNeg)
        refine go_aloadn (pc := 459) F dL_law_459 1 rfl ?_
        refine go_aloadn (pc := 460) F dL_law_460 0 rfl ?_
        refine go_iloadn (pc := 461) F dL_law_461 3 rfl ?_
        refine go_iconst (pc := 462) 1 F dL_law_462 (by decide) ?_
        refine go_iadd (pc := 463) F dL_law_463 ?_
        refine go_sld (pc := 464) F S dL_law_464 (lwi_in (k := 1) hL e3 h5 (by decide) rfl) ?_
        refine go_aloadn (pc := 465) F dL_law_465 0 rfl ?_
        refine go_iloadn (pc := 466) F dL_law_466 3 rfl ?_
        refine go_iconst (pc := 467) 2 F dL_law_467 (by decide) ?_
        refine go_iadd (pc := 468) F dL_law_468 ?_
        refine go_sld (pc := 469) F S dL_law_469 (lwi_in (k := 2) hL e3 h5 (by decide) rfl) ?_
        refine cv_L_54 (pc := 470) F dL_law_470 rfl (ct_X8_enter (enL E) G V (xs (x3 + 1).toNatClampNeg) (xs (x3 + 2).toNatClampNeg) (r, V1) h1) (by decide) (by decide) (Nat.le_of_ble_eq_true rfl) ?_
        refine go_aloadn (pc := 473) F dL_law_473 2 rfl ?_
        refine go_aloadn (pc := 474) F dL_law_474 0 rfl ?_
        refine go_iloadn (pc := 475) F dL_law_475 3 rfl ?_
        refine go_iconst (pc := 476) 1 F dL_law_476 (by decide) ?_
        refine go_iadd (pc := 477) F dL_law_477 ?_
        refine go_sld (pc := 478) F S dL_law_478 (lwi_in (k := 1) hL e3 h5 (by decide) rfl) ?_
        refine go_aloadn (pc := 479) F dL_law_479 0 rfl ?_
        refine go_iloadn (pc := 480) F dL_law_480 3 rfl ?_
        refine go_iconst (pc := 481) 2 F dL_law_481 (by decide) ?_
        refine go_iadd (pc := 482) F dL_law_482 ?_
        refine go_sld (pc := 483) F S dL_law_483 (lwi_in (k := 2) hL e3 h5 (by decide) rfl) ?_
        refine cv_L_57 (pc := 484) F dL_law_484 rfl (ct_X9_enter (enL E) G V1 (xs (x3 + 1).toNatClampNeg) (xs (x3 + 2).toNatClampNeg) (r, V2) h2) (by decide) (by decide) (Nat.le_of_ble_eq_true rfl) ?_
        refine go_eqT (pc := 487) 935 F dL_law_487 (by decide) ?_
        exact hb V2 hI2
      by_cases c10 : v = 10
      · refine go_tabI (pc := 32) 492 F dL_law_32 c10 (by decide) (by decide) rfl (by decide) ?_
        obtain ⟨r, V1, V2, h1, h2, hI2⟩ := hs.2.2.2.2.2.2.2.2.2.2.1 V hI (xs (x3 + 1).toNatClampNeg)
        refine go_aloadn (pc := 492) F dL_law_492 1 rfl ?_
        refine go_aloadn (pc := 493) F dL_law_493 0 rfl ?_
        refine go_iloadn (pc := 494) F dL_law_494 3 rfl ?_
        refine go_iconst (pc := 495) 1 F dL_law_495 (by decide) ?_
        refine go_iadd (pc := 496) F dL_law_496 ?_
        refine go_sld (pc := 497) F S dL_law_497 (lwi_in (k := 1) hL e3 h5 (by decide) rfl) ?_
        refine cv_L_58 (pc := 498) F dL_law_498 rfl (ct_X8_strike (enL E) G V (xs (x3 + 1).toNatClampNeg) (r, V1) h1) (by decide) (by decide) (Nat.le_of_ble_eq_true rfl) ?_
        refine go_aloadn (pc := 501) F dL_law_501 2 rfl ?_
        refine go_aloadn (pc := 502) F dL_law_502 0 rfl ?_
        refine go_iloadn (pc := 503) F dL_law_503 3 rfl ?_
        refine go_iconst (pc := 504) 1 F dL_law_504 (by decide) ?_
        refine go_iadd (pc := 505) F dL_law_505 ?_
        refine go_sld (pc := 506) F S dL_law_506 (lwi_in (k := 1) hL e3 h5 (by decide) rfl) ?_
        refine cv_L_61 (pc := 507) F dL_law_507 rfl (ct_X9_strike (enL E) G V1 (xs (x3 + 1).toNatClampNeg) (r, V2) h2) (by decide) (by decide) (Nat.le_of_ble_eq_true rfl) ?_
        refine go_eqT (pc := 510) 935 F dL_law_510 (by decide) ?_
        exact hb V2 hI2
      by_cases c11 : v = 11
      · refine go_tabI (pc := 32) 515 F dL_law_32 c11 (by decide) (by decide) rfl (by decide) ?_
        obtain ⟨r, h1, h2⟩ := hs.2.2.2.2.2.2.2.2.2.2.2.1 V hI (xs (x3 + 1).toNatClampNeg) (xs (x3 + 2).toNatClampNeg)
        refine go_aloadn (pc := 515) F dL_law_515 1 rfl ?_
        refine go_aloadn (pc := 516) F dL_law_516 0 rfl ?_
        refine go_iloadn (pc := 517) F dL_law_517 3 rfl ?_
        refine go_iconst (pc := 518) 1 F dL_law_518 (by decide) ?_
        refine go_iadd (pc := 519) F dL_law_519 ?_
        refine go_sld (pc := 520) F S dL_law_520 (lwi_in (k := 1) hL e3 h5 (by decide) rfl) ?_
        refine go_aloadn (pc := 521) F dL_law_521 0 rfl ?_
        refine go_iloadn (pc := 522) F dL_law_522 3 rfl ?_
        refine go_iconst (pc := 523) 2 F dL_law_523 (by decide) ?_
        refine go_iadd (pc := 524) F dL_law_524 ?_
        refine go_sld (pc := 525) F S dL_law_525 (lwi_in (k := 2) hL e3 h5 (by decide) rfl) ?_
        refine cv_L_62 (pc := 526) F dL_law_526 rfl (ct_X8_entry (enL E) G V (xs (x3 + 1).toNatClampNeg) (xs (x3 + 2).toNatClampNeg) r h1) (by decide) (by decide) (Nat.le_of_ble_eq_true rfl) ?_
        refine go_aloadn (pc := 529) F dL_law_529 2 rfl ?_
        refine go_aloadn (pc := 530) F dL_law_530 0 rfl ?_
        refine go_iloadn (pc := 531) F dL_law_531 3 rfl ?_
        refine go_iconst (pc := 532) 1 F dL_law_532 (by decide) ?_
        refine go_iadd (pc := 533) F dL_law_533 ?_
        refine go_sld (pc := 534) F S dL_law_534 (lwi_in (k := 1) hL e3 h5 (by decide) rfl) ?_
        refine go_aloadn (pc := 535) F dL_law_535 0 rfl ?_
        refine go_iloadn (pc := 536) F dL_law_536 3 rfl ?_
        refine go_iconst (pc := 537) 2 F dL_law_537 (by decide) ?_
        refine go_iadd (pc := 538) F dL_law_538 ?_
        refine go_sld (pc := 539) F S dL_law_539 (lwi_in (k := 2) hL e3 h5 (by decide) rfl) ?_
        refine cv_L_65 (pc := 540) F dL_law_540 rfl (ct_X9_entry (enL E) G V (xs (x3 + 1).toNatClampNeg) (xs (x3 + 2).toNatClampNeg) r h2) (by decide) (by decide) (Nat.le_of_ble_eq_true rfl) ?_
        refine go_eqT (pc := 543) 935 F dL_law_543 (by decide) ?_
        exact hb V hI
      by_cases c12 : v = 12
      · refine go_tabI (pc := 32) 548 F dL_law_32 c12 (by decide) (by decide) rfl (by decide) ?_
        obtain ⟨r, h1, h2⟩ := hs.2.2.2.2.2.2.2.2.2.2.2.2.1 V hI (xs (x3 + 1).toNatClampNeg) (xs (x3 + 2).toNatClampNeg) (xs (x3 + 3).toNatClampNeg)
        refine go_aloadn (pc := 548) F dL_law_548 1 rfl ?_
        refine go_aloadn (pc := 549) F dL_law_549 0 rfl ?_
        refine go_iloadn (pc := 550) F dL_law_550 3 rfl ?_
        refine go_iconst (pc := 551) 1 F dL_law_551 (by decide) ?_
        refine go_iadd (pc := 552) F dL_law_552 ?_
        refine go_sld (pc := 553) F S dL_law_553 (lwi_in (k := 1) hL e3 h5 (by decide) rfl) ?_
        refine go_aloadn (pc := 554) F dL_law_554 0 rfl ?_
        refine go_iloadn (pc := 555) F dL_law_555 3 rfl ?_
        refine go_iconst (pc := 556) 2 F dL_law_556 (by decide) ?_
        refine go_iadd (pc := 557) F dL_law_557 ?_
        refine go_sld (pc := 558) F S dL_law_558 (lwi_in (k := 2) hL e3 h5 (by decide) rfl) ?_
        refine go_aloadn (pc := 559) F dL_law_559 0 rfl ?_
        refine go_iloadn (pc := 560) F dL_law_560 3 rfl ?_
        refine go_iconst (pc := 561) 3 F dL_law_561 (by decide) ?_
        refine go_iadd (pc := 562) F dL_law_562 ?_
        refine go_sld (pc := 563) F S dL_law_563 (lwi_in (k := 3) hL e3 h5 (by decide) rfl) ?_
        refine cv_L_66 (pc := 564) F dL_law_564 rfl (ct_X8_seen (enL E) G V (xs (x3 + 1).toNatClampNeg) (xs (x3 + 2).toNatClampNeg) (xs (x3 + 3).toNatClampNeg) r h1) (by decide) (by decide) (Nat.le_of_ble_eq_true rfl) ?_
        refine go_aloadn (pc := 567) F dL_law_567 2 rfl ?_
        refine go_aloadn (pc := 568) F dL_law_568 0 rfl ?_
        refine go_iloadn (pc := 569) F dL_law_569 3 rfl ?_
        refine go_iconst (pc := 570) 1 F dL_law_570 (by decide) ?_
        refine go_iadd (pc := 571) F dL_law_571 ?_
        refine go_sld (pc := 572) F S dL_law_572 (lwi_in (k := 1) hL e3 h5 (by decide) rfl) ?_
        refine go_aloadn (pc := 573) F dL_law_573 0 rfl ?_
        refine go_iloadn (pc := 574) F dL_law_574 3 rfl ?_
        refine go_iconst (pc := 575) 2 F dL_law_575 (by decide) ?_
        refine go_iadd (pc := 576) F dL_law_576 ?_
        refine go_sld (pc := 577) F S dL_law_577 (lwi_in (k := 2) hL e3 h5 (by decide) rfl) ?_
        refine go_aloadn (pc := 578) F dL_law_578 0 rfl ?_
        refine go_iloadn (pc := 579) F dL_law_579 3 rfl ?_
        refine go_iconst (pc := 580) 3 F dL_law_580 (by decide) ?_
        refine go_iadd (pc := 581) F dL_law_581 ?_
        refine go_sld (pc := 582) F S dL_law_582 (lwi_in (k := 3) hL e3 h5 (by decide) rfl) ?_
        refine cv_L_69 (pc := 583) F dL_law_583 rfl (ct_X9_seen (enL E) G V (xs (x3 + 1).toNatClampNeg) (xs (x3 + 2).toNatClampNeg) (xs (x3 + 3).toNatClampNeg) r h2) (by decide) (by decide) (Nat.le_of_ble_eq_true rfl) ?_
        refine go_eqT (pc := 586) 935 F dL_law_586 (by decide) ?_
        exact hb V hI
      by_cases c13 : v = 13
      · refine go_tabI (pc := 32) 591 F dL_law_32 c13 (by decide) (by decide) rfl (by decide) ?_
        obtain ⟨r, V1, h1, h2, hI2⟩ := hs.2.2.2.2.2.2.2.2.2.2.2.2.2.1 V hI (xs (x3 + 1).toNatClampNeg) (xs (x3 + 2).toNatClampNeg)
        refine go_aloadn (pc := 591) F dL_law_591 1 rfl ?_
        refine go_aloadn (pc := 592) F dL_law_592 0 rfl ?_
        refine go_iloadn (pc := 593) F dL_law_593 3 rfl ?_
        refine go_iconst (pc := 594) 1 F dL_law_594 (by decide) ?_
        refine go_iadd (pc := 595) F dL_law_595 ?_
        refine go_sld (pc := 596) F S dL_law_596 (lwi_in (k := 1) hL e3 h5 (by decide) rfl) ?_
        refine go_aloadn (pc := 597) F dL_law_597 0 rfl ?_
        refine go_iloadn (pc := 598) F dL_law_598 3 rfl ?_
        refine go_iconst (pc := 599) 2 F dL_law_599 (by decide) ?_
        refine go_iadd (pc := 600) F dL_law_600 ?_
        refine go_sld (pc := 601) F S dL_law_601 (lwi_in (k := 2) hL e3 h5 (by decide) rfl) ?_
        refine cv_L_70 (pc := 602) F dL_law_602 rfl (ct_X8_word (enL E) G V (xs (x3 + 1).toNatClampNeg) (xs (x3 + 2).toNatClampNeg) (r, V1) h1) (by decide) (by decide) (Nat.le_of_ble_eq_true rfl) ?_
        refine go_aloadn (pc := 605) F dL_law_605 2 rfl ?_
        refine go_aloadn (pc := 606) F dL_law_606 0 rfl ?_
        refine go_iloadn (pc := 607) F dL_law_607 3 rfl ?_
        refine go_iconst (pc := 608) 1 F dL_law_608 (by decide) ?_
        refine go_iadd (pc := 609) F dL_law_609 ?_
        refine go_sld (pc := 610) F S dL_law_610 (lwi_in (k := 1) hL e3 h5 (by decide) rfl) ?_
        refine go_aloadn (pc := 611) F dL_law_611 0 rfl ?_
        refine go_iloadn (pc := 612) F dL_law_612 3 rfl ?_
        refine go_iconst (pc := 613) 2 F dL_law_613 (by decide) ?_
        refine go_iadd (pc := 614) F dL_law_614 ?_
        refine go_sld (pc := 615) F S dL_law_615 (lwi_in (k := 2) hL e3 h5 (by decide) rfl) ?_
        refine cv_L_73 (pc := 616) F dL_law_616 rfl (ct_X9_word (enL E) G V1 (xs (x3 + 1).toNatClampNeg) (xs (x3 + 2).toNatClampNeg) r h2) (by decide) (by decide) (Nat.le_of_ble_eq_true rfl) ?_
        refine go_eqT (pc := 619) 935 F dL_law_619 (by decide) ?_
        exact hb V1 hI2
      by_cases c14 : v = 14
      · refine go_tabI (pc := 32) 624 F dL_law_32 c14 (by decide) (by decide) rfl (by decide) ?_
        obtain ⟨r, V1, h1, h2, hI2⟩ := hs.2.2.2.2.2.2.2.2.2.2.2.2.2.2.1 V hI (xs (x3 + 1).toNatClampNeg)
        refine go_aloadn (pc := 624) F dL_law_624 1 rfl ?_
        refine go_aloadn (pc := 625) F dL_law_625 0 rfl ?_
        refine go_iloadn (pc := 626) F dL_law_626 3 rfl ?_
        refine go_iconst (pc := 627) 1 F dL_law_627 (by decide) ?_
        refine go_iadd (pc := 628) F dL_law_628 ?_
        refine go_sld (pc := 629) F S dL_law_629 (lwi_in (k := 1) hL e3 h5 (by decide) rfl) ?_
        refine cv_L_74 (pc := 630) F dL_law_630 rfl (ct_X8_known (enL E) G V (xs (x3 + 1).toNatClampNeg) (r, V1) h1) (by decide) (by decide) (Nat.le_of_ble_eq_true rfl) ?_
        refine go_aloadn (pc := 633) F dL_law_633 2 rfl ?_
        refine go_aloadn (pc := 634) F dL_law_634 0 rfl ?_
        refine go_iloadn (pc := 635) F dL_law_635 3 rfl ?_
        refine go_iconst (pc := 636) 1 F dL_law_636 (by decide) ?_
        refine go_iadd (pc := 637) F dL_law_637 ?_
        refine go_sld (pc := 638) F S dL_law_638 (lwi_in (k := 1) hL e3 h5 (by decide) rfl) ?_
        refine cv_L_77 (pc := 639) F dL_law_639 rfl (ct_X9_known (enL E) G V1 (xs (x3 + 1).toNatClampNeg) r h2) (by decide) (by decide) (Nat.le_of_ble_eq_true rfl) ?_
        refine go_eqT (pc := 642) 935 F dL_law_642 (by decide) ?_
        exact hb V1 hI2
      by_cases c15 : v = 15
      · refine go_tabI (pc := 32) 647 F dL_law_32 c15 (by decide) (by decide) rfl (by decide) ?_
        obtain ⟨r, V1, h1, h2, hI2⟩ := hs.2.2.2.2.2.2.2.2.2.2.2.2.2.2.2.1 V hI
        refine go_aloadn (pc := 647) F dL_law_647 1 rfl ?_
        refine cv_L_78 (pc := 648) F dL_law_648 rfl (ct_X8_isSame (enL E) G V  (r, V1) h1) (by decide) (by decide) (Nat.le_of_ble_eq_true rfl) ?_
        refine go_aloadn (pc := 651) F dL_law_651 2 rfl ?_
        refine cv_L_81 (pc := 652) F dL_law_652 rfl (ct_X9_isSame (enL E) G V1  r h2) (by decide) (by decide) (Nat.le_of_ble_eq_true rfl) ?_
        refine go_eqT (pc := 655) 935 F dL_law_655 (by decide) ?_
        exact hb V1 hI2
      by_cases c16 : v = 16
      · refine go_tabI (pc := 32) 660 F dL_law_32 c16 (by decide) (by decide) rfl (by decide) ?_
        obtain ⟨r, V1, V2, h1, h2, hI2⟩ := hs.2.2.2.2.2.2.2.2.2.2.2.2.2.2.2.2.1 V hI (xs (x3 + 1).toNatClampNeg)
        refine go_aloadn (pc := 660) F dL_law_660 1 rfl ?_
        refine go_aloadn (pc := 661) F dL_law_661 0 rfl ?_
        refine go_iloadn (pc := 662) F dL_law_662 3 rfl ?_
        refine go_iconst (pc := 663) 1 F dL_law_663 (by decide) ?_
        refine go_iadd (pc := 664) F dL_law_664 ?_
        refine go_sld (pc := 665) F S dL_law_665 (lwi_in (k := 1) hL e3 h5 (by decide) rfl) ?_
        refine cv_L_82 (pc := 666) F dL_law_666 rfl (ct_X8_sail (enL E) G V (xs (x3 + 1).toNatClampNeg) (r, V1) h1) (by decide) (by decide) (Nat.le_of_ble_eq_true rfl) ?_
        refine go_aloadn (pc := 669) F dL_law_669 2 rfl ?_
        refine go_aloadn (pc := 670) F dL_law_670 0 rfl ?_
        refine go_iloadn (pc := 671) F dL_law_671 3 rfl ?_
        refine go_iconst (pc := 672) 1 F dL_law_672 (by decide) ?_
        refine go_iadd (pc := 673) F dL_law_673 ?_
        refine go_sld (pc := 674) F S dL_law_674 (lwi_in (k := 1) hL e3 h5 (by decide) rfl) ?_
        refine cv_L_85 (pc := 675) F dL_law_675 rfl (ct_X9_sail (enL E) G V1 (xs (x3 + 1).toNatClampNeg) (r, V2) h2) (by decide) (by decide) (Nat.le_of_ble_eq_true rfl) ?_
        refine go_eqT (pc := 678) 935 F dL_law_678 (by decide) ?_
        exact hb V2 hI2
      by_cases c17 : v = 17
      · refine go_tabI (pc := 32) 683 F dL_law_32 c17 (by decide) (by decide) rfl (by decide) ?_
        obtain ⟨r, V1, V2, h1, h2, hI2⟩ := hs.2.2.2.2.2.2.2.2.2.2.2.2.2.2.2.2.2.1 V hI
        refine go_aloadn (pc := 683) F dL_law_683 1 rfl ?_
        refine cv_L_86 (pc := 684) F dL_law_684 rfl (ct_X8_answer (enL E) G V  (r, V1) h1) (by decide) (by decide) (Nat.le_of_ble_eq_true rfl) ?_
        refine go_aloadn (pc := 687) F dL_law_687 2 rfl ?_
        refine cv_L_89 (pc := 688) F dL_law_688 rfl (ct_X9_answer (enL E) G V1  (r, V2) h2) (by decide) (by decide) (Nat.le_of_ble_eq_true rfl) ?_
        refine go_eqT (pc := 691) 935 F dL_law_691 (by decide) ?_
        exact hb V2 hI2
      by_cases c18 : v = 18
      · refine go_tabI (pc := 32) 696 F dL_law_32 c18 (by decide) (by decide) rfl (by decide) ?_
        obtain ⟨r, h1, h2⟩ := hs.2.2.2.2.2.2.2.2.2.2.2.2.2.2.2.2.2.2.1 V hI (xs (x3 + 1).toNatClampNeg) (xs (x3 + 2).toNatClampNeg)
        refine go_aloadn (pc := 696) F dL_law_696 1 rfl ?_
        refine go_aloadn (pc := 697) F dL_law_697 0 rfl ?_
        refine go_iloadn (pc := 698) F dL_law_698 3 rfl ?_
        refine go_iconst (pc := 699) 1 F dL_law_699 (by decide) ?_
        refine go_iadd (pc := 700) F dL_law_700 ?_
        refine go_sld (pc := 701) F S dL_law_701 (lwi_in (k := 1) hL e3 h5 (by decide) rfl) ?_
        refine go_aloadn (pc := 702) F dL_law_702 0 rfl ?_
        refine go_iloadn (pc := 703) F dL_law_703 3 rfl ?_
        refine go_iconst (pc := 704) 2 F dL_law_704 (by decide) ?_
        refine go_iadd (pc := 705) F dL_law_705 ?_
        refine go_sld (pc := 706) F S dL_law_706 (lwi_in (k := 2) hL e3 h5 (by decide) rfl) ?_
        refine cv_L_90 (pc := 707) F dL_law_707 rfl (ct_X8_logged (enL E) G V (xs (x3 + 1).toNatClampNeg) (xs (x3 + 2).toNatClampNeg) r h1) (by decide) (by decide) (Nat.le_of_ble_eq_true rfl) ?_
        refine go_aloadn (pc := 710) F dL_law_710 2 rfl ?_
        refine go_aloadn (pc := 711) F dL_law_711 0 rfl ?_
        refine go_iloadn (pc := 712) F dL_law_712 3 rfl ?_
        refine go_iconst (pc := 713) 1 F dL_law_713 (by decide) ?_
        refine go_iadd (pc := 714) F dL_law_714 ?_
        refine go_sld (pc := 715) F S dL_law_715 (lwi_in (k := 1) hL e3 h5 (by decide) rfl) ?_
        refine go_aloadn (pc := 716) F dL_law_716 0 rfl ?_
        refine go_iloadn (pc := 717) F dL_law_717 3 rfl ?_
        refine go_iconst (pc := 718) 2 F dL_law_718 (by decide) ?_
        refine go_iadd (pc := 719) F dL_law_719 ?_
        refine go_sld (pc := 720) F S dL_law_720 (lwi_in (k := 2) hL e3 h5 (by decide) rfl) ?_
        refine cv_L_93 (pc := 721) F dL_law_721 rfl (ct_X9_logged (enL E) G V (xs (x3 + 1).toNatClampNeg) (xs (x3 + 2).toNatClampNeg) r h2) (by decide) (by decide) (Nat.le_of_ble_eq_true rfl) ?_
        refine go_eqT (pc := 724) 935 F dL_law_724 (by decide) ?_
        exact hb V hI
      by_cases c19 : v = 19
      · refine go_tabI (pc := 32) 729 F dL_law_32 c19 (by decide) (by decide) rfl (by decide) ?_
        obtain ⟨r, h1, h2⟩ := hs.2.2.2.2.2.2.2.2.2.2.2.2.2.2.2.2.2.2.2.1 V hI (xs (x3 + 1).toNatClampNeg)
        refine go_aloadn (pc := 729) F dL_law_729 1 rfl ?_
        refine go_aloadn (pc := 730) F dL_law_730 0 rfl ?_
        refine go_iloadn (pc := 731) F dL_law_731 3 rfl ?_
        refine go_iconst (pc := 732) 1 F dL_law_732 (by decide) ?_
        refine go_iadd (pc := 733) F dL_law_733 ?_
        refine go_sld (pc := 734) F S dL_law_734 (lwi_in (k := 1) hL e3 h5 (by decide) rfl) ?_
        refine cv_L_94 (pc := 735) F dL_law_735 rfl (ct_X8_total (enL E) G V (xs (x3 + 1).toNatClampNeg) r h1) (by decide) (by decide) (Nat.le_of_ble_eq_true rfl) ?_
        refine go_aloadn (pc := 738) F dL_law_738 2 rfl ?_
        refine go_aloadn (pc := 739) F dL_law_739 0 rfl ?_
        refine go_iloadn (pc := 740) F dL_law_740 3 rfl ?_
        refine go_iconst (pc := 741) 1 F dL_law_741 (by decide) ?_
        refine go_iadd (pc := 742) F dL_law_742 ?_
        refine go_sld (pc := 743) F S dL_law_743 (lwi_in (k := 1) hL e3 h5 (by decide) rfl) ?_
        refine cv_L_97 (pc := 744) F dL_law_744 rfl (ct_X9_total (enL E) G V (xs (x3 + 1).toNatClampNeg) r h2) (by decide) (by decide) (Nat.le_of_ble_eq_true rfl) ?_
        refine go_eqT (pc := 747) 935 F dL_law_747 (by decide) ?_
        exact hb V hI
      by_cases c20 : v = 20
      · refine go_tabI (pc := 32) 752 F dL_law_32 c20 (by decide) (by decide) rfl (by decide) ?_
        obtain ⟨r, V1, V2, h1, h2, hI2⟩ := hs.2.2.2.2.2.2.2.2.2.2.2.2.2.2.2.2.2.2.2.2.1 V hI (xs (x3 + 1).toNatClampNeg)
        refine go_aloadn (pc := 752) F dL_law_752 1 rfl ?_
        refine go_aloadn (pc := 753) F dL_law_753 0 rfl ?_
        refine go_iloadn (pc := 754) F dL_law_754 3 rfl ?_
        refine go_iconst (pc := 755) 1 F dL_law_755 (by decide) ?_
        refine go_iadd (pc := 756) F dL_law_756 ?_
        refine go_sld (pc := 757) F S dL_law_757 (lwi_in (k := 1) hL e3 h5 (by decide) rfl) ?_
        refine cv_L_98 (pc := 758) F dL_law_758 rfl (ct_X8_leastWind (enL E) G V (xs (x3 + 1).toNatClampNeg) (r, V1) h1) (by decide) (by decide) (Nat.le_of_ble_eq_true rfl) ?_
        refine go_aloadn (pc := 761) F dL_law_761 2 rfl ?_
        refine go_aloadn (pc := 762) F dL_law_762 0 rfl ?_
        refine go_iloadn (pc := 763) F dL_law_763 3 rfl ?_
        refine go_iconst (pc := 764) 1 F dL_law_764 (by decide) ?_
        refine go_iadd (pc := 765) F dL_law_765 ?_
        refine go_sld (pc := 766) F S dL_law_766 (lwi_in (k := 1) hL e3 h5 (by decide) rfl) ?_
        refine cv_L_101 (pc := 767) F dL_law_767 rfl (ct_X9_leastWind (enL E) G V1 (xs (x3 + 1).toNatClampNeg) (r, V2) h2) (by decide) (by decide) (Nat.le_of_ble_eq_true rfl) ?_
        refine go_eqT (pc := 770) 935 F dL_law_770 (by decide) ?_
        exact hb V2 hI2
      by_cases c21 : v = 21
      · refine go_tabI (pc := 32) 775 F dL_law_32 c21 (by decide) (by decide) rfl (by decide) ?_
        obtain ⟨r, V1, V2, h1, h2, hI2⟩ := hs.2.2.2.2.2.2.2.2.2.2.2.2.2.2.2.2.2.2.2.2.2.1 V hI (xs (x3 + 1).toNatClampNeg)
        refine go_aloadn (pc := 775) F dL_law_775 1 rfl ?_
        refine go_aloadn (pc := 776) F dL_law_776 0 rfl ?_
        refine go_iloadn (pc := 777) F dL_law_777 3 rfl ?_
        refine go_iconst (pc := 778) 1 F dL_law_778 (by decide) ?_
        refine go_iadd (pc := 779) F dL_law_779 ?_
        refine go_sld (pc := 780) F S dL_law_780 (lwi_in (k := 1) hL e3 h5 (by decide) rfl) ?_
        refine cv_L_102 (pc := 781) F dL_law_781 rfl (ct_X8_ifTurned (enL E) G V (xs (x3 + 1).toNatClampNeg) (r, V1) h1) (by decide) (by decide) (Nat.le_of_ble_eq_true rfl) ?_
        refine go_aloadn (pc := 784) F dL_law_784 2 rfl ?_
        refine go_aloadn (pc := 785) F dL_law_785 0 rfl ?_
        refine go_iloadn (pc := 786) F dL_law_786 3 rfl ?_
        refine go_iconst (pc := 787) 1 F dL_law_787 (by decide) ?_
        refine go_iadd (pc := 788) F dL_law_788 ?_
        refine go_sld (pc := 789) F S dL_law_789 (lwi_in (k := 1) hL e3 h5 (by decide) rfl) ?_
        refine cv_L_105 (pc := 790) F dL_law_790 rfl (ct_X9_ifTurned (enL E) G V1 (xs (x3 + 1).toNatClampNeg) (r, V2) h2) (by decide) (by decide) (Nat.le_of_ble_eq_true rfl) ?_
        refine go_eqT (pc := 793) 935 F dL_law_793 (by decide) ?_
        exact hb V2 hI2
      by_cases c22 : v = 22
      · refine go_tabI (pc := 32) 798 F dL_law_32 c22 (by decide) (by decide) rfl (by decide) ?_
        obtain ⟨r, V1, V2, h1, h2, hI2⟩ := hs.2.2.2.2.2.2.2.2.2.2.2.2.2.2.2.2.2.2.2.2.2.2.1 V hI
        refine go_aloadn (pc := 798) F dL_law_798 1 rfl ?_
        refine cv_L_106 (pc := 799) F dL_law_799 rfl (ct_X8_mendingExchange (enL E) G V  (r, V1) h1) (by decide) (by decide) (Nat.le_of_ble_eq_true rfl) ?_
        refine go_aloadn (pc := 802) F dL_law_802 2 rfl ?_
        refine cv_L_109 (pc := 803) F dL_law_803 rfl (ct_X9_mendingExchange (enL E) G V1  (r, V2) h2) (by decide) (by decide) (Nat.le_of_ble_eq_true rfl) ?_
        refine go_eqT (pc := 806) 935 F dL_law_806 (by decide) ?_
        exact hb V2 hI2
      by_cases c23 : v = 23
      · refine go_tabI (pc := 32) 811 F dL_law_32 c23 (by decide) (by decide) rfl (by decide) ?_
        obtain ⟨r, h1, h2⟩ := hs.2.2.2.2.2.2.2.2.2.2.2.2.2.2.2.2.2.2.2.2.2.2.2.1 V hI (xs (x3 + 1).toNatClampNeg)
        refine go_aloadn (pc := 811) F dL_law_811 1 rfl ?_
        refine go_aloadn (pc := 812) F dL_law_812 0 rfl ?_
        refine go_iloadn (pc := 813) F dL_law_813 3 rfl ?_
        refine go_iconst (pc := 814) 1 F dL_law_814 (by decide) ?_
        refine go_iadd (pc := 815) F dL_law_815 ?_
        refine go_sld (pc := 816) F S dL_law_816 (lwi_in (k := 1) hL e3 h5 (by decide) rfl) ?_
        refine cv_L_110 (pc := 817) F dL_law_817 rfl (ct_X8_bestEntry (enL E) G V (xs (x3 + 1).toNatClampNeg) r h1) (by decide) (by decide) (Nat.le_of_ble_eq_true rfl) ?_
        refine go_aloadn (pc := 820) F dL_law_820 2 rfl ?_
        refine go_aloadn (pc := 821) F dL_law_821 0 rfl ?_
        refine go_iloadn (pc := 822) F dL_law_822 3 rfl ?_
        refine go_iconst (pc := 823) 1 F dL_law_823 (by decide) ?_
        refine go_iadd (pc := 824) F dL_law_824 ?_
        refine go_sld (pc := 825) F S dL_law_825 (lwi_in (k := 1) hL e3 h5 (by decide) rfl) ?_
        refine cv_L_113 (pc := 826) F dL_law_826 rfl (ct_X9_bestEntry (enL E) G V (xs (x3 + 1).toNatClampNeg) r h2) (by decide) (by decide) (Nat.le_of_ble_eq_true rfl) ?_
        refine go_eqT (pc := 829) 935 F dL_law_829 (by decide) ?_
        exact hb V hI
      by_cases c24 : v = 24
      · refine go_tabI (pc := 32) 834 F dL_law_32 c24 (by decide) (by decide) rfl (by decide) ?_
        obtain ⟨r, V1, V2, h1, h2, hI2⟩ := hs.2.2.2.2.2.2.2.2.2.2.2.2.2.2.2.2.2.2.2.2.2.2.2.2.1 V hI (xs (x3 + 1).toNatClampNeg)
        refine go_aloadn (pc := 834) F dL_law_834 1 rfl ?_
        refine go_aloadn (pc := 835) F dL_law_835 0 rfl ?_
        refine go_iloadn (pc := 836) F dL_law_836 3 rfl ?_
        refine go_iconst (pc := 837) 1 F dL_law_837 (by decide) ?_
        refine go_iadd (pc := 838) F dL_law_838 ?_
        refine go_sld (pc := 839) F S dL_law_839 (lwi_in (k := 1) hL e3 h5 (by decide) rfl) ?_
        refine cv_L_114 (pc := 840) F dL_law_840 rfl (ct_X8_append (enL E) G V (xs (x3 + 1).toNatClampNeg) (r, V1) h1) (by decide) (by decide) (Nat.le_of_ble_eq_true rfl) ?_
        refine go_aloadn (pc := 843) F dL_law_843 2 rfl ?_
        refine go_aloadn (pc := 844) F dL_law_844 0 rfl ?_
        refine go_iloadn (pc := 845) F dL_law_845 3 rfl ?_
        refine go_iconst (pc := 846) 1 F dL_law_846 (by decide) ?_
        refine go_iadd (pc := 847) F dL_law_847 ?_
        refine go_sld (pc := 848) F S dL_law_848 (lwi_in (k := 1) hL e3 h5 (by decide) rfl) ?_
        refine cv_L_117 (pc := 849) F dL_law_849 rfl (ct_X9_append (enL E) G V1 (xs (x3 + 1).toNatClampNeg) (r, V2) h2) (by decide) (by decide) (Nat.le_of_ble_eq_true rfl) ?_
        refine go_eqT (pc := 852) 935 F dL_law_852 (by decide) ?_
        exact hb V2 hI2
      by_cases c25 : v = 25
      · refine go_tabI (pc := 32) 857 F dL_law_32 c25 (by decide) (by decide) rfl (by decide) ?_
        obtain ⟨r, V1, V2, h1, h2, hI2⟩ := hs.2.2.2.2.2.2.2.2.2.2.2.2.2.2.2.2.2.2.2.2.2.2.2.2.2.1 V hI
        refine go_aloadn (pc := 857) F dL_law_857 1 rfl ?_
        refine cv_L_118 (pc := 858) F dL_law_858 rfl (ct_X8_clearText (enL E) G V  (r, V1) h1) (by decide) (by decide) (Nat.le_of_ble_eq_true rfl) ?_
        refine go_aloadn (pc := 861) F dL_law_861 2 rfl ?_
        refine cv_L_121 (pc := 862) F dL_law_862 rfl (ct_X9_clearText (enL E) G V1  (r, V2) h2) (by decide) (by decide) (Nat.le_of_ble_eq_true rfl) ?_
        refine go_eqT (pc := 865) 935 F dL_law_865 (by decide) ?_
        exact hb V2 hI2
      by_cases c26 : v = 26
      · refine go_tabI (pc := 32) 870 F dL_law_32 c26 (by decide) (by decide) rfl (by decide) ?_
        obtain ⟨r, V1, V2, h1, h2, hI2⟩ := hs.2.2.2.2.2.2.2.2.2.2.2.2.2.2.2.2.2.2.2.2.2.2.2.2.2.2.1 V hI
        refine go_aloadn (pc := 870) F dL_law_870 1 rfl ?_
        refine cv_L_122 (pc := 871) F dL_law_871 rfl (ct_X8_errorPosition (enL E) G V  (r, V1) h1) (by decide) (by decide) (Nat.le_of_ble_eq_true rfl) ?_
        refine go_aloadn (pc := 874) F dL_law_874 2 rfl ?_
        refine cv_L_125 (pc := 875) F dL_law_875 rfl (ct_X9_errorPosition (enL E) G V1  (r, V2) h2) (by decide) (by decide) (Nat.le_of_ble_eq_true rfl) ?_
        refine go_eqT (pc := 878) 935 F dL_law_878 (by decide) ?_
        exact hb V2 hI2
      by_cases c27 : v = 27
      · refine go_tabI (pc := 32) 883 F dL_law_32 c27 (by decide) (by decide) rfl (by decide) ?_
        obtain ⟨r, V1, V2, h1, h2, hI2⟩ := hs.2.2.2.2.2.2.2.2.2.2.2.2.2.2.2.2.2.2.2.2.2.2.2.2.2.2.2.1 V hI
        refine go_aloadn (pc := 883) F dL_law_883 1 rfl ?_
        refine cv_L_126 (pc := 884) F dL_law_884 rfl (ct_X8_hoist (enL E) G V  (r, V1) h1) (by decide) (by decide) (Nat.le_of_ble_eq_true rfl) ?_
        refine go_aloadn (pc := 887) F dL_law_887 2 rfl ?_
        refine cv_L_129 (pc := 888) F dL_law_888 rfl (ct_X9_hoist (enL E) G V1  (r, V2) h2) (by decide) (by decide) (Nat.le_of_ble_eq_true rfl) ?_
        refine go_eqT (pc := 891) 935 F dL_law_891 (by decide) ?_
        exact hb V2 hI2
      by_cases c28 : v = 28
      · refine go_tabI (pc := 32) 896 F dL_law_32 c28 (by decide) (by decide) rfl (by decide) ?_
        obtain ⟨r, V1, V2, h1, h2, hI2⟩ := hs.2.2.2.2.2.2.2.2.2.2.2.2.2.2.2.2.2.2.2.2.2.2.2.2.2.2.2.2.1 V hI
        refine go_aloadn (pc := 896) F dL_law_896 1 rfl ?_
        refine cv_L_130 (pc := 897) F dL_law_897 rfl (ct_X8_undo (enL E) G V  (r, V1) h1) (by decide) (by decide) (Nat.le_of_ble_eq_true rfl) ?_
        refine go_aloadn (pc := 900) F dL_law_900 2 rfl ?_
        refine cv_L_133 (pc := 901) F dL_law_901 rfl (ct_X9_undo (enL E) G V1  (r, V2) h2) (by decide) (by decide) (Nat.le_of_ble_eq_true rfl) ?_
        refine go_eqT (pc := 904) 935 F dL_law_904 (by decide) ?_
        exact hb V2 hI2
      by_cases c29 : v = 29
      · refine go_tabI (pc := 32) 909 F dL_law_32 c29 (by decide) (by decide) rfl (by decide) ?_
        obtain ⟨r, V1, V2, h1, h2, hI2⟩ := hs.2.2.2.2.2.2.2.2.2.2.2.2.2.2.2.2.2.2.2.2.2.2.2.2.2.2.2.2.2.1 V hI
        refine go_aloadn (pc := 909) F dL_law_909 1 rfl ?_
        refine cv_L_134 (pc := 910) F dL_law_910 rfl (ct_X8_save (enL E) G V  (r, V1) h1) (by decide) (by decide) (Nat.le_of_ble_eq_true rfl) ?_
        refine go_aloadn (pc := 913) F dL_law_913 2 rfl ?_
        refine cv_L_137 (pc := 914) F dL_law_914 rfl (ct_X9_save (enL E) G V1  (r, V2) h2) (by decide) (by decide) (Nat.le_of_ble_eq_true rfl) ?_
        refine go_eqT (pc := 917) 935 F dL_law_917 (by decide) ?_
        exact hb V2 hI2
      by_cases c30 : v = 30
      · refine go_tabI (pc := 32) 922 F dL_law_32 c30 (by decide) (by decide) rfl (by decide) ?_
        obtain ⟨r, V1, V2, h1, h2, hI2⟩ := hs.2.2.2.2.2.2.2.2.2.2.2.2.2.2.2.2.2.2.2.2.2.2.2.2.2.2.2.2.2.2 V hI
        refine go_aloadn (pc := 922) F dL_law_922 1 rfl ?_
        refine cv_L_138 (pc := 923) F dL_law_923 rfl (ct_X8_restore (enL E) G V  (r, V1) h1) (by decide) (by decide) (Nat.le_of_ble_eq_true rfl) ?_
        refine go_aloadn (pc := 926) F dL_law_926 2 rfl ?_
        refine cv_L_141 (pc := 927) F dL_law_927 rfl (ct_X9_restore (enL E) G V1  (r, V2) h2) (by decide) (by decide) (Nat.le_of_ble_eq_true rfl) ?_
        refine go_eqT (pc := 930) 935 F dL_law_930 (by decide) ?_
        exact hb V2 hI2
      refine go_tabO (pc := 32) 935 F dL_law_32 (tab_o 31 (by decide) (by decide) (fun j hj => by rcases (show j = 0 ∨ j = 1 ∨ j = 2 ∨ j = 3 ∨ j = 4 ∨ j = 5 ∨ j = 6 ∨ j = 7 ∨ j = 8 ∨ j = 9 ∨ j = 10 ∨ j = 11 ∨ j = 12 ∨ j = 13 ∨ j = 14 ∨ j = 15 ∨ j = 16 ∨ j = 17 ∨ j = 18 ∨ j = 19 ∨ j = 20 ∨ j = 21 ∨ j = 22 ∨ j = 23 ∨ j = 24 ∨ j = 25 ∨ j = 26 ∨ j = 27 ∨ j = 28 ∨ j = 29 ∨ j = 30 by omega) with rfl | rfl | rfl | rfl | rfl | rfl | rfl | rfl | rfl | rfl | rfl | rfl | rfl | rfl | rfl | rfl | rfl | rfl | rfl | rfl | rfl | rfl | rfl | rfl | rfl | rfl | rfl | rfl | rfl | rfl | rfl <;> first | exact c0 | exact c1 | exact c2 | exact c3 | exact c4 | exact c5 | exact c6 | exact c7 | exact c8 | exact c9 | exact c10 | exact c11 | exact c12 | exact c13 | exact c14 | exact c15 | exact c16 | exact c17 | exact c18 | exact c19 | exact c20 | exact c21 | exact c22 | exact c23 | exact c24 | exact c25 | exact c26 | exact c27 | exact c28 | exact c29 | exact c30)) (by decide) ?_
      exact hb V hI

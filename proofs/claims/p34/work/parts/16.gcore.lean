theorem cw_Obj : Cond.code objectInit ⟨#[0xb1]⟩ 1 none ∈ bw := bw_of 24 (by decide +kernel) (by decide +kernel)
/-! Constructors: a world that grows, a list of cells. -/
def Kc (G : Gm) (U : State) : Prop := Kn G U ∧ va_AO "MastFlags$State" U
theorem Kc.warm {G : Gm} {s U : State} (hW : s.WarmedH U.vm) (h : Kc G s) : Kc G U := ⟨h.1.warm hW, va_AO.moved hW.alike h.2⟩
theorem Kc.same {G : Gm} {s U : State} (e : s.vm = U.vm) (h : Kc G s) : Kc G U := ⟨h.1.same e, va_AO.moved (by rw [e]; exact Vm.Alike.refl U.vm) h.2⟩
def Pc_ (G : Gm) (av : List Value) (ws : va_W) : Array Value → State → Prop := fun v U => v = av.toArray ∧ va_P G.2.1 vwCl ws U.heap ∧ Kc G U ∧ va_D (fun _ => True) ws
theorem Pc_.blind {G : Gm} {av : List Value} {ws : va_W} : FrameBlind (Pc_ G av ws) := fun a U g mk h => ⟨h.1, h.2.1, Kc.same (s := U) rfl h.2.2.1, h.2.2.2⟩
def Qc_ (G : Gm) (ws : va_W) (w1 : (Nat → Nat) → va_W) : Array Value → State → Outcome → State → Prop := fun _ st o t => o = .returned none ∧ (∃ q : Nat → Nat, va_P G.2.1 vwCl (w1 q) t.heap ∧ va_D (va_A ws st.heap.size) (w1 q)) ∧ va_F (va_A ws st.heap.size) st t
/-- a constructor's contract: from the cells ws it comes to the cells w1 q, for some addresses q of the new ones -/
def Cc (l : Launch) (G : Gm) (y : MethodName) (b : ByteArray) (n : Nat) (fr lo mc ms : Nat) (av : List Value) (ws : va_W) (w1 : (Nat → Nat) → va_W) : Prop :=
  ∀ sz : Nat, Met l y (.code y b n none :: bw) { frames := fr, cells := mc, slots := ms, locals := lo } (fun v U => Pc_ G av ws v U ∧ U.heap.size = sz) (Qc_ G ws w1) mc ms (va_A ws sz)
def Fc (E : En) (G : Gm) (A : Nat → Prop) (own : String) (cc : ByteArray) (nL : Nat) (fr lo KC KS : Nat) : Prop :=
  match E with
  | (p, _, _, R, s, m, args, _, meth, c) => p.tables.exec = Jvm.exec ∧ c.code = cc ∧ c.maxLocals = nL ∧ s.vm.findClass own = some m.cls ∧ (∀ w ∈ bw, w.before args s = true) ∧ meth.locks = false ∧ Kc G s ∧ (∀ q, s.heap.size ≤ q → A q) ∧ fr ≤ R.frames ∧ lo ≤ R.locals ∧ KC ≤ R.cells ∧ KS ≤ R.slots
def Fi (E : En) : Prop := match E with
  | (_, _, _, _, _, _, _, _, meth, _) => meth.name = "<init>" ∧ meth.sig.returnType = none
def Gc (E : En) (G : Gm) (A : Nat → Prop) (kc ks : Nat) (Q : State → Prop) (nL : Nat) (ws : va_W) (pc : Nat) (lv : List (Nat × Value)) (st : List Value) : Prop :=
  match E with
  | (p, l, e, R, s, m, args, below, meth, c) => ∀ (H : Heap) (locs : List Loc) (ls : Array Slot), va_P G.2.1 vwCl ws H → va_D A ws → va_S A s.heap H locs → lv_has ls nL lv → W p l e R s m args below meth c H locs kc ks Q (F0 m pc ls st)
def MQc (E : En) (G : Gm) (ws : va_W) (w1 : (Nat → Nat) → va_W) (mc ms : Nat) : State → Prop :=
  match E with
  | (_, _, _, _, s, _, args, below, _, _) => MQ below (Qc_ G ws w1) args s mc ms (va_A ws s.heap.size)
def Ac (E : En) (ws : va_W) : Nat → Prop := match E with
  | (_, _, _, _, s, _, _, _, _, _) => va_A ws s.heap.size
section GC
variable {E : En} {G : Gm} {A : Nat → Prop} {own : String} {cc : ByteArray} {nL fr lo KC KS kc ks : Nat} {Q : State → Prop} {ws : va_W} {pc : Nat} {lv : List (Nat × Value)} {st : List Value}
theorem Cc.of {l : Launch} {y : MethodName} {own : String} {b : ByteArray} {n : Nat} {fr lo mc ms : Nat} {av : List Value} {ws : va_W} {w1 : (Nat → Nat) → va_W} (hy : plainName y.cls = true) (hown : y.cls = own) (hname : y.name = "<init>") (hlv : (lg_sl av).length ≤ n)
    (body : ∀ E : En, Fc E G (Ac E ws) own b n fr lo mc ms → Fi E → enL E = l → Gc E G (Ac E ws) 0 0 (MQc E G ws w1 mc ms) n ws 0 (lv_args 0 av) []) : Cc l G y b n fr lo mc ms av ws w1 := by
  intro sz
  refine Met.ofW (cc := b) (maxL := n) (ret := none) hy rfl ?_
  intro p e s m args below meth c s₁ B hml hv
  obtain ⟨⟨rfl, hP, hK, hD⟩, rfl⟩ := hv
  have hts := atoms_spec (ws := .code y b n none :: bw) B.pre
  have hl := lv_entry av (n := n) hlv
  rw [lg_entry_eq]
  have hin : meth.name = "<init>" := by rw [← hname]; exact (name_of_methodNamed B.named B.method).1
  refine body (p, l, e, (headSpec (.code y b n none :: bw) { frames := fr, cells := mc, slots := ms, locals := lo }).room, s, m, av.toArray, below, meth, c) ⟨B.exec, B.bytes, hml, ?_, fun w hw => hts w (List.mem_cons_of_mem _ hw), B.notSynchronized, hK, fun q h => Or.inr h, Nat.le_refl _, Nat.le_refl _, Nat.le_refl _, Nat.le_refl _⟩ ⟨hin, B.returns⟩ rfl s.heap [] _ hP hD.self va_S.rf hl
  rw [← hown]
  exact findClass_of_methodNamed B.named
theorem gc_sub {lv' : List (Nat × Value)} (ps : List Nat) (hp : lv_pick lv ps = lv') (kk : Gc E G A kc ks Q nL ws pc lv' st) : Gc E G A kc ks Q nL ws pc lv st := by
  obtain ⟨p, l, e, R, s, m, args, below, meth, c⟩ := E
  intro H locs ls hP hD hS hl
  exact kk H locs ls hP hD hS (lv_sub hl ps hp)
theorem gc_iloadn {k : Fin 4} {x : Int32} (F : Fc E G A own cc nL fr lo KC KS) (hd : decode cc pc = .ok (.iload_n k, 1)) (i : Nat) (hl : lv[i]? = some (k.val, .int x)) (kk : Gc E G A kc ks Q nL ws (pc + 1) lv (.int x :: st)) : Gc E G A kc ks Q nL ws pc lv st := by
  obtain ⟨p, l, e, R, s, m, args, below, meth, c⟩ := E
  intro H locs ls hP hD hS hv
  exact lv_iload_n F.1 F.2.1 hd rfl (lv_at hv i hl) (kk H locs ls hP hD hS hv)
theorem gc_aloadn {k : Fin 4} {x : Nat} (F : Fc E G A own cc nL fr lo KC KS) (hd : decode cc pc = .ok (.aload_n k, 1)) (i : Nat) (hl : lv[i]? = some (k.val, .ref x)) (kk : Gc E G A kc ks Q nL ws (pc + 1) lv (.ref x :: st)) : Gc E G A kc ks Q nL ws pc lv st := by
  obtain ⟨p, l, e, R, s, m, args, below, meth, c⟩ := E
  intro H locs ls hP hD hS hv
  exact lv_aload_n F.1 F.2.1 hd rfl (lv_at hv i hl) (kk H locs ls hP hD hS hv)
theorem gc_istoren {k : Fin 4} {x : Int32} {lv' : List (Nat × Value)} (F : Fc E G A own cc nL fr lo KC KS) (hd : decode cc pc = .ok (.istore_n k, 1)) (hn : k.val < nL) (hl : (k.val, Value.int x) :: lv.filter (fun q => !(q.1 == k.val) && !(q.1 + 1 == k.val && q.2.category == 2)) = lv') (kk : Gc E G A kc ks Q nL ws (pc + 1) lv' st) : Gc E G A kc ks Q nL ws pc lv (.int x :: st) := by
  obtain ⟨p, l, e, R, s, m, args, below, meth, c⟩ := E
  intro H locs ls hP hD hS hv
  exact lv_istore_n F.1 F.2.1 hd rfl hv hn hl (fun ls' hv' => kk H locs ls' hP hD hS hv')
theorem gc_astoren {k : Fin 4} {x : Nat} {lv' : List (Nat × Value)} (F : Fc E G A own cc nL fr lo KC KS) (hd : decode cc pc = .ok (.astore_n k, 1)) (hn : k.val < nL) (hl : (k.val, Value.ref x) :: lv.filter (fun q => !(q.1 == k.val) && !(q.1 + 1 == k.val && q.2.category == 2)) = lv') (kk : Gc E G A kc ks Q nL ws (pc + 1) lv' st) : Gc E G A kc ks Q nL ws pc lv (.ref x :: st) := by
  obtain ⟨p, l, e, R, s, m, args, below, meth, c⟩ := E
  intro H locs ls hP hD hS hv
  exact lv_astore_n F.1 F.2.1 hd rfl hv hn hl (fun ls' hv' => kk H locs ls' hP hD hS hv')
theorem gc_astore {k : Nat} {x : Nat} {lv' : List (Nat × Value)} (F : Fc E G A own cc nL fr lo KC KS) (hd : decode cc pc = .ok (.astore k, 2)) (hn : k < nL) (hl : (k, Value.ref x) :: lv.filter (fun q => !(q.1 == k) && !(q.1 + 1 == k && q.2.category == 2)) = lv') (kk : Gc E G A kc ks Q nL ws (pc + 2) lv' st) : Gc E G A kc ks Q nL ws pc lv (.ref x :: st) := by
  obtain ⟨p, l, e, R, s, m, args, below, meth, c⟩ := E
  intro H locs ls hP hD hS hv
  exact lv_astore F.1 F.2.1 hd hv hn hl (fun ls' hv' => kk H locs ls' hP hD hS hv')
theorem gc_iinc {i k : Nat} {n : Int} {x : Int32} (v : Int32) {lv' : List (Nat × Value)} (F : Fc E G A own cc nL fr lo KC KS) (hd : decode cc pc = .ok (.iinc i n, 3)) (hk : lv[k]? = some (i, .int x)) (hv : x + Int32.ofInt n = v) (hn : i < nL) (hl : (i, Value.int v) :: lv.filter (fun q => !(q.1 == i) && !(q.1 + 1 == i && q.2.category == 2)) = lv') (kk : Gc E G A kc ks Q nL ws (pc + 3) lv' st) : Gc E G A kc ks Q nL ws pc lv st := by
  obtain ⟨p, l, e, R, s, m, args, below, meth, c⟩ := E
  intro H locs ls hP hD hS hh
  exact lv_iinc F.1 F.2.1 hd hh hk hv hn hl (fun ls' hv' => kk H locs ls' hP hD hS hv')
theorem gc_iconst {n : Int} (v : Int32) (F : Fc E G A own cc nL fr lo KC KS) (hd : decode cc pc = .ok (.iconst n, 1)) (hv : Int32.ofInt n = v) (kk : Gc E G A kc ks Q nL ws (pc + 1) lv (.int v :: st)) : Gc E G A kc ks Q nL ws pc lv st := by
  obtain ⟨p, l, e, R, s, m, args, below, meth, c⟩ := E
  intro H locs ls hP hD hS hh
  exact lv_iconst F.1 F.2.1 hd hv (kk H locs ls hP hD hS hh)
theorem gc_bipush {n : Int} (v : Int32) (F : Fc E G A own cc nL fr lo KC KS) (hd : decode cc pc = .ok (.bipush n, 2)) (hv : (Int8.ofInt n).toInt32 = v) (kk : Gc E G A kc ks Q nL ws (pc + 2) lv (.int v :: st)) : Gc E G A kc ks Q nL ws pc lv st := by
  obtain ⟨p, l, e, R, s, m, args, below, meth, c⟩ := E
  intro H locs ls hP hD hS hh
  exact lv_bipush F.1 F.2.1 hd hv (kk H locs ls hP hD hS hh)
theorem gc_sipush {n : Int} (v : Int32) (F : Fc E G A own cc nL fr lo KC KS) (hd : decode cc pc = .ok (.sipush n, 3)) (hv : (Int16.ofInt n).toInt32 = v) (kk : Gc E G A kc ks Q nL ws (pc + 3) lv (.int v :: st)) : Gc E G A kc ks Q nL ws pc lv st := by
  obtain ⟨p, l, e, R, s, m, args, below, meth, c⟩ := E
  intro H locs ls hP hD hS hh
  exact lv_sipush F.1 F.2.1 hd hv (kk H locs ls hP hD hS hh)
theorem gc_iadd {x y : Int32} (F : Fc E G A own cc nL fr lo KC KS) (hd : decode cc pc = .ok (.iadd, 1)) (kk : Gc E G A kc ks Q nL ws (pc + 1) lv (.int (x + y) :: st)) : Gc E G A kc ks Q nL ws pc lv (.int y :: .int x :: st) := by
  obtain ⟨p, l, e, R, s, m, args, below, meth, c⟩ := E
  intro H locs ls hP hD hS hh
  exact lv_iadd F.1 F.2.1 hd (kk H locs ls hP hD hS hh)
theorem gc_isub {x y : Int32} (F : Fc E G A own cc nL fr lo KC KS) (hd : decode cc pc = .ok (.isub, 1)) (kk : Gc E G A kc ks Q nL ws (pc + 1) lv (.int (x - y) :: st)) : Gc E G A kc ks Q nL ws pc lv (.int y :: .int x :: st) := by
  obtain ⟨p, l, e, R, s, m, args, below, meth, c⟩ := E
  intro H locs ls hP hD hS hh
  exact lv_isub F.1 F.2.1 hd (kk H locs ls hP hD hS hh)
theorem gc_imul {x y : Int32} (F : Fc E G A own cc nL fr lo KC KS) (hd : decode cc pc = .ok (.imul, 1)) (kk : Gc E G A kc ks Q nL ws (pc + 1) lv (.int (x * y) :: st)) : Gc E G A kc ks Q nL ws pc lv (.int y :: .int x :: st) := by
  obtain ⟨p, l, e, R, s, m, args, below, meth, c⟩ := E
  intro H locs ls hP hD hS hh
  exact lv_imul F.1 F.2.1 hd (kk H locs ls hP hD hS hh)
theorem gc_idiv {x y : Int32} (F : Fc E G A own cc nL fr lo KC KS) (hd : decode cc pc = .ok (.idiv, 1)) (hy : ¬ y = 0) (kk : Gc E G A kc ks Q nL ws (pc + 1) lv (.int (x / y) :: st)) : Gc E G A kc ks Q nL ws pc lv (.int y :: .int x :: st) := by
  obtain ⟨p, l, e, R, s, m, args, below, meth, c⟩ := E
  intro H locs ls hP hD hS hh
  exact lv_idiv F.1 F.2.1 hd hy (kk H locs ls hP hD hS hh)
theorem gc_irem {x y : Int32} (F : Fc E G A own cc nL fr lo KC KS) (hd : decode cc pc = .ok (.irem, 1)) (hy : ¬ y = 0) (kk : Gc E G A kc ks Q nL ws (pc + 1) lv (.int (x - x / y * y) :: st)) : Gc E G A kc ks Q nL ws pc lv (.int y :: .int x :: st) := by
  obtain ⟨p, l, e, R, s, m, args, below, meth, c⟩ := E
  intro H locs ls hP hD hS hh
  exact lv_irem F.1 F.2.1 hd hy (kk H locs ls hP hD hS hh)
theorem gc_dup {a : Value} (F : Fc E G A own cc nL fr lo KC KS) (hd : decode cc pc = .ok (.dup, 1)) (ha : a.category = 1) (kk : Gc E G A kc ks Q nL ws (pc + 1) lv (a :: a :: st)) : Gc E G A kc ks Q nL ws pc lv (a :: st) := by
  obtain ⟨p, l, e, R, s, m, args, below, meth, c⟩ := E
  intro H locs ls hP hD hS hh
  exact lv_dup F.1 F.2.1 hd ha (kk H locs ls hP hD hS hh)
theorem gc_goto {off : Int} (tgt : Nat) (F : Fc E G A own cc nL fr lo KC KS) (hd : decode cc pc = .ok (.goto off, 3)) (ht : (pc : Int) + off = (tgt : Int)) (kk : Gc E G A kc ks Q nL ws tgt lv st) : Gc E G A kc ks Q nL ws pc lv st := by
  obtain ⟨p, l, e, R, s, m, args, below, meth, c⟩ := E
  intro H locs ls hP hD hS hh
  exact lv_goto F.1 F.2.1 hd ht (kk H locs ls hP hD hS hh)
theorem gc_icmp_ge {x y : Int32} {off : Int} (tgt : Nat) (F : Fc E G A own cc nL fr lo KC KS) (hd : decode cc pc = .ok (.if_icmp .ge off, 3)) (ht : (pc : Int) + off = (tgt : Int)) (hc : y ≤ x) (kk : Gc E G A kc ks Q nL ws tgt lv st) : Gc E G A kc ks Q nL ws pc lv (.int y :: .int x :: st) := by
  obtain ⟨p, l, e, R, s, m, args, below, meth, c⟩ := E
  intro H locs ls hP hD hS hh
  exact lv_icmp_ge F.1 F.2.1 hd ht (fun _ => kk H locs ls hP hD hS hh) (fun q => absurd hc q)
theorem gc_icmp_geF {x y : Int32} {off : Int} (tgt : Nat) (F : Fc E G A own cc nL fr lo KC KS) (hd : decode cc pc = .ok (.if_icmp .ge off, 3)) (ht : (pc : Int) + off = (tgt : Int)) (hc : ¬ y ≤ x) (kk : Gc E G A kc ks Q nL ws (pc + 3) lv st) : Gc E G A kc ks Q nL ws pc lv (.int y :: .int x :: st) := by
  obtain ⟨p, l, e, R, s, m, args, below, meth, c⟩ := E
  intro H locs ls hP hD hS hh
  exact lv_icmp_ge F.1 F.2.1 hd ht (fun q => absurd q hc) (fun _ => kk H locs ls hP hD hS hh)
theorem gc_norm {x : Int32} (y : Int32) (e : x = y) (kk : Gc E G A kc ks Q nL ws pc lv (.int y :: st)) : Gc E G A kc ks Q nL ws pc lv (.int x :: st) := by rw [e]; exact kk
theorem gc_obj {idx a : Nat} (F : Fc E G A own cc nL fr lo KC KS) (hd : decode cc pc = .ok (.invokespecial idx, 3)) (hlink : Cond.methodLink own idx objectInit ∈ bw) (hfr : 1 ≤ fr) (hlo : (st.map fun v => v.category).sum + 12 ≤ lo) (kk : Gc E G A kc ks Q nL ws (pc + 3) lv st) : Gc E G A kc ks Q nL ws pc lv (.ref a :: st) := by
  obtain ⟨p, l, e, R, s, m, args, below, meth, c⟩ := E
  intro H locs ls hP hD hS hh
  obtain ⟨hx, hb, hml, hown, hts, hlk, hK, hA, r1, r2, r3, r4⟩ := F
  refine W.objInit hx hb hown (hts _ hlink) (hts _ im_objectInit) (hts _ cw_Obj) rfl (by rw [hml]; exact hh.1) rfl hd (Nat.le_trans hfr r1) ?_ (kk H locs ls hP hD hS hh)
  show 2 * 0 + _ + 12 ≤ R.locals
  omega
theorem gc_new {C : String} {T : u_T} {N ci index : Nat} (F : Fc E G A own cc nL fr lo KC KS) (hd : decode cc pc = .ok (.new index, 3)) (hc : vwCl[ci]? = some (C, T, N)) (hin : ∀ w ∈ u_ws C T N, w ∈ bw) (ty : Nat → FieldType) (hty : ∀ k, k < N → parseFieldDescriptor (T k).2.2.1 = some (ty k)) (hcl : Cond.classLink own index C ∈ bw) (hinst : Cond.instantiable C N ∈ bw) (hini : Cond.initialized C ∈ bw) {fs : List Value} (hfs : ∀ j, j < N → defaultValue (ty j) = vp_V fs j) (h1 : kc + 1 ≤ KC) (h2 : ks + N ≤ KS)
    (kk : ∀ q : Nat, Gc E G A (kc + 1) (ks + N) Q nL (ws ++ [(q, .inr (ci, fs))]) (pc + 3) lv (.ref q :: st)) : Gc E G A kc ks Q nL ws pc lv st := by
  obtain ⟨p, l, e, R, s, m, args, below, meth, c⟩ := E
  intro H locs ls hP hD hS hh
  obtain ⟨hx, hb, hml, hown, hts, hlk, hK, hA, r1, r2, r3, r4⟩ := F
  exact va_new (tys := tysG G) hx hb hts hin ty hty hown (hts _ hcl) (hts _ hinst) (hts _ hini) hK.1.1 hP hD hS hA hc hfs (Nat.le_trans h1 r3) (Nat.le_trans h2 r4) hd (fun q H1 hP hD hS => kk q H1 locs ls hP hD hS hh)
theorem Kn_int {G : Gm} {s : State} (h : Kn G s) : s.vm.findClass "[I" = some G.2.2.1 := va_nm_int (h.1.2 0 _ rfl).2
theorem Kn_st {G : Gm} {s : State} (h : Kn G s) : s.vm.findClass ("[" ++ (FieldType.object "MastFlags$State").toString) = some G.2.2.2.2 := va_nmO (h.1.2 1 _ rfl).2 rfl
theorem gc_newi {n : Int32} (N : Nat) (F : Fc E G A own cc nL fr lo KC KS) (hd : decode cc pc = .ok (.newarray .int, 2)) (hn : ¬ n < 0) (hN : n.toNatClampNeg = N) (hby : N * 4 ≤ 536870912) (h1 : kc + 1 ≤ KC) (h2 : ks + N ≤ KS)
    (kk : ∀ q : Nat, Gc E G A (kc + 1) (ks + N) Q nL (ws ++ [(q, .inl (G.2.2.1, (N, .inl (fun _ => 0))))]) (pc + 2) lv (.ref q :: st)) : Gc E G A kc ks Q nL ws pc lv (.int n :: st) := by
  obtain ⟨p, l, e, R, s, m, args, below, meth, c⟩ := E
  intro H locs ls hP hD hS hh
  obtain ⟨hx, hb, hml, hown, hts, hlk, hK, hA, r1, r2, r3, r4⟩ := F
  refine va_newa (atype := .int) (ty := .int) (tys := tysG G) (N' := N) (a0 := (N, .inl (fun _ => 0))) hx hb (hts _ ac_int) rfl hK.1.1 hP hD hS hA (fun _ => rfl) hn hN hby (Nat.le_trans h1 r3) (Nat.le_trans h2 r4) hd (fun q cA H1 hK1 hP hD hS => ?_)
  have e1 := va_nm_int (hK1.2 2 (cA, .int) rfl).2
  have e2 := Kn_int hK.1
  have e3 : cA = G.2.2.1 := Option.some.inj (e1.symm.trans e2)
  rw [e3] at hP hD
  exact kk q H1 locs ls hP hD hS hh
theorem gc_newq {n : Int32} {index : Nat} (N : Nat) (F : Fc E G A own cc nL fr lo KC KS) (hd : decode cc pc = .ok (.anewarray index, 3)) (hcl : Cond.classLink own index "MastFlags$State" ∈ bw) (hn : ¬ n < 0) (hN : n.toNatClampNeg = N) (hby : N * 4 ≤ 536870912) (h1 : kc + 1 ≤ KC) (h2 : ks + N ≤ KS)
    (kk : ∀ q : Nat, Gc E G A (kc + 1) (ks + N) Q nL (ws ++ [(q, .inl (G.2.2.2.2, (N, .inr (.inr (.inr (.inr (fun _ => none)))))))]) (pc + 3) lv (.ref q :: st)) : Gc E G A kc ks Q nL ws pc lv (.int n :: st) := by
  obtain ⟨p, l, e, R, s, m, args, below, meth, c⟩ := E
  intro H locs ls hP hD hS hh
  obtain ⟨hx, hb, hml, hown, hts, hlk, hK, hA, r1, r2, r3, r4⟩ := F
  refine va_newq (C := "MastFlags$State") (tys := tysG G) (N' := N) hx hb hown (hts _ hcl) hK.2 hK.1.1 hP hD hS hA hn hN hby (Nat.le_trans h1 r3) (Nat.le_trans h2 r4) hd (fun q cA H1 hK1 hP hD hS => ?_)
  have e1 := va_nmO (hK1.2 2 (cA, .object "MastFlags$State") rfl).2 rfl
  have e2 := Kn_st hK.1
  have e3 : cA = G.2.2.2.2 := Option.some.inj (e1.symm.trans e2)
  rw [e3] at hP hD
  exact kk q H1 locs ls hP hD hS hh
theorem gc_get {C : String} {T : u_T} {N ci index a : Nat} {fs : List Value} {v : Value} (F : Fc E G A own cc nL fr lo KC KS) (hd : decode cc pc = .ok (.getfield index, 3)) (q0 : Nat) (he : ws[q0]? = some (a, .inr (ci, fs))) (hc : vwCl[ci]? = some (C, T, N)) (hin : ∀ w ∈ u_ws C T N, w ∈ bw) (j : Nat) (hj : j < N) (hlink : Cond.fieldLink own index (T j).1 (T j).2.1 (T j).2.2.1 ∈ bw) (hv : fs[j]? = some v)
    (kk : Gc E G A kc ks Q nL ws (pc + 3) lv (v :: st)) : Gc E G A kc ks Q nL ws pc lv (.ref a :: st) := by
  obtain ⟨p, l, e, R, s, m, args, below, meth, c⟩ := E
  intro H locs ls hP hD hS hh
  obtain ⟨hx, hb, hml, hown, hts, hlk, hK, hA, r1, r2, r3, r4⟩ := F
  exact va_get (D := G.2.1) (tys := tysG G) hx hb hts hin hown hK.1.1 hP q0 he hc j hj (hts _ hlink) (fun _ h => h) hv hd (kk H locs ls hP hD hS hh)
theorem gc_put {C : String} {T : u_T} {N ci index a : Nat} {fs : List Value} {v : Value} {ty : FieldType} (ws' : va_W) (F : Fc E G A own cc nL fr lo KC KS) (hd : decode cc pc = .ok (.putfield index, 3)) (q0 : Nat) (he : ws[q0]? = some (a, .inr (ci, fs))) (hc : vwCl[ci]? = some (C, T, N)) (hin : ∀ w ∈ u_ws C T N, w ∈ bw) (ty0 : Nat → FieldType) (hty : ∀ k, k < N → parseFieldDescriptor (T k).2.2.1 = some (ty0 k)) (hnm : ∀ a, a < N → ∀ b, b < N → a ≠ b → (T a).2.1 ≠ (T b).2.1) (j : Nat) (hj : j < N) (hlink : Cond.fieldLink own index (T j).1 (T j).2.1 (T j).2.2.1 ∈ bw) (hfin : (T j).2.2.2 = false) (hpd : parseFieldDescriptor (T j).2.2.1 = some ty) (hn : narrow ty v = v) (hfit : fits ty v = true) (hl : j < fs.length) (hw : ws.set q0 (a, .inr (ci, fs.set j v)) = ws')
    (kk : Gc E G A kc ks Q nL ws' (pc + 3) lv st) : Gc E G A kc ks Q nL ws pc lv (v :: .ref a :: st) := by
  obtain ⟨p, l, e, R, s, m, args, below, meth, c⟩ := E
  intro H locs ls hP hD hS hh
  obtain ⟨hx, hb, hml, hown, hts, hlk, hK, hA, r1, r2, r3, r4⟩ := F
  subst hw
  exact va_put (D := G.2.1) (tys := tysG G) hx hb hts hin ty0 hty hnm hown hK.1.1 hP hD hS q0 he hc j hj (hts _ hlink) (fun _ h => h) hfin hpd hn hfit hl hd (fun H1 locs1 hP hD hS => kk H1 locs1 ls hP hD hS hh)
theorem gc_putF {C : String} {T : u_T} {N ci index a : Nat} {fs : List Value} {v : Value} {ty : FieldType} (ws' : va_W) (F : Fc E G A own cc nL fr lo KC KS) (hi : Fi E) (hd : decode cc pc = .ok (.putfield index, 3)) (q0 : Nat) (he : ws[q0]? = some (a, .inr (ci, fs))) (hc : vwCl[ci]? = some (C, T, N)) (hin : ∀ w ∈ u_ws C T N, w ∈ bw) (ty0 : Nat → FieldType) (hty : ∀ k, k < N → parseFieldDescriptor (T k).2.2.1 = some (ty0 k)) (hnm : ∀ a, a < N → ∀ b, b < N → a ≠ b → (T a).2.1 ≠ (T b).2.1) (j : Nat) (hj : j < N) (hlink : Cond.fieldLink own index (T j).1 (T j).2.1 (T j).2.2.1 ∈ bw) (hfin : (T j).2.2.2 = true) (hdecl : (T j).1 = own) (hpd : parseFieldDescriptor (T j).2.2.1 = some ty) (hn : narrow ty v = v) (hfit : fits ty v = true) (hl : j < fs.length) (hw : ws.set q0 (a, .inr (ci, fs.set j v)) = ws')
    (kk : Gc E G A kc ks Q nL ws' (pc + 3) lv st) : Gc E G A kc ks Q nL ws pc lv (v :: .ref a :: st) := by
  obtain ⟨p, l, e, R, s, m, args, below, meth, c⟩ := E
  intro H locs ls hP hD hS hh
  obtain ⟨hx, hb, hml, hown, hts, hlk, hK, hA, r1, r2, r3, r4⟩ := F
  subst hw
  exact va_putF (D := G.2.1) (tys := tysG G) hx hb hts hin ty0 hty hnm hown hK.1.1 hP hD hS q0 he hc j hj (hts _ hlink) (fun _ h => h) hfin hi.1 hdecl hpd hn hfit hl hd (fun H1 locs1 hP hD hS => kk H1 locs1 ls hP hD hS hh)
theorem gc_iast {a n : Nat} {f : Nat → Int32} {i x : Int32} (ws' : va_W) (F : Fc E G A own cc nL fr lo KC KS) (hd : decode cc pc = .ok (.iastore, 1)) (q0 : Nat) (he : ws[q0]? = some (a, .inl (G.2.2.1, (n, .inl f)))) (hin : vp_in i n) (hw : ws.set q0 (a, .inl (G.2.2.1, (n, .inl (upd f i.toNatClampNeg x)))) = ws')
    (kk : Gc E G A kc ks Q nL ws' (pc + 1) lv st) : Gc E G A kc ks Q nL ws pc lv (.int x :: .int i :: .ref a :: st) := by
  obtain ⟨p, l, e, R, s, m, args, below, meth, c⟩ := E
  intro H locs ls hP hD hS hh
  obtain ⟨hx, hb, hml, hown, hts, hlk, hK, hA, r1, r2, r3, r4⟩ := F
  subst hw
  exact va_iast (D := G.2.1) (tys := tysG G) hx hb hK.1.1 hP hD hS q0 0 he rfl hin hd (fun H1 locs1 hP hD hS => kk H1 locs1 ls hP hD hS hh)
theorem gc_aast {a n v : Nat} {f : Nat → Option Nat} {i : Int32} {vs : List Value} (ws' : va_W) (F : Fc E G A own cc nL fr lo KC KS) (hd : decode cc pc = .ok (.aastore, 1)) (q0 qk : Nat) (he : ws[q0]? = some (a, .inl (G.2.2.2.2, (n, .inr (.inr (.inr (.inr f))))))) (hv : ws[qk]? = some (v, .inr (6, vs))) (hin : vp_in i n) (hw : ws.set q0 (a, .inl (G.2.2.2.2, (n, .inr (.inr (.inr (.inr (va_up f i.toNatClampNeg (some v)))))))) = ws')
    (kk : Gc E G A kc ks Q nL ws' (pc + 1) lv st) : Gc E G A kc ks Q nL ws pc lv (.ref v :: .int i :: .ref a :: st) := by
  obtain ⟨p, l, e, R, s, m, args, below, meth, c⟩ := E
  intro H locs ls hP hD hS hh
  obtain ⟨hx, hb, hml, hown, hts, hlk, hK, hA, r1, r2, r3, r4⟩ := F
  subst hw
  exact va_astq (D := G.2.1) (tys := tysG G) hx hb hK.1.1 hP hD hS q0 1 qk 6 (r := (RX6, TX6, 9)) he rfl hv rfl hin hd (fun H1 locs1 hP hD hS => kk H1 locs1 ls hP hD hS hh)
theorem nd_range' : ∀ (n s : Nat), va_nd (List.range' s n) = true
  | 0, _ => rfl
  | n + 1, s => by
    rw [List.range'_succ, va_nd, nd_range' n (s + 1), Bool.and_true, decide_eq_true_eq]
    intro h
    have := (List.mem_range'_1.mp h).1
    omega
theorem nd_range (n : Nat) : va_nd (List.range n) = true := by rw [List.range_eq_range']; exact nd_range' n 0
theorem app_last (wr : va_W) (x : Nat × va_E) : ([wr.length].map fun i => (wr ++ [x])[i]?) = [x].map some := by simp
theorem app_rest (wr : va_W) (x : Nat × va_E) : ((List.range wr.length).map fun i => (wr ++ [x])[i]?) = wr.map some := by
  apply List.ext_getElem?
  intro i
  by_cases h : i < wr.length
  · rw [List.getElem?_map, List.getElem?_range h, List.getElem?_map, List.getElem?_eq_getElem h]
    simp [List.getElem?_append_left h, List.getElem?_eq_getElem h]
  · rw [List.getElem?_eq_none (by simpa using h), List.getElem?_eq_none (by simpa using h)]
/-- a call of a constructor on the object that was made last -/
theorem gc_runI {p : Program} {l : Launch} {e : Env} {R : Room} {s : State} {m : MethodId} {args : Array Value} {below : List Frame} {meth : Method} {c : Code} {H : Heap} {locs : List Loc} {ls : Array Slot} {st0 : List Value} {av : Array Value} {wr : va_W} {x : Nat × va_E} {w1 : (Nat → Nat) → va_W} {mc ms : Nat}
    (hr : va_Run p l e R s m args below meth c H locs kc ks mc ms (F0 m pc ls st0) st (Qc_ G [x] w1 av) (va_A [x] H.size)) (hP : va_P G.2.1 vwCl (wr ++ [x]) H) (hD : va_D A (wr ++ [x])) (hS : va_S A s.heap H locs) (hA : ∀ q, s.heap.size ≤ q → A q) (hh : lv_has ls nL lv)
    (kk : ∀ q : Nat → Nat, Gc (p, l, e, R, s, m, args, below, meth, c) G A (kc + mc) (ks + ms) Q nL (wr ++ w1 q) (pc + 3) lv st) : W p l e R s m args below meth c H locs kc ks Q (F0 m pc ls st0) := by
  have hF : ∀ q, va_A [x] H.size q → A q := va_free (wc := [x]) hD hS hA [wr.length] (app_last wr x)
  intro T hT X
  obtain ⟨v, st₀, t, T', L, h0, X', hL, e1, e2, ⟨hv, ⟨q, hP1, hD1⟩, hz, hk⟩, st1⟩ := hr T hT X
  cases hv
  rw [h0] at hz hk hD1
  have hk2 : ∀ z : Nat, z < H.size → ¬ va_A [x] H.size z → T'.heap[z]? = H[z]? := fun z h1 h2 => by rw [e1]; exact hk z h1 h2
  have hj := va_join (wr := wr) (w1 := w1 q) hP hD [wr.length] (List.range wr.length) (app_last wr x) (app_rest wr x) (nd_range _) (fun i hi hc => by
    have := List.mem_range.mp hi
    have h2 : i = wr.length := by simpa using hc
    omega) hk2 hF (by rw [e1]; exact hP1) hD1
  obtain ⟨t2, a1, b1⟩ := kk q T'.heap (locs ++ L) ls hj.1 hj.2 ⟨Nat.le_trans hS.1 (by rw [e1]; exact hz), fun z h1 h2 => by rw [hk2 z (Nat.lt_of_lt_of_le h1 hS.1) (fun y => h2 (hF z y))]; exact hS.2.1 z h1 h2, fun z hz2 => by
      rcases List.mem_append.mp hz2 with h | h
      · exact hS.2.2 z h
      · exact hF _ (hL z h)⟩ hh T' rfl X'
  exact ⟨t2, st1 t2 a1, b1⟩
theorem gc_callI {y : MethodName} {b : ByteArray} {n index q0 : Nat} {ent : va_E} {f1 l1 mc ms : Nat} {As : List Value} {wr : va_W} {w1 : (Nat → Nat) → va_W} (F : Fc E G A own cc nL fr lo KC KS) (hd : decode cc pc = .ok (.invokespecial index, 3)) (hlink : Cond.methodLink own index y ∈ bw) (hcw : Cond.code y b n none ∈ bw) (him : Cond.instanceMethod y ∈ bw) (hini : Cond.initialized y.cls ∈ bw) (hy1 : y.name = "<init>")
    (hyd : y.cls ≠ "java/lang/invoke/MethodHandle" ∧ y.cls ≠ "java/lang/invoke/VarHandle" ∧ (parseMethodDescriptor y.desc).map (fun d => d.parameters.length) = some As.length) (hM : Cc (enL E) G y b n f1 l1 mc ms (.ref q0 :: As) [(q0, ent)] w1) (hfr : f1 + 1 ≤ fr) (hlo : 8 + (n + 11) + l1 ≤ lo) (h1 : kc + mc ≤ KC) (h2 : ks + ms ≤ KS) (hst : (st.map fun v => v.category).sum ≤ 8) {st0 : List Value} (he : st0 = As.reverse ++ .ref q0 :: st)
    (kk : ∀ q : Nat → Nat, Gc E G A (kc + mc) (ks + ms) Q nL (wr ++ w1 q) (pc + 3) lv st) : Gc E G A kc ks Q nL (wr ++ [(q0, ent)]) pc lv st0 := by
  obtain ⟨p, l, e, R, s, m, args, below, meth, c⟩ := E
  intro H locs ls hP hD hS hh
  obtain ⟨hx, hb, hml, hown, hts, hlk, hK, hA, r1, r2, r3, r4⟩ := F
  have hPc : va_P G.2.1 vwCl [(q0, ent)] H := hP.sub [wr.length] (by simp)
  have hDc : va_D (fun _ => True) [(q0, ent)] := (hD.sub [wr.length] (by simp [va_nd]) (app_last wr _)).weaken (fun _ _ _ _ => trivial)
  exact gc_runI (va_runI (As := As) (rest := st) ⟨hx, hb, hml, hown, hts⟩ (hM H.size) ⟨callB_of As.length hts (gbl hcw) rfl rfl rfl (hts _ hini) (hts _ hlink) hyd ⟨Nat.le_trans hfr r1, Nat.le_trans hlo r2⟩, hy1, hts _ him⟩ ⟨fun a U g mk h => ⟨Pc_.blind a U g mk h.1, h.2⟩, fun U hU hW => ⟨⟨rfl, by rw [hU]; exact hPc, hK.warm hW, hDc⟩, by rw [hU]⟩⟩ rfl rfl hh.1 he (lv_room hst) hd ⟨Nat.le_trans h1 r3, Nat.le_trans h2 r4⟩) hP hD hS hA hh kk
theorem gc_callIN {y : MethodName} {b : ByteArray} {n index q0 : Nat} {host : String} {ent : va_E} {f1 l1 mc ms : Nat} {As : List Value} {wr : va_W} {w1 : (Nat → Nat) → va_W} (F : Fc E G A own cc nL fr lo KC KS) (hd : decode cc pc = .ok (.invokespecial index, 3)) (hlink : Cond.methodLinkNest own index y host ∈ nws) (hcw : Cond.code y b n none ∈ bw) (him : Cond.instanceMethod y ∈ bw) (hini : Cond.initialized y.cls ∈ bw) (hy1 : y.name = "<init>")
    (hyd : y.cls ≠ "java/lang/invoke/MethodHandle" ∧ y.cls ≠ "java/lang/invoke/VarHandle" ∧ (parseMethodDescriptor y.desc).map (fun d => d.parameters.length) = some As.length) (hM : Cc (enL E) G y b n f1 l1 mc ms (.ref q0 :: As) [(q0, ent)] w1) (hfr : f1 + 1 ≤ fr) (hlo : 8 + (n + 11) + l1 ≤ lo) (h1 : kc + mc ≤ KC) (h2 : ks + ms ≤ KS) (hst : (st.map fun v => v.category).sum ≤ 8) {st0 : List Value} (he : st0 = As.reverse ++ .ref q0 :: st)
    (kk : ∀ q : Nat → Nat, Gc E G A (kc + mc) (ks + ms) Q nL (wr ++ w1 q) (pc + 3) lv st) : Gc E G A kc ks Q nL (wr ++ [(q0, ent)]) pc lv st0 := by
  obtain ⟨p, l, e, R, s, m, args, below, meth, c⟩ := E
  intro H locs ls hP hD hS hh
  obtain ⟨hx, hb, hml, hown, hts, hlk, hK, hA, r1, r2, r3, r4⟩ := F
  have hPc : va_P G.2.1 vwCl [(q0, ent)] H := hP.sub [wr.length] (by simp)
  have hDc : va_D (fun _ => True) [(q0, ent)] := (hD.sub [wr.length] (by simp [va_nd]) (app_last wr _)).weaken (fun _ _ _ _ => trivial)
  exact gc_runI (va_runIN (As := As) (rest := st) ⟨hx, hb, hml, hown, hts⟩ (hM H.size) ⟨va_cnB As.length hts (gbl hcw) rfl rfl rfl (hK.1.2 _ hlink) (hts _ hini) hyd ⟨Nat.le_trans hfr r1, Nat.le_trans hlo r2⟩, hy1, hts _ him⟩ ⟨fun a U g mk h => ⟨Pc_.blind a U g mk h.1, h.2⟩, fun U hU hW => ⟨⟨rfl, by rw [hU]; exact hPc, hK.warm hW, hDc⟩, by rw [hU]⟩⟩ rfl rfl hh.1 he (lv_room hst) hd ⟨Nat.le_trans h1 r3, Nat.le_trans h2 r4⟩) hP hD hS hA hh kk
theorem gc_ret {w0 : va_W} {w1 : (Nat → Nat) → va_W} (q : Nat → Nat) (F : Fc E G (Ac E w0) own cc nL fr lo KC KS) (hi : Fi E) (hd : decode cc pc = .ok (.return_, 1)) (hw : w1 q = ws) : Gc E G (Ac E w0) kc ks (MQc E G w0 w1 kc ks) nL ws pc lv [] := by
  obtain ⟨p, l, e, R, s, m, args, below, meth, c⟩ := E
  intro H locs ls hP hD hS hh
  obtain ⟨hx, hb, hml, hown, hts, hlk, hK, hA, r1, r2, r3, r4⟩ := F
  subst hw
  exact W.vret hx hb hi.2 (fun t ht hW => ⟨rfl, ⟨q, by rw [ht]; exact hP, hD⟩, hS.F ht⟩) hS.2.2 hd (hlocks := hlk)
end GC

/-! The one world of all runs: 118 cells at fixed addresses, whose ints are a matrix V (cell, place). Every method's contract speaks of V alone. -/
abbrev Wd : Type := Nat → Nat → Int32
abbrev Gm : Type := (Nat → Nat) × va_G × ClassId × ClassId × ClassId
def AD (G : Gm) (k : Nat) : Nat := G.1 k
def tysG (G : Gm) : List (ClassId × FieldType) := [(G.2.2.1, .int), (G.2.2.2.1, .char), (G.2.2.2.2, .object "MastFlags$State")]
/-- the kinds of the cells: 0 MastFlags, 1 State, 2 FlagLocker, 3 Hoists, 4 Book, 5 MessageLog, 6 History, 7 Text, 8 Reading, 9 MastFlagsModel, 1000 + n a row of n ints, 2050 the row of chars, 3000 the row of states -/
def kdS : List Nat := [1, 2, 1010, 1010, 1010, 3, 1020, 1005, 4, 1012, 1012, 5, 1040, 1008]
def kdL : List Nat := [0] ++ kdS ++ kdS ++ [6, 3000] ++ kdS ++ kdS ++ kdS ++ kdS ++ kdS ++ [7, 1050, 3, 1020, 1005] ++ [8, 1005, 1005] ++ [8, 1005, 1005] ++ [9, 1136, 1680, 1136, 2050, 1025]
def kd (k : Nat) : Nat := kdL.getD k 99
def wEk (G : Gm) (kind k : Nat) (f : Nat → Int32) : va_E :=
  match kind with
  | 0 => .inr (8, [.ref (AD G 1), .ref (AD G 15), .int (f 2), .ref (AD G 29), .ref (AD G 101), .ref (AD G 106), .ref (AD G 109)])
  | 1 => .inr (6, [.ref (AD G (k + 1)), .ref (AD G (k + 5)), .ref (AD G (k + 8)), .ref (AD G (k + 11)), .int (f 4), .int (f 5), .int (f 6), .int (f 7), .int (f 8)])
  | 2 => .inr (1, [.ref (AD G (k + 1)), .ref (AD G (k + 2)), .ref (AD G (k + 3))])
  | 3 => .inr (3, [.ref (AD G (k + 1)), .ref (AD G (k + 2))])
  | 4 => .inr (0, [.ref (AD G (k + 1)), .ref (AD G (k + 2)), .int (f 2)])
  | 5 => .inr (4, [.ref (AD G (k + 1)), .ref (AD G (k + 2)), .int (f 2), .int (f 3)])
  | 6 => .inr (2, [.ref (AD G (k + 1)), .int (f 1), .int (f 2)])
  | 7 => .inr (7, [.ref (AD G (k + 1)), .int (f 1), .ref (AD G (k + 2)), .int (f 3), .int (f 4)])
  | 8 => .inr (5, [.int (f 0), .ref (AD G (k + 1)), .ref (AD G (k + 2)), .int (f 3)])
  | 9 => .inr (9, [.ref (AD G (k + 1)), .ref (AD G (k + 2)), .int (f 2), .ref (AD G (k + 3)), .int (f 4), .ref (AD G (k + 4)), .int (f 6), .ref (AD G (k + 5)), .int (f 8), .int (f 9), .int (f 10)])
  | 2050 => .inl (G.2.2.2.1, (50, .inl f))
  | 3000 => .inl (G.2.2.2.2, (5, .inr (.inr (.inr (.inr (fun j => some (AD G (k + 1 + 14 * j))))))))
  | n => .inl (G.2.2.1, (n - 1000, .inl f))
def wE (G : Gm) (k : Nat) (f : Nat → Int32) : va_E := wEk G (kd k) k f
theorem kd_lt {k K : Nat} (h : kd k = K) (hK : K ≠ 99) : k < 118 := by
  rcases Nat.lt_or_ge k 118 with q | q
  · exact q
  · exfalso
    apply hK
    rw [← h]
    unfold kd
    rw [List.getD_eq_getElem?_getD, List.getElem?_eq_none (by simpa [kdL, kdS] using q)]
    rfl
def wl (G : Gm) (V : Wd) : va_W := (List.range 118).map fun k => (AD G k, wE G k (V k))
theorem wl_get {G : Gm} {V : Wd} {k : Nat} (h : k < 118) : (wl G V)[k]? = some (AD G k, wE G k (V k)) := by
  unfold wl
  rw [List.getElem?_map, List.getElem?_range h]
  rfl
theorem wl_len (G : Gm) (V : Wd) : (wl G V).length = 118 := by unfold wl; rw [List.length_map, List.length_range]
def u2 (V : Wd) (k j : Nat) (x : Int32) : Wd := fun a => if a = k then upd (V k) j x else V a
def uf (V : Wd) (k : Nat) (f : Nat → Int32) : Wd := fun a => if a = k then f else V a
theorem u2_uf (V : Wd) (k j : Nat) (x : Int32) : u2 V k j x = uf V k (upd (V k) j x) := rfl
def cp2 (V : Wd) (k0 k1 sp dp n : Nat) : Wd := uf V k1 (va_cpy (V k0) (V k1) sp dp n)
theorem wl_set {G : Gm} {V : Wd} {k : Nat} {f : Nat → Int32} (h : k < 118) : (wl G V).set k (AD G k, wE G k f) = wl G (uf V k f) := by
  apply List.ext_getElem?
  intro i
  rcases Nat.lt_or_ge i 118 with q | q
  · rw [wl_get q]
    by_cases e : k = i
    · subst e
      rw [List.getElem?_set_self (by rw [wl_len]; exact h)]
      simp [uf]
    · rw [List.getElem?_set_ne e, wl_get q]
      simp [uf, fun z : i = k => e z.symm]
  · rw [List.getElem?_eq_none (by rw [List.length_set, wl_len]; exact q), List.getElem?_eq_none (by rw [wl_len]; exact q)]
def Hp (G : Gm) (V : Wd) (H : Heap) : Prop := va_P G.2.1 vwCl (wl G V) H
def inj (G : Gm) : Prop := ∀ i j, i < 118 → j < 118 → AD G i = AD G j → i = j
def AG (G : Gm) : Nat → Prop := fun q => ∃ k, k < 118 ∧ q = AD G k
theorem wl_D {G : Gm} {A : Nat → Prop} (V : Wd) (h : inj G) (hA : ∀ k, k < 118 → A (AD G k)) : va_D A (wl G V) := by
  have key : ∀ (k : Nat) (q : Nat × va_E), (wl G V)[k]? = some q → k < 118 ∧ q.1 = AD G k := by
    intro k q hk
    have hl : k < 118 := by rw [← wl_len G V]; exact (List.getElem?_eq_some_iff.mp hk).1
    rw [wl_get hl] at hk
    cases hk
    exact ⟨hl, rfl⟩
  refine ⟨fun i j p q hi hj e => ?_, fun k q hk => ?_⟩
  · obtain ⟨h1, e1⟩ := key i p hi
    obtain ⟨h2, e2⟩ := key j q hj
    exact h i j h1 h2 (by rw [← e1, ← e2]; exact e)
  · obtain ⟨h1, e1⟩ := key k q hk
    rw [e1]
    exact hA k h1
def Kn (G : Gm) (U : State) : Prop := va_K G.2.1 vwCl (tysG G) U ∧ ∀ w ∈ nws, va_Nw w U
theorem nws_nest : ∀ w ∈ nws, ∃ a i x h, w = Cond.methodLinkNest a i x h := by
  intro w hw
  simp only [nws, List.mem_cons, List.not_mem_nil, or_false] at hw
  rcases hw with h | h | h | h | h | h | h | h | h | h | h | h <;> subst h <;> exact ⟨_, _, _, _, rfl⟩
theorem Kn.warm {G : Gm} {s U : State} (hW : s.WarmedH U.vm) (h : Kn G s) : Kn G U := by
  refine ⟨va_K.moved hW.alike h.1, fun w hw => ?_⟩
  obtain ⟨a, i, x, o, e⟩ := nws_nest w hw
  have h1 := h.2 w hw
  subst e
  exact va_Nw.warmM hW h1
theorem Kn.same {G : Gm} {s U : State} (e : s.vm = U.vm) (h : Kn G s) : Kn G U := by
  refine ⟨va_K.moved (by rw [e]; exact Vm.Alike.refl U.vm) h.1, fun w hw => ?_⟩
  obtain ⟨a, i, x, o, ew⟩ := nws_nest w hw
  have h1 := h.2 w hw
  subst ew
  exact va_Nw.same rfl e h1
def Pg (G : Gm) (av : List Value) (V : Wd) : Array Value → State → Prop := fun v U => v = av.toArray ∧ Hp G V U.heap ∧ Kn G U ∧ inj G
theorem Pg.blind {G : Gm} {av : List Value} {V : Wd} : FrameBlind (Pg G av V) := fun a U g mk h => ⟨h.1, h.2.1, Kn.same (s := U) rfl h.2.2.1, h.2.2.2⟩
def Qg (G : Gm) (rv : Option Value) (V : Wd) : Array Value → State → Outcome → State → Prop := fun _ st o t => o = .returned rv ∧ Hp G V t.heap ∧ va_F (AG G) st t
/-- a method's contract: from the world V with these arguments it returns rv, the world is V1 then -/
def Ct (l : Launch) (G : Gm) (y : MethodName) (b : ByteArray) (n : Nat) (ret : Option FieldType) (fr lo : Nat) (av : List Value) (V : Wd) (rv : Option Value) (V1 : Wd) : Prop :=
  Met l y (.code y b n ret :: bw) { frames := fr, cells := 0, slots := 0, locals := lo } (Pg G av V) (Qg G rv V1) 0 0 (AG G)
abbrev En : Type := Program × Launch × Env × Room × State × MethodId × Array Value × List Frame × Method × Code
def enL (E : En) : Launch := E.2.1
def Fx (E : En) (G : Gm) (A : Nat → Prop) (own : String) (cc : ByteArray) (nL : Nat) (ret : Option FieldType) (fr lo kc ks : Nat) : Prop :=
  match E with
  | (p, _, _, R, s, m, args, _, meth, c) => p.tables.exec = Jvm.exec ∧ c.code = cc ∧ c.maxLocals = nL ∧ meth.sig.returnType = ret ∧ s.vm.findClass own = some m.cls ∧ (∀ w ∈ bw, w.before args s = true) ∧ meth.locks = false ∧ Kn G s ∧ inj G ∧ (∀ k, k < 118 → A (AD G k)) ∧ fr ≤ R.frames ∧ lo ≤ R.locals ∧ kc ≤ R.cells ∧ ks ≤ R.slots
def Go (E : En) (G : Gm) (A : Nat → Prop) (kc ks : Nat) (Q : State → Prop) (nL : Nat) (V : Wd) (pc : Nat) (lv : List (Nat × Value)) (st : List Value) : Prop :=
  match E with
  | (p, l, e, R, s, m, args, below, meth, c) => ∀ (H : Heap) (locs : List Loc) (ls : Array Slot), Hp G V H → va_S A s.heap H locs → lv_has ls nL lv → W p l e R s m args below meth c H locs kc ks Q (F0 m pc ls st)
def MQq (E : En) (G : Gm) (rv : Option Value) (V : Wd) : State → Prop :=
  match E with
  | (_, _, _, _, s, _, args, below, _, _) => MQ below (Qg G rv V) args s 0 0 (AG G)
def lt {α β : Type} (a : α) (f : α → β) : β := f a
def rd (f : Nat → Int32) (n : Nat) (i : Int32) : Option Int32 := if i < 0 ∨ n ≤ i.toNatClampNeg then none else some (f i.toNatClampNeg)
def FU : Nat := 1000
theorem ob {α β : Type} {x : Option α} {f : α → Option β} {z : β} (h : x.bind f = some z) : ∃ a, x = some a ∧ f a = some z := by
  cases x with
  | none => cases h
  | some a => exact ⟨a, rfl, h⟩
theorem rd_ok {f : Nat → Int32} {n : Nat} {i x : Int32} (h : rd f n i = some x) : vp_in i n ∧ x = f i.toNatClampNeg := by
  unfold rd at h
  split at h
  · cases h
  · next q => exact ⟨q, (Option.some.inj h).symm⟩
def refv (G : Gm) (o : Option Nat) : Value := match o with
  | none => .null
  | some k => .ref (AD G k)
section CORE
variable {E : En} {G : Gm} {A : Nat → Prop} {own : String} {cc : ByteArray} {nL fr lo kc ks : Nat} {ret : Option FieldType} {Q : State → Prop} {V : Wd} {pc : Nat} {lv : List (Nat × Value)} {st : List Value}
/-- a method's contract out of its body's walk -/
theorem Ct.of {l : Launch} {y : MethodName} {own : String} {b : ByteArray} {n : Nat} {ret : Option FieldType} {fr lo : Nat} {av : List Value} {V : Wd} {rv : Option Value} {V1 : Wd} (hy : plainName y.cls = true) (hown : y.cls = own)
    (hlv : (lg_sl av).length ≤ n)
    (body : ∀ E : En, Fx E G (AG G) own b n ret fr lo 0 0 → enL E = l → Go E G (AG G) 0 0 (MQq E G rv V1) n V 0 (lv_args 0 av) []) : Ct l G y b n ret fr lo av V rv V1 := by
  refine Met.ofW (cc := b) (maxL := n) (ret := ret) hy rfl ?_
  intro p e s m args below meth c s₁ B hml hv
  obtain ⟨rfl, hP, hK, hI⟩ := hv
  have hts := atoms_spec (ws := .code y b n ret :: bw) B.pre
  have hl := lv_entry av (n := n) hlv
  rw [lg_entry_eq]
  refine body (p, l, e, (headSpec (.code y b n ret :: bw) { frames := fr, cells := 0, slots := 0, locals := lo }).room, s, m, av.toArray, below, meth, c) ⟨B.exec, B.bytes, hml, B.returns, ?_, fun w hw => hts w (List.mem_cons_of_mem _ hw), B.notSynchronized, hK, hI, fun k hk => ⟨k, hk, rfl⟩, Nat.le_refl _, Nat.le_refl _, Nat.le_refl _, Nat.le_refl _⟩ rfl s.heap [] _ hP va_S.rf hl
  rw [← hown]
  exact findClass_of_methodNamed B.named
theorem go_sub {lv' : List (Nat × Value)} (ps : List Nat) (hp : lv_pick lv ps = lv') (kk : Go E G A kc ks Q nL V pc lv' st) : Go E G A kc ks Q nL V pc lv st := by
  obtain ⟨p, l, e, R, s, m, args, below, meth, c⟩ := E
  intro H locs ls hP hS hl
  exact kk H locs ls hP hS (lv_sub hl ps hp)
theorem go_iloadn {k : Fin 4} {x : Int32} (F : Fx E G A own cc nL ret fr lo kc ks) (hd : decode cc pc = .ok (.iload_n k, 1)) (i : Nat) (hl : lv[i]? = some (k.val, .int x)) (kk : Go E G A kc ks Q nL V (pc + 1) lv (.int x :: st)) : Go E G A kc ks Q nL V pc lv st := by
  obtain ⟨p, l, e, R, s, m, args, below, meth, c⟩ := E
  intro H locs ls hP hS hv
  exact lv_iload_n F.1 F.2.1 hd rfl (lv_at hv i hl) (kk H locs ls hP hS hv)
theorem go_iload {k : Nat} {x : Int32} (F : Fx E G A own cc nL ret fr lo kc ks) (hd : decode cc pc = .ok (.iload k, 2)) (i : Nat) (hl : lv[i]? = some (k, .int x)) (kk : Go E G A kc ks Q nL V (pc + 2) lv (.int x :: st)) : Go E G A kc ks Q nL V pc lv st := by
  obtain ⟨p, l, e, R, s, m, args, below, meth, c⟩ := E
  intro H locs ls hP hS hv
  exact lv_iload F.1 F.2.1 hd (lv_at hv i hl) (kk H locs ls hP hS hv)
theorem go_aloadn {k : Fin 4} {x : Nat} (F : Fx E G A own cc nL ret fr lo kc ks) (hd : decode cc pc = .ok (.aload_n k, 1)) (i : Nat) (hl : lv[i]? = some (k.val, .ref x)) (kk : Go E G A kc ks Q nL V (pc + 1) lv (.ref x :: st)) : Go E G A kc ks Q nL V pc lv st := by
  obtain ⟨p, l, e, R, s, m, args, below, meth, c⟩ := E
  intro H locs ls hP hS hv
  exact lv_aload_n F.1 F.2.1 hd rfl (lv_at hv i hl) (kk H locs ls hP hS hv)
theorem go_istoren {k : Fin 4} {x : Int32} {lv' : List (Nat × Value)} (F : Fx E G A own cc nL ret fr lo kc ks) (hd : decode cc pc = .ok (.istore_n k, 1)) (hn : k.val < nL) (hl : (k.val, Value.int x) :: lv.filter (fun q => !(q.1 == k.val) && !(q.1 + 1 == k.val && q.2.category == 2)) = lv') (kk : Go E G A kc ks Q nL V (pc + 1) lv' st) : Go E G A kc ks Q nL V pc lv (.int x :: st) := by
  obtain ⟨p, l, e, R, s, m, args, below, meth, c⟩ := E
  intro H locs ls hP hS hv
  exact lv_istore_n F.1 F.2.1 hd rfl hv hn hl (fun ls' hv' => kk H locs ls' hP hS hv')
theorem go_istore {k : Nat} {x : Int32} {lv' : List (Nat × Value)} (F : Fx E G A own cc nL ret fr lo kc ks) (hd : decode cc pc = .ok (.istore k, 2)) (hn : k < nL) (hl : (k, Value.int x) :: lv.filter (fun q => !(q.1 == k) && !(q.1 + 1 == k && q.2.category == 2)) = lv') (kk : Go E G A kc ks Q nL V (pc + 2) lv' st) : Go E G A kc ks Q nL V pc lv (.int x :: st) := by
  obtain ⟨p, l, e, R, s, m, args, below, meth, c⟩ := E
  intro H locs ls hP hS hv
  exact lv_istore F.1 F.2.1 hd hv hn hl (fun ls' hv' => kk H locs ls' hP hS hv')
theorem go_astoren {k : Fin 4} {x : Nat} {lv' : List (Nat × Value)} (F : Fx E G A own cc nL ret fr lo kc ks) (hd : decode cc pc = .ok (.astore_n k, 1)) (hn : k.val < nL) (hl : (k.val, Value.ref x) :: lv.filter (fun q => !(q.1 == k.val) && !(q.1 + 1 == k.val && q.2.category == 2)) = lv') (kk : Go E G A kc ks Q nL V (pc + 1) lv' st) : Go E G A kc ks Q nL V pc lv (.ref x :: st) := by
  obtain ⟨p, l, e, R, s, m, args, below, meth, c⟩ := E
  intro H locs ls hP hS hv
  exact lv_astore_n F.1 F.2.1 hd rfl hv hn hl (fun ls' hv' => kk H locs ls' hP hS hv')
theorem go_iinc {i k : Nat} {n : Int} {x : Int32} (v : Int32) {lv' : List (Nat × Value)} (F : Fx E G A own cc nL ret fr lo kc ks) (hd : decode cc pc = .ok (.iinc i n, 3)) (hk : lv[k]? = some (i, .int x)) (hv : x + Int32.ofInt n = v) (hn : i < nL) (hl : (i, Value.int v) :: lv.filter (fun q => !(q.1 == i) && !(q.1 + 1 == i && q.2.category == 2)) = lv') (kk : Go E G A kc ks Q nL V (pc + 3) lv' st) : Go E G A kc ks Q nL V pc lv st := by
  obtain ⟨p, l, e, R, s, m, args, below, meth, c⟩ := E
  intro H locs ls hP hS hh
  exact lv_iinc F.1 F.2.1 hd hh hk hv hn hl (fun ls' hv' => kk H locs ls' hP hS hv')
theorem go_iconst {n : Int} (v : Int32) (F : Fx E G A own cc nL ret fr lo kc ks) (hd : decode cc pc = .ok (.iconst n, 1)) (hv : Int32.ofInt n = v) (kk : Go E G A kc ks Q nL V (pc + 1) lv (.int v :: st)) : Go E G A kc ks Q nL V pc lv st := by
  obtain ⟨p, l, e, R, s, m, args, below, meth, c⟩ := E
  intro H locs ls hP hS hh
  exact lv_iconst F.1 F.2.1 hd hv (kk H locs ls hP hS hh)
theorem go_bipush {n : Int} (v : Int32) (F : Fx E G A own cc nL ret fr lo kc ks) (hd : decode cc pc = .ok (.bipush n, 2)) (hv : (Int8.ofInt n).toInt32 = v) (kk : Go E G A kc ks Q nL V (pc + 2) lv (.int v :: st)) : Go E G A kc ks Q nL V pc lv st := by
  obtain ⟨p, l, e, R, s, m, args, below, meth, c⟩ := E
  intro H locs ls hP hS hh
  exact lv_bipush F.1 F.2.1 hd hv (kk H locs ls hP hS hh)
theorem go_sipush {n : Int} (v : Int32) (F : Fx E G A own cc nL ret fr lo kc ks) (hd : decode cc pc = .ok (.sipush n, 3)) (hv : (Int16.ofInt n).toInt32 = v) (kk : Go E G A kc ks Q nL V (pc + 3) lv (.int v :: st)) : Go E G A kc ks Q nL V pc lv st := by
  obtain ⟨p, l, e, R, s, m, args, below, meth, c⟩ := E
  intro H locs ls hP hS hh
  exact lv_sipush F.1 F.2.1 hd hv (kk H locs ls hP hS hh)
theorem go_null (F : Fx E G A own cc nL ret fr lo kc ks) (hd : decode cc pc = .ok (.aconst_null, 1)) (kk : Go E G A kc ks Q nL V (pc + 1) lv (.null :: st)) : Go E G A kc ks Q nL V pc lv st := by
  obtain ⟨p, l, e, R, s, m, args, below, meth, c⟩ := E
  intro H locs ls hP hS hh
  exact lv_null F.1 F.2.1 hd (kk H locs ls hP hS hh)
theorem go_iadd {x y : Int32} (F : Fx E G A own cc nL ret fr lo kc ks) (hd : decode cc pc = .ok (.iadd, 1)) (kk : Go E G A kc ks Q nL V (pc + 1) lv (.int (x + y) :: st)) : Go E G A kc ks Q nL V pc lv (.int y :: .int x :: st) := by
  obtain ⟨p, l, e, R, s, m, args, below, meth, c⟩ := E
  intro H locs ls hP hS hh
  exact lv_iadd F.1 F.2.1 hd (kk H locs ls hP hS hh)
theorem go_isub {x y : Int32} (F : Fx E G A own cc nL ret fr lo kc ks) (hd : decode cc pc = .ok (.isub, 1)) (kk : Go E G A kc ks Q nL V (pc + 1) lv (.int (x - y) :: st)) : Go E G A kc ks Q nL V pc lv (.int y :: .int x :: st) := by
  obtain ⟨p, l, e, R, s, m, args, below, meth, c⟩ := E
  intro H locs ls hP hS hh
  exact lv_isub F.1 F.2.1 hd (kk H locs ls hP hS hh)
theorem go_imul {x y : Int32} (F : Fx E G A own cc nL ret fr lo kc ks) (hd : decode cc pc = .ok (.imul, 1)) (kk : Go E G A kc ks Q nL V (pc + 1) lv (.int (x * y) :: st)) : Go E G A kc ks Q nL V pc lv (.int y :: .int x :: st) := by
  obtain ⟨p, l, e, R, s, m, args, below, meth, c⟩ := E
  intro H locs ls hP hS hh
  exact lv_imul F.1 F.2.1 hd (kk H locs ls hP hS hh)
theorem go_iand {x y : Int32} (F : Fx E G A own cc nL ret fr lo kc ks) (hd : decode cc pc = .ok (.iand, 1)) (kk : Go E G A kc ks Q nL V (pc + 1) lv (.int (x &&& y) :: st)) : Go E G A kc ks Q nL V pc lv (.int y :: .int x :: st) := by
  obtain ⟨p, l, e, R, s, m, args, below, meth, c⟩ := E
  intro H locs ls hP hS hh
  exact lv_iand F.1 F.2.1 hd (kk H locs ls hP hS hh)
theorem go_idiv {x y : Int32} (F : Fx E G A own cc nL ret fr lo kc ks) (hd : decode cc pc = .ok (.idiv, 1)) (hy : ¬ y = 0) (kk : Go E G A kc ks Q nL V (pc + 1) lv (.int (x / y) :: st)) : Go E G A kc ks Q nL V pc lv (.int y :: .int x :: st) := by
  obtain ⟨p, l, e, R, s, m, args, below, meth, c⟩ := E
  intro H locs ls hP hS hh
  exact lv_idiv F.1 F.2.1 hd hy (kk H locs ls hP hS hh)
theorem go_irem {x y : Int32} (F : Fx E G A own cc nL ret fr lo kc ks) (hd : decode cc pc = .ok (.irem, 1)) (hy : ¬ y = 0) (kk : Go E G A kc ks Q nL V (pc + 1) lv (.int (x - x / y * y) :: st)) : Go E G A kc ks Q nL V pc lv (.int y :: .int x :: st) := by
  obtain ⟨p, l, e, R, s, m, args, below, meth, c⟩ := E
  intro H locs ls hP hS hh
  exact lv_irem F.1 F.2.1 hd hy (kk H locs ls hP hS hh)
def i2c (x : Int32) : Int32 := (x.toUInt32 % 65536).toInt32
theorem go_i2c {x : Int32} (F : Fx E G A own cc nL ret fr lo kc ks) (hd : decode cc pc = .ok (.i2c, 1)) (kk : Go E G A kc ks Q nL V (pc + 1) lv (.int (i2c x) :: st)) : Go E G A kc ks Q nL V pc lv (.int x :: st) := by
  obtain ⟨p, l, e, R, s, m, args, below, meth, c⟩ := E
  intro H locs ls hP hS hh
  exact lv_i2c F.1 F.2.1 hd rfl (kk H locs ls hP hS hh)
theorem go_dup {a : Value} (F : Fx E G A own cc nL ret fr lo kc ks) (hd : decode cc pc = .ok (.dup, 1)) (ha : a.category = 1) (kk : Go E G A kc ks Q nL V (pc + 1) lv (a :: a :: st)) : Go E G A kc ks Q nL V pc lv (a :: st) := by
  obtain ⟨p, l, e, R, s, m, args, below, meth, c⟩ := E
  intro H locs ls hP hS hh
  exact lv_dup F.1 F.2.1 hd ha (kk H locs ls hP hS hh)
theorem go_dup2 {a b : Value} (F : Fx E G A own cc nL ret fr lo kc ks) (hd : decode cc pc = .ok (.dup2, 1)) (ha : a.category = 1) (hb : b.category = 1) (kk : Go E G A kc ks Q nL V (pc + 1) lv (a :: b :: a :: b :: st)) : Go E G A kc ks Q nL V pc lv (a :: b :: st) := by
  obtain ⟨p, l, e, R, s, m, args, below, meth, c⟩ := E
  intro H locs ls hP hS hh
  exact lv_dup2_11 F.1 F.2.1 hd ha hb (kk H locs ls hP hS hh)
theorem go_goto {off : Int} (tgt : Nat) (F : Fx E G A own cc nL ret fr lo kc ks) (hd : decode cc pc = .ok (.goto off, 3)) (ht : (pc : Int) + off = (tgt : Int)) (kk : Go E G A kc ks Q nL V tgt lv st) : Go E G A kc ks Q nL V pc lv st := by
  obtain ⟨p, l, e, R, s, m, args, below, meth, c⟩ := E
  intro H locs ls hP hS hh
  exact lv_goto F.1 F.2.1 hd ht (kk H locs ls hP hS hh)
theorem go_nullT {off : Int} (tgt : Nat) (F : Fx E G A own cc nL ret fr lo kc ks) (hd : decode cc pc = .ok (.ifnull off, 3)) (ht : (pc : Int) + off = (tgt : Int)) (kk : Go E G A kc ks Q nL V tgt lv st) : Go E G A kc ks Q nL V pc lv (.null :: st) := by
  obtain ⟨p, l, e, R, s, m, args, below, meth, c⟩ := E
  intro H locs ls hP hS hh
  exact lv_ifnullT F.1 F.2.1 hd ht (kk H locs ls hP hS hh)
theorem go_nullF {off : Int} {x : Nat} (F : Fx E G A own cc nL ret fr lo kc ks) (hd : decode cc pc = .ok (.ifnull off, 3)) (kk : Go E G A kc ks Q nL V (pc + 3) lv st) : Go E G A kc ks Q nL V pc lv (.ref x :: st) := by
  obtain ⟨p, l, e, R, s, m, args, below, meth, c⟩ := E
  intro H locs ls hP hS hh
  exact lv_ifnull F.1 F.2.1 hd (kk H locs ls hP hS hh)

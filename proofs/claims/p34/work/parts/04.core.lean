/-! The one world of all runs: 117 cells at fixed addresses, 0 .. 111 of the class's object, 118 .. 122 the law's rows (118 colours, 119 mast, 120 book, 121 log, 122 numbers), whose ints are a matrix V (cell, place). V's cells 112 .. 117 stand for no cell of the heap: a second state of the same things, in other words, that runs along. -/
abbrev Wd : Type := Nat → Nat → Int32
abbrev Gm : Type := (Nat → Nat) × va_G × ClassId × ClassId × ClassId
def AD (G : Gm) (k : Nat) : Nat := G.1 k
def tysG (G : Gm) : List (ClassId × FieldType) := [(G.2.2.1, .int), (G.2.2.2.2, .object "MastFlags$State")]
/-- the kinds of the cells: 0 MastFlags, 1 State, 2 FlagLocker, 3 Hoists, 4 Book, 5 MessageLog, 6 History, 7 Text, 8 Reading, 1000 + n a row of n ints, 3000 the row of states, 4000 + n a row of the law, 99 none -/
def kdS : List Nat := [1, 2, 1010, 1010, 1010, 3, 1020, 1005, 4, 1012, 1012, 5, 1040, 1008]
def kdL : List Nat := [0] ++ kdS ++ kdS ++ [6, 3000] ++ kdS ++ kdS ++ kdS ++ kdS ++ kdS ++ [7, 1050, 3, 1020, 1005] ++ [8, 1005, 1005] ++ [8, 1005, 1005] ++ [99, 99, 99, 99, 99, 99] ++ [4030, 4020, 4024, 4048, 4007]
def kd (k : Nat) : Nat := kdL.getD k 99
def wEk (G : Gm) (kind k : Nat) (f : Nat → Int32) : va_E :=
  match kind with
  | 0 => .inr (8, [.ref (AD G 1), .ref (AD G 15), .int (f 2), .ref (AD G 29), .ref (AD G 101), .ref (AD G 106), .ref (AD G 109)])
  | 1 => .inr (6, [.ref (AD G (k + 1)), .ref (AD G (k + 5)), .ref (AD G (k + 8)), .ref (AD G (k + 11)), .int (f 4), .int (f 5), .int (f 6), .int (f 7), .int (f 8)])
  | 2 => .inr (1, [.ref (AD G (k + 1)), .ref (AD G (k + 2)), .ref (AD G (k + 3))])
  | 3 => .inr (3, [.ref (AD G (k + 1)), .ref (AD G (k + 2))])
  | 4 => .inr (0, [.ref (AD G (k + 1)), .ref (AD G (k + 2)), .int (f 2)])
  | 5 => .inr (4, [.ref (AD G (k + 1)), .ref (AD G (k + 2)), .int (f 2), .int (f 3)])
  | 6 => .inr (2, [.ref (AD G (k + 1)), .int (f 1), .int (f 2)])
  | 7 => .inr (7, [.ref (AD G (k + 1)), .int (f 1), .ref (AD G (k + 2)), .int (f 3), .int (f 4)])
  | 8 => .inr (5, [.int (f 0), .ref (AD G (k + 1)), .ref (AD G (k + 2)), .int (f 3)])
  | 4030 => .inl (G.2.2.1, (30, .inl f))
  | 4020 => .inl (G.2.2.1, (20, .inl f))
  | 4024 => .inl (G.2.2.1, (24, .inl f))
  | 4048 => .inl (G.2.2.1, (48, .inl f))
  | 4007 => .inl (G.2.2.1, (7, .inl f))
  | 3000 => .inl (G.2.2.2.2, (5, .inr (.inr (.inr (.inr (fun j => some (AD G (k + 1 + 14 * j))))))))
  | n => .inl (G.2.2.1, (n - 1000, .inl f))
def wE (G : Gm) (k : Nat) (f : Nat → Int32) : va_E := wEk G (kd k) k f
def ci_ (i : Nat) : Nat := if i < 112 then i else i + 6
def ix_ (k : Nat) : Nat := if k < 112 then k else k - 6
def Rl (k : Nat) : Prop := k < 112 ∨ (117 < k ∧ k < 123)
theorem Rl.lt {k : Nat} (h : Rl k) : k < 123 := by unfold Rl at h; omega
theorem ci_ix {k : Nat} (h : Rl k) : ci_ (ix_ k) = k := by
  unfold Rl at h
  unfold ci_ ix_
  by_cases q : k < 112
  · rw [if_pos q, if_pos q]
  · rw [if_neg q, if_neg (by omega)]
    omega
theorem ix_lt {k : Nat} (h : Rl k) : ix_ k < 117 := by unfold Rl at h; unfold ix_; split <;> omega
theorem rl_ci {i : Nat} (h : i < 117) : Rl (ci_ i) := by unfold Rl ci_; split <;> omega
theorem ix_ci (i : Nat) : ix_ (ci_ i) = i := by
  unfold ci_ ix_
  by_cases q : i < 112
  · rw [if_pos q, if_pos q]
  · rw [if_neg q, if_neg (by omega)]
    omega
theorem kd_lt {k K : Nat} (h : kd k = K) (hK : K ≠ 99) : Rl k := by
  rcases Nat.lt_or_ge k 112 with q | q
  · exact Or.inl q
  · rcases Nat.lt_or_ge k 118 with q2 | q2
    · exact absurd (h.symm.trans ((show ∀ k, k < 118 → 112 ≤ k → kd k = 99 by decide +kernel) k q2 q)) hK
    · rcases Nat.lt_or_ge k 123 with q3 | q3
      · exact Or.inr ⟨by omega, q3⟩
      · exfalso
        apply hK
        rw [← h]
        unfold kd
        rw [List.getD_eq_getElem?_getD, List.getElem?_eq_none (by simpa [kdL, kdS] using q3)]
        rfl
def wl (G : Gm) (V : Wd) : va_W := (List.range 117).map fun i => (AD G (ci_ i), wE G (ci_ i) (V (ci_ i)))
theorem wl_at {G : Gm} {V : Wd} {i : Nat} (h : i < 117) : (wl G V)[i]? = some (AD G (ci_ i), wE G (ci_ i) (V (ci_ i))) := by
  unfold wl
  rw [List.getElem?_map, List.getElem?_range h]
  rfl
theorem wl_get {G : Gm} {V : Wd} {k : Nat} (h : Rl k) : (wl G V)[ix_ k]? = some (AD G k, wE G k (V k)) := by
  rw [wl_at (ix_lt h), ci_ix h]
theorem wl_len (G : Gm) (V : Wd) : (wl G V).length = 117 := by unfold wl; rw [List.length_map, List.length_range]
def u2 (V : Wd) (k j : Nat) (x : Int32) : Wd := fun a => if a = k then upd (V k) j x else V a
def uf (V : Wd) (k : Nat) (f : Nat → Int32) : Wd := fun a => if a = k then f else V a
theorem u2_uf (V : Wd) (k j : Nat) (x : Int32) : u2 V k j x = uf V k (upd (V k) j x) := rfl
def cp2 (V : Wd) (k0 k1 sp dp n : Nat) : Wd := uf V k1 (va_cpy (V k0) (V k1) sp dp n)
theorem wl_set {G : Gm} {V : Wd} {k : Nat} {f : Nat → Int32} (h : Rl k) : (wl G V).set (ix_ k) (AD G k, wE G k f) = wl G (uf V k f) := by
  apply List.ext_getElem?
  intro i
  rcases Nat.lt_or_ge i 117 with q | q
  · rw [wl_at q]
    by_cases e : ix_ k = i
    · subst e
      rw [List.getElem?_set_self (by rw [wl_len]; exact q), ci_ix h]
      simp [uf]
    · rw [List.getElem?_set_ne e, wl_at q]
      have e2 : ¬ ci_ i = k := fun z => e (by rw [← z, ix_ci])
      simp [uf, e2]
  · rw [List.getElem?_eq_none (by rw [List.length_set, wl_len]; exact q), List.getElem?_eq_none (by rw [wl_len]; exact q)]
def Hp (G : Gm) (V : Wd) (H : Heap) : Prop := va_P G.2.1 vwCl (wl G V) H
def inj (G : Gm) : Prop := ∀ i j, Rl i → Rl j → AD G i = AD G j → i = j
def AG (G : Gm) : Nat → Prop := fun q => ∃ k, Rl k ∧ q = AD G k
theorem wl_D {G : Gm} {A : Nat → Prop} (V : Wd) (h : inj G) (hA : ∀ k, Rl k → A (AD G k)) : va_D A (wl G V) := by
  have key : ∀ (k : Nat) (q : Nat × va_E), (wl G V)[k]? = some q → k < 117 ∧ q.1 = AD G (ci_ k) := by
    intro k q hk
    have hl : k < 117 := by rw [← wl_len G V]; exact (List.getElem?_eq_some_iff.mp hk).1
    rw [wl_at hl] at hk
    cases hk
    exact ⟨hl, rfl⟩
  refine ⟨fun i j p q hi hj e => ?_, fun k q hk => ?_⟩
  · obtain ⟨h1, e1⟩ := key i p hi
    obtain ⟨h2, e2⟩ := key j q hj
    have h3 := h (ci_ i) (ci_ j) (rl_ci h1) (rl_ci h2) (by rw [← e1, ← e2]; exact e)
    rw [← ix_ci i, ← ix_ci j, h3]
  · obtain ⟨h1, e1⟩ := key k q hk
    rw [e1]
    exact hA _ (rl_ci h1)
theorem Hp_fr {G : Gm} {V V1 : Wd} {H : Heap} (h : ∀ k, Rl k → V1 k = V k) (hP : va_P G.2.1 vwCl (wl G V) H) : va_P G.2.1 vwCl (wl G V1) H := by
  have e : wl G V1 = wl G V := by
    apply List.ext_getElem?
    intro i
    rcases Nat.lt_or_ge i 117 with q | q
    · rw [wl_at q, wl_at q, h _ (rl_ci q)]
    · rw [List.getElem?_eq_none (by rw [wl_len]; exact q), List.getElem?_eq_none (by rw [wl_len]; exact q)]
  rw [e]
  exact hP
def Kn (G : Gm) (U : State) : Prop := va_K G.2.1 vwCl (tysG G) U ∧ ∀ w ∈ nws, va_Nw w U
theorem nws_nest : ∀ w ∈ nws, ∃ a i x h, w = Cond.methodLinkNest a i x h := by
  intro w hw
  simp only [nws, List.mem_cons, List.not_mem_nil, or_false] at hw
  rcases hw with h | h | h | h | h | h | h | h | h | h | h <;> subst h <;> exact ⟨_, _, _, _, rfl⟩
theorem Kn.warm {G : Gm} {s U : State} (hW : s.WarmedH U.vm) (h : Kn G s) : Kn G U := by
  refine ⟨va_K.moved hW.alike h.1, fun w hw => ?_⟩
  obtain ⟨a, i, x, o, e⟩ := nws_nest w hw
  have h1 := h.2 w hw
  subst e
  exact va_Nw.warmM hW h1
theorem Kn.same {G : Gm} {s U : State} (e : s.vm = U.vm) (h : Kn G s) : Kn G U := by
  refine ⟨va_K.moved (by rw [e]; exact Vm.Alike.refl U.vm) h.1, fun w hw => ?_⟩
  obtain ⟨a, i, x, o, ew⟩ := nws_nest w hw
  have h1 := h.2 w hw
  subst ew
  exact va_Nw.same rfl e h1
def Pg (G : Gm) (av : List Value) (V : Wd) : Array Value → State → Prop := fun v U => v = av.toArray ∧ Hp G V U.heap ∧ Kn G U ∧ inj G
theorem Pg.blind {G : Gm} {av : List Value} {V : Wd} : FrameBlind (Pg G av V) := fun a U g mk h => ⟨h.1, h.2.1, Kn.same (s := U) rfl h.2.2.1, h.2.2.2⟩
def Qg (G : Gm) (rv : Option Value) (V : Wd) : Array Value → State → Outcome → State → Prop := fun _ st o t => o = .returned rv ∧ Hp G V t.heap ∧ va_F (AG G) st t
/-- a method's contract: from the world V with these arguments it returns rv, the world is V1 then -/
def Ct (l : Launch) (G : Gm) (y : MethodName) (b : ByteArray) (n : Nat) (ret : Option FieldType) (fr lo : Nat) (av : List Value) (V : Wd) (rv : Option Value) (V1 : Wd) : Prop :=
  Met l y (.code y b n ret :: bw) { frames := fr, cells := 0, slots := 0, locals := lo } (Pg G av V) (Qg G rv V1) 0 0 (AG G)
abbrev En : Type := Program × Launch × Env × Room × State × MethodId × Array Value × List Frame × Method × Code
def enL (E : En) : Launch := E.2.1
def Fx (E : En) (G : Gm) (A : Nat → Prop) (own : String) (cc : ByteArray) (nL : Nat) (ret : Option FieldType) (fr lo kc ks : Nat) : Prop :=
  match E with
  | (p, _, _, R, s, m, args, _, meth, c) => p.tables.exec = Jvm.exec ∧ c.code = cc ∧ c.maxLocals = nL ∧ meth.sig.returnType = ret ∧ s.vm.findClass own = some m.cls ∧ (∀ w ∈ bw, w.before args s = true) ∧ meth.locks = false ∧ Kn G s ∧ inj G ∧ (∀ k, Rl k → A (AD G k)) ∧ fr ≤ R.frames ∧ lo ≤ R.locals ∧ kc ≤ R.cells ∧ ks ≤ R.slots
def Go (E : En) (G : Gm) (A : Nat → Prop) (kc ks : Nat) (Q : State → Prop) (nL : Nat) (V : Wd) (pc : Nat) (lv : List (Nat × Value)) (st : List Value) : Prop :=
  match E with
  | (p, l, e, R, s, m, args, below, meth, c) => ∀ (H : Heap) (locs : List Loc) (ls : Array Slot), Hp G V H → va_S A s.heap H locs → lv_has ls nL lv → W p l e R s m args below meth c H locs kc ks Q (F0 m pc ls st)
def MQq (E : En) (G : Gm) (rv : Option Value) (V : Wd) : State → Prop :=
  match E with
  | (_, _, _, _, s, _, args, below, _, _) => MQ below (Qg G rv V) args s 0 0 (AG G)
def li_ {α β : Type} (a : α) (f : α → β) : β := f a
def rd_ (f : Nat → Int32) (n : Nat) (i : Int32) : Option Int32 := if i < 0 ∨ n ≤ i.toNatClampNeg then none else some (f i.toNatClampNeg)
def FU_ : Nat := 1000
theorem ob_ {α β : Type} {x : Option α} {f : α → Option β} {z : β} (h : x.bind f = some z) : ∃ a, x = some a ∧ f a = some z := by
  cases x with
  | none => cases h
  | some a => exact ⟨a, rfl, h⟩
theorem rd_ok {f : Nat → Int32} {n : Nat} {i x : Int32} (h : rd_ f n i = some x) : vp_in i n ∧ x = f i.toNatClampNeg := by
  unfold rd_ at h
  split at h
  · cases h
  · next q => exact ⟨q, (Option.some.inj h).symm⟩
def refv (G : Gm) (o : Option Nat) : Value := match o with
  | none => .null
  | some k => .ref (AD G k)
section CORE
variable {E : En} {G : Gm} {A : Nat → Prop} {own : String} {cc : ByteArray} {nL fr lo kc ks : Nat} {ret : Option FieldType} {Q : State → Prop} {V : Wd} {pc : Nat} {lv : List (Nat × Value)} {st : List Value}
/-- a method's contract out of its body's walk -/
theorem Ct.of {l : Launch} {y : MethodName} {own : String} {b : ByteArray} {n : Nat} {ret : Option FieldType} {fr lo : Nat} {av : List Value} {V : Wd} {rv : Option Value} {V1 : Wd} (hy : plainName y.cls = true) (hown : y.cls = own)
    (hlv : (lg_sl av).length ≤ n)
    (body : ∀ E : En, Fx E G (AG G) own b n ret fr lo 0 0 → enL E = l → Go E G (AG G) 0 0 (MQq E G rv V1) n V 0 (lv_args 0 av) []) : Ct l G y b n ret fr lo av V rv V1 := by
  refine Met.ofW (cc := b) (maxL := n) (ret := ret) hy rfl ?_
  intro p e s m args below meth c s₁ B hml hv
  obtain ⟨rfl, hP, hK, hI⟩ := hv
  have hts := atoms_spec (ws := .code y b n ret :: bw) B.pre
  have hl := lv_entry av (n := n) hlv
  rw [lg_entry_eq]
  refine body (p, l, e, (headSpec (.code y b n ret :: bw) { frames := fr, cells := 0, slots := 0, locals := lo }).room, s, m, av.toArray, below, meth, c) ⟨B.exec, B.bytes, hml, B.returns, ?_, fun w hw => hts w (List.mem_cons_of_mem _ hw), B.notSynchronized, hK, hI, fun k hk => ⟨k, hk, rfl⟩, Nat.le_refl _, Nat.le_refl _, Nat.le_refl _, Nat.le_refl _⟩ rfl s.heap [] _ hP va_S.rf hl
  rw [← hown]
  exact findClass_of_methodNamed B.named
theorem go_sub {lv' : List (Nat × Value)} (ps : List Nat) (hp : lv_pick lv ps = lv') (kk : Go E G A kc ks Q nL V pc lv' st) : Go E G A kc ks Q nL V pc lv st := by
  obtain ⟨p, l, e, R, s, m, args, below, meth, c⟩ := E
  intro H locs ls hP hS hl
  exact kk H locs ls hP hS (lv_sub hl ps hp)
theorem go_iloadn {k : Fin 4} {x : Int32} (F : Fx E G A own cc nL ret fr lo kc ks) (hd : decode cc pc = .ok (.iload_n k, 1)) (i : Nat) (hl : lv[i]? = some (k.val, .int x)) (kk : Go E G A kc ks Q nL V (pc + 1) lv (.int x :: st)) : Go E G A kc ks Q nL V pc lv st := by
  obtain ⟨p, l, e, R, s, m, args, below, meth, c⟩ := E
  intro H locs ls hP hS hv
  exact lv_iload_n F.1 F.2.1 hd rfl (lv_at hv i hl) (kk H locs ls hP hS hv)
theorem go_iload {k : Nat} {x : Int32} (F : Fx E G A own cc nL ret fr lo kc ks) (hd : decode cc pc = .ok (.iload k, 2)) (i : Nat) (hl : lv[i]? = some (k, .int x)) (kk : Go E G A kc ks Q nL V (pc + 2) lv (.int x :: st)) : Go E G A kc ks Q nL V pc lv st := by
  obtain ⟨p, l, e, R, s, m, args, below, meth, c⟩ := E
  intro H locs ls hP hS hv
  exact lv_iload F.1 F.2.1 hd (lv_at hv i hl) (kk H locs ls hP hS hv)
theorem go_aloadn {k : Fin 4} {x : Nat} (F : Fx E G A own cc nL ret fr lo kc ks) (hd : decode cc pc = .ok (.aload_n k, 1)) (i : Nat) (hl : lv[i]? = some (k.val, .ref x)) (kk : Go E G A kc ks Q nL V (pc + 1) lv (.ref x :: st)) : Go E G A kc ks Q nL V pc lv st := by
  obtain ⟨p, l, e, R, s, m, args, below, meth, c⟩ := E
  intro H locs ls hP hS hv
  exact lv_aload_n F.1 F.2.1 hd rfl (lv_at hv i hl) (kk H locs ls hP hS hv)
theorem go_istoren {k : Fin 4} {x : Int32} {lv' : List (Nat × Value)} (F : Fx E G A own cc nL ret fr lo kc ks) (hd : decode cc pc = .ok (.istore_n k, 1)) (hn : k.val < nL) (hl : (k.val, Value.int x) :: lv.filter (fun q => !(q.1 == k.val) && !(q.1 + 1 == k.val && q.2.category == 2)) = lv') (kk : Go E G A kc ks Q nL V (pc + 1) lv' st) : Go E G A kc ks Q nL V pc lv (.int x :: st) := by
  obtain ⟨p, l, e, R, s, m, args, below, meth, c⟩ := E
  intro H locs ls hP hS hv
  exact lv_istore_n F.1 F.2.1 hd rfl hv hn hl (fun ls' hv' => kk H locs ls' hP hS hv')
theorem go_istore {k : Nat} {x : Int32} {lv' : List (Nat × Value)} (F : Fx E G A own cc nL ret fr lo kc ks) (hd : decode cc pc = .ok (.istore k, 2)) (hn : k < nL) (hl : (k, Value.int x) :: lv.filter (fun q => !(q.1 == k) && !(q.1 + 1 == k && q.2.category == 2)) = lv') (kk : Go E G A kc ks Q nL V (pc + 2) lv' st) : Go E G A kc ks Q nL V pc lv (.int x :: st) := by
  obtain ⟨p, l, e, R, s, m, args, below, meth, c⟩ := E
  intro H locs ls hP hS hv
  exact lv_istore F.1 F.2.1 hd hv hn hl (fun ls' hv' => kk H locs ls' hP hS hv')
theorem go_astoren {k : Fin 4} {x : Nat} {lv' : List (Nat × Value)} (F : Fx E G A own cc nL ret fr lo kc ks) (hd : decode cc pc = .ok (.astore_n k, 1)) (hn : k.val < nL) (hl : (k.val, Value.ref x) :: lv.filter (fun q => !(q.1 == k.val) && !(q.1 + 1 == k.val && q.2.category == 2)) = lv') (kk : Go E G A kc ks Q nL V (pc + 1) lv' st) : Go E G A kc ks Q nL V pc lv (.ref x :: st) := by
  obtain ⟨p, l, e, R, s, m, args, below, meth, c⟩ := E
  intro H locs ls hP hS hv
  exact lv_astore_n F.1 F.2.1 hd rfl hv hn hl (fun ls' hv' => kk H locs ls' hP hS hv')
theorem go_iinc {i k : Nat} {n : Int} {x : Int32} (v : Int32) {lv' : List (Nat × Value)} (F : Fx E G A own cc nL ret fr lo kc ks) (hd : decode cc pc = .ok (.iinc i n, 3)) (hk : lv[k]? = some (i, .int x)) (hv : x + Int32.ofInt n = v) (hn : i < nL) (hl : (i, Value.int v) :: lv.filter (fun q => !(q.1 == i) && !(q.1 + 1 == i && q.2.category == 2)) = lv') (kk : Go E G A kc ks Q nL V (pc + 3) lv' st) : Go E G A kc ks Q nL V pc lv st := by
  obtain ⟨p, l, e, R, s, m, args, below, meth, c⟩ := E
  intro H locs ls hP hS hh
  exact lv_iinc F.1 F.2.1 hd hh hk hv hn hl (fun ls' hv' => kk H locs ls' hP hS hv')
theorem go_iconst {n : Int} (v : Int32) (F : Fx E G A own cc nL ret fr lo kc ks) (hd : decode cc pc = .ok (.iconst n, 1)) (hv : Int32.ofInt n = v) (kk : Go E G A kc ks Q nL V (pc + 1) lv (.int v :: st)) : Go E G A kc ks Q nL V pc lv st := by
  obtain ⟨p, l, e, R, s, m, args, below, meth, c⟩ := E
  intro H locs ls hP hS hh
  exact lv_iconst F.1 F.2.1 hd hv (kk H locs ls hP hS hh)
theorem go_bipush {n : Int} (v : Int32) (F : Fx E G A own cc nL ret fr lo kc ks) (hd : decode cc pc = .ok (.bipush n, 2)) (hv : (Int8.ofInt n).toInt32 = v) (kk : Go E G A kc ks Q nL V (pc + 2) lv (.int v :: st)) : Go E G A kc ks Q nL V pc lv st := by
  obtain ⟨p, l, e, R, s, m, args, below, meth, c⟩ := E
  intro H locs ls hP hS hh
  exact lv_bipush F.1 F.2.1 hd hv (kk H locs ls hP hS hh)
theorem go_sipush {n : Int} (v : Int32) (F : Fx E G A own cc nL ret fr lo kc ks) (hd : decode cc pc = .ok (.sipush n, 3)) (hv : (Int16.ofInt n).toInt32 = v) (kk : Go E G A kc ks Q nL V (pc + 3) lv (.int v :: st)) : Go E G A kc ks Q nL V pc lv st := by
  obtain ⟨p, l, e, R, s, m, args, below, meth, c⟩ := E
  intro H locs ls hP hS hh
  exact lv_sipush F.1 F.2.1 hd hv (kk H locs ls hP hS hh)
theorem go_null (F : Fx E G A own cc nL ret fr lo kc ks) (hd : decode cc pc = .ok (.aconst_null, 1)) (kk : Go E G A kc ks Q nL V (pc + 1) lv (.null :: st)) : Go E G A kc ks Q nL V pc lv st := by
  obtain ⟨p, l, e, R, s, m, args, below, meth, c⟩ := E
  intro H locs ls hP hS hh
  exact lv_null F.1 F.2.1 hd (kk H locs ls hP hS hh)
theorem go_iadd {x y : Int32} (F : Fx E G A own cc nL ret fr lo kc ks) (hd : decode cc pc = .ok (.iadd, 1)) (kk : Go E G A kc ks Q nL V (pc + 1) lv (.int (x + y) :: st)) : Go E G A kc ks Q nL V pc lv (.int y :: .int x :: st) := by
  obtain ⟨p, l, e, R, s, m, args, below, meth, c⟩ := E
  intro H locs ls hP hS hh
  exact lv_iadd F.1 F.2.1 hd (kk H locs ls hP hS hh)
theorem go_isub {x y : Int32} (F : Fx E G A own cc nL ret fr lo kc ks) (hd : decode cc pc = .ok (.isub, 1)) (kk : Go E G A kc ks Q nL V (pc + 1) lv (.int (x - y) :: st)) : Go E G A kc ks Q nL V pc lv (.int y :: .int x :: st) := by
  obtain ⟨p, l, e, R, s, m, args, below, meth, c⟩ := E
  intro H locs ls hP hS hh
  exact lv_isub F.1 F.2.1 hd (kk H locs ls hP hS hh)
theorem go_imul {x y : Int32} (F : Fx E G A own cc nL ret fr lo kc ks) (hd : decode cc pc = .ok (.imul, 1)) (kk : Go E G A kc ks Q nL V (pc + 1) lv (.int (x * y) :: st)) : Go E G A kc ks Q nL V pc lv (.int y :: .int x :: st) := by
  obtain ⟨p, l, e, R, s, m, args, below, meth, c⟩ := E
  intro H locs ls hP hS hh
  exact lv_imul F.1 F.2.1 hd (kk H locs ls hP hS hh)
theorem go_iand {x y : Int32} (F : Fx E G A own cc nL ret fr lo kc ks) (hd : decode cc pc = .ok (.iand, 1)) (kk : Go E G A kc ks Q nL V (pc + 1) lv (.int (x &&& y) :: st)) : Go E G A kc ks Q nL V pc lv (.int y :: .int x :: st) := by
  obtain ⟨p, l, e, R, s, m, args, below, meth, c⟩ := E
  intro H locs ls hP hS hh
  exact lv_iand F.1 F.2.1 hd (kk H locs ls hP hS hh)
theorem go_idiv {x y : Int32} (F : Fx E G A own cc nL ret fr lo kc ks) (hd : decode cc pc = .ok (.idiv, 1)) (hy : ¬ y = 0) (kk : Go E G A kc ks Q nL V (pc + 1) lv (.int (x / y) :: st)) : Go E G A kc ks Q nL V pc lv (.int y :: .int x :: st) := by
  obtain ⟨p, l, e, R, s, m, args, below, meth, c⟩ := E
  intro H locs ls hP hS hh
  exact lv_idiv F.1 F.2.1 hd hy (kk H locs ls hP hS hh)
theorem go_irem {x y : Int32} (F : Fx E G A own cc nL ret fr lo kc ks) (hd : decode cc pc = .ok (.irem, 1)) (hy : ¬ y = 0) (kk : Go E G A kc ks Q nL V (pc + 1) lv (.int (x - x / y * y) :: st)) : Go E G A kc ks Q nL V pc lv (.int y :: .int x :: st) := by
  obtain ⟨p, l, e, R, s, m, args, below, meth, c⟩ := E
  intro H locs ls hP hS hh
  exact lv_irem F.1 F.2.1 hd hy (kk H locs ls hP hS hh)
def i2c (x : Int32) : Int32 := (x.toUInt32 % 65536).toInt32
theorem go_i2c {x : Int32} (F : Fx E G A own cc nL ret fr lo kc ks) (hd : decode cc pc = .ok (.i2c, 1)) (kk : Go E G A kc ks Q nL V (pc + 1) lv (.int (i2c x) :: st)) : Go E G A kc ks Q nL V pc lv (.int x :: st) := by
  obtain ⟨p, l, e, R, s, m, args, below, meth, c⟩ := E
  intro H locs ls hP hS hh
  exact lv_i2c F.1 F.2.1 hd rfl (kk H locs ls hP hS hh)
theorem go_dup {a : Value} (F : Fx E G A own cc nL ret fr lo kc ks) (hd : decode cc pc = .ok (.dup, 1)) (ha : a.category = 1) (kk : Go E G A kc ks Q nL V (pc + 1) lv (a :: a :: st)) : Go E G A kc ks Q nL V pc lv (a :: st) := by
  obtain ⟨p, l, e, R, s, m, args, below, meth, c⟩ := E
  intro H locs ls hP hS hh
  exact lv_dup F.1 F.2.1 hd ha (kk H locs ls hP hS hh)
theorem go_dup2 {a b : Value} (F : Fx E G A own cc nL ret fr lo kc ks) (hd : decode cc pc = .ok (.dup2, 1)) (ha : a.category = 1) (hb : b.category = 1) (kk : Go E G A kc ks Q nL V (pc + 1) lv (a :: b :: a :: b :: st)) : Go E G A kc ks Q nL V pc lv (a :: b :: st) := by
  obtain ⟨p, l, e, R, s, m, args, below, meth, c⟩ := E
  intro H locs ls hP hS hh
  exact lv_dup2_11 F.1 F.2.1 hd ha hb (kk H locs ls hP hS hh)
theorem go_goto {off : Int} (tgt : Nat) (F : Fx E G A own cc nL ret fr lo kc ks) (hd : decode cc pc = .ok (.goto off, 3)) (ht : (pc : Int) + off = (tgt : Int)) (kk : Go E G A kc ks Q nL V tgt lv st) : Go E G A kc ks Q nL V pc lv st := by
  obtain ⟨p, l, e, R, s, m, args, below, meth, c⟩ := E
  intro H locs ls hP hS hh
  exact lv_goto F.1 F.2.1 hd ht (kk H locs ls hP hS hh)
theorem go_nullT {off : Int} (tgt : Nat) (F : Fx E G A own cc nL ret fr lo kc ks) (hd : decode cc pc = .ok (.ifnull off, 3)) (ht : (pc : Int) + off = (tgt : Int)) (kk : Go E G A kc ks Q nL V tgt lv st) : Go E G A kc ks Q nL V pc lv (.null :: st) := by
  obtain ⟨p, l, e, R, s, m, args, below, meth, c⟩ := E
  intro H locs ls hP hS hh
  exact lv_ifnullN F.1 F.2.1 hd ht (kk H locs ls hP hS hh)
theorem go_nullF {off : Int} {x : Nat} (F : Fx E G A own cc nL ret fr lo kc ks) (hd : decode cc pc = .ok (.ifnull off, 3)) (kk : Go E G A kc ks Q nL V (pc + 3) lv st) : Go E G A kc ks Q nL V pc lv (.ref x :: st) := by
  obtain ⟨p, l, e, R, s, m, args, below, meth, c⟩ := E
  intro H locs ls hP hS hh
  exact lv_ifnull F.1 F.2.1 hd (kk H locs ls hP hS hh)
theorem go_icmp_eq {α : Type} {a b z : α} {x y : Int32} {off : Int} (tgt : Nat) (F : Fx E G A own cc nL ret fr lo kc ks) (hd : decode cc pc = .ok (.if_icmp .eq off, 3)) (ht : (pc : Int) + off = (tgt : Int)) (h : (if x = y then a else b) = z)
    (kt : x = y → a = z → Go E G A kc ks Q nL V tgt lv st) (kf : ¬ x = y → b = z → Go E G A kc ks Q nL V (pc + 3) lv st) : Go E G A kc ks Q nL V pc lv (.int y :: .int x :: st) := by
  obtain ⟨p, l, e, R, s, m, args, below, meth, c⟩ := E
  intro H locs ls hP hS hh
  exact lv_icmp_eq F.1 F.2.1 hd ht (fun q => kt q (by rw [if_pos q] at h; exact h) H locs ls hP hS hh) (fun q => kf q (by rw [if_neg q] at h; exact h) H locs ls hP hS hh)
theorem go_icmp_ne {α : Type} {a b z : α} {x y : Int32} {off : Int} (tgt : Nat) (F : Fx E G A own cc nL ret fr lo kc ks) (hd : decode cc pc = .ok (.if_icmp .ne off, 3)) (ht : (pc : Int) + off = (tgt : Int)) (h : (if x = y then b else a) = z)
    (kt : ¬ x = y → a = z → Go E G A kc ks Q nL V tgt lv st) (kf : x = y → b = z → Go E G A kc ks Q nL V (pc + 3) lv st) : Go E G A kc ks Q nL V pc lv (.int y :: .int x :: st) := by
  obtain ⟨p, l, e, R, s, m, args, below, meth, c⟩ := E
  intro H locs ls hP hS hh
  exact lv_icmp_ne F.1 F.2.1 hd ht (fun q => kt q (by rw [if_neg q] at h; exact h) H locs ls hP hS hh) (fun q => kf q (by rw [if_pos q] at h; exact h) H locs ls hP hS hh)
theorem go_icmp_lt {α : Type} {a b z : α} {x y : Int32} {off : Int} (tgt : Nat) (F : Fx E G A own cc nL ret fr lo kc ks) (hd : decode cc pc = .ok (.if_icmp .lt off, 3)) (ht : (pc : Int) + off = (tgt : Int)) (h : (if x < y then a else b) = z)
    (kt : x < y → a = z → Go E G A kc ks Q nL V tgt lv st) (kf : ¬ x < y → b = z → Go E G A kc ks Q nL V (pc + 3) lv st) : Go E G A kc ks Q nL V pc lv (.int y :: .int x :: st) := by
  obtain ⟨p, l, e, R, s, m, args, below, meth, c⟩ := E
  intro H locs ls hP hS hh
  exact lv_icmp_lt F.1 F.2.1 hd ht (fun q => kt q (by rw [if_pos q] at h; exact h) H locs ls hP hS hh) (fun q => kf q (by rw [if_neg q] at h; exact h) H locs ls hP hS hh)
theorem go_icmp_ge {α : Type} {a b z : α} {x y : Int32} {off : Int} (tgt : Nat) (F : Fx E G A own cc nL ret fr lo kc ks) (hd : decode cc pc = .ok (.if_icmp .ge off, 3)) (ht : (pc : Int) + off = (tgt : Int)) (h : (if y ≤ x then a else b) = z)
    (kt : y ≤ x → a = z → Go E G A kc ks Q nL V tgt lv st) (kf : ¬ y ≤ x → b = z → Go E G A kc ks Q nL V (pc + 3) lv st) : Go E G A kc ks Q nL V pc lv (.int y :: .int x :: st) := by
  obtain ⟨p, l, e, R, s, m, args, below, meth, c⟩ := E
  intro H locs ls hP hS hh
  exact lv_icmp_ge F.1 F.2.1 hd ht (fun q => kt q (by rw [if_pos q] at h; exact h) H locs ls hP hS hh) (fun q => kf q (by rw [if_neg q] at h; exact h) H locs ls hP hS hh)
theorem go_icmp_gt {α : Type} {a b z : α} {x y : Int32} {off : Int} (tgt : Nat) (F : Fx E G A own cc nL ret fr lo kc ks) (hd : decode cc pc = .ok (.if_icmp .gt off, 3)) (ht : (pc : Int) + off = (tgt : Int)) (h : (if y < x then a else b) = z)
    (kt : y < x → a = z → Go E G A kc ks Q nL V tgt lv st) (kf : ¬ y < x → b = z → Go E G A kc ks Q nL V (pc + 3) lv st) : Go E G A kc ks Q nL V pc lv (.int y :: .int x :: st) := by
  obtain ⟨p, l, e, R, s, m, args, below, meth, c⟩ := E
  intro H locs ls hP hS hh
  exact lv_icmp_gt F.1 F.2.1 hd ht (fun q => kt q (by rw [if_pos q] at h; exact h) H locs ls hP hS hh) (fun q => kf q (by rw [if_neg q] at h; exact h) H locs ls hP hS hh)
theorem go_icmp_le {α : Type} {a b z : α} {x y : Int32} {off : Int} (tgt : Nat) (F : Fx E G A own cc nL ret fr lo kc ks) (hd : decode cc pc = .ok (.if_icmp .le off, 3)) (ht : (pc : Int) + off = (tgt : Int)) (h : (if x ≤ y then a else b) = z)
    (kt : x ≤ y → a = z → Go E G A kc ks Q nL V tgt lv st) (kf : ¬ x ≤ y → b = z → Go E G A kc ks Q nL V (pc + 3) lv st) : Go E G A kc ks Q nL V pc lv (.int y :: .int x :: st) := by
  obtain ⟨p, l, e, R, s, m, args, below, meth, c⟩ := E
  intro H locs ls hP hS hh
  exact lv_icmp_le F.1 F.2.1 hd ht (fun q => kt q (by rw [if_pos q] at h; exact h) H locs ls hP hS hh) (fun q => kf q (by rw [if_neg q] at h; exact h) H locs ls hP hS hh)
theorem go_if_eq {α : Type} {a b z : α} {x : Int32} {off : Int} (tgt : Nat) (F : Fx E G A own cc nL ret fr lo kc ks) (hd : decode cc pc = .ok (.ifCond .eq off, 3)) (ht : (pc : Int) + off = (tgt : Int)) (h : (if x = 0 then a else b) = z)
    (kt : x = 0 → a = z → Go E G A kc ks Q nL V tgt lv st) (kf : ¬ x = 0 → b = z → Go E G A kc ks Q nL V (pc + 3) lv st) : Go E G A kc ks Q nL V pc lv (.int x :: st) := by
  obtain ⟨p, l, e, R, s, m, args, below, meth, c⟩ := E
  intro H locs ls hP hS hh
  exact lv_if_eq F.1 F.2.1 hd ht (fun q => kt q (by rw [if_pos q] at h; exact h) H locs ls hP hS hh) (fun q => kf q (by rw [if_neg q] at h; exact h) H locs ls hP hS hh)
theorem go_if_ne {α : Type} {a b z : α} {x : Int32} {off : Int} (tgt : Nat) (F : Fx E G A own cc nL ret fr lo kc ks) (hd : decode cc pc = .ok (.ifCond .ne off, 3)) (ht : (pc : Int) + off = (tgt : Int)) (h : (if x = 0 then b else a) = z)
    (kt : ¬ x = 0 → a = z → Go E G A kc ks Q nL V tgt lv st) (kf : x = 0 → b = z → Go E G A kc ks Q nL V (pc + 3) lv st) : Go E G A kc ks Q nL V pc lv (.int x :: st) := by
  obtain ⟨p, l, e, R, s, m, args, below, meth, c⟩ := E
  intro H locs ls hP hS hh
  exact lv_if_ne F.1 F.2.1 hd ht (fun q => kt q (by rw [if_neg q] at h; exact h) H locs ls hP hS hh) (fun q => kf q (by rw [if_pos q] at h; exact h) H locs ls hP hS hh)
theorem go_if_lt {α : Type} {a b z : α} {x : Int32} {off : Int} (tgt : Nat) (F : Fx E G A own cc nL ret fr lo kc ks) (hd : decode cc pc = .ok (.ifCond .lt off, 3)) (ht : (pc : Int) + off = (tgt : Int)) (h : (if x < 0 then a else b) = z)
    (kt : x < 0 → a = z → Go E G A kc ks Q nL V tgt lv st) (kf : ¬ x < 0 → b = z → Go E G A kc ks Q nL V (pc + 3) lv st) : Go E G A kc ks Q nL V pc lv (.int x :: st) := by
  obtain ⟨p, l, e, R, s, m, args, below, meth, c⟩ := E
  intro H locs ls hP hS hh
  exact lv_if_lt F.1 F.2.1 hd ht (fun q => kt q (by rw [if_pos q] at h; exact h) H locs ls hP hS hh) (fun q => kf q (by rw [if_neg q] at h; exact h) H locs ls hP hS hh)
theorem go_if_ge {α : Type} {a b z : α} {x : Int32} {off : Int} (tgt : Nat) (F : Fx E G A own cc nL ret fr lo kc ks) (hd : decode cc pc = .ok (.ifCond .ge off, 3)) (ht : (pc : Int) + off = (tgt : Int)) (h : (if 0 ≤ x then a else b) = z)
    (kt : 0 ≤ x → a = z → Go E G A kc ks Q nL V tgt lv st) (kf : ¬ 0 ≤ x → b = z → Go E G A kc ks Q nL V (pc + 3) lv st) : Go E G A kc ks Q nL V pc lv (.int x :: st) := by
  obtain ⟨p, l, e, R, s, m, args, below, meth, c⟩ := E
  intro H locs ls hP hS hh
  exact lv_if_ge F.1 F.2.1 hd ht (fun q => kt q (by rw [if_pos q] at h; exact h) H locs ls hP hS hh) (fun q => kf q (by rw [if_neg q] at h; exact h) H locs ls hP hS hh)
theorem go_if_gt {α : Type} {a b z : α} {x : Int32} {off : Int} (tgt : Nat) (F : Fx E G A own cc nL ret fr lo kc ks) (hd : decode cc pc = .ok (.ifCond .gt off, 3)) (ht : (pc : Int) + off = (tgt : Int)) (h : (if 0 < x then a else b) = z)
    (kt : 0 < x → a = z → Go E G A kc ks Q nL V tgt lv st) (kf : ¬ 0 < x → b = z → Go E G A kc ks Q nL V (pc + 3) lv st) : Go E G A kc ks Q nL V pc lv (.int x :: st) := by
  obtain ⟨p, l, e, R, s, m, args, below, meth, c⟩ := E
  intro H locs ls hP hS hh
  exact lv_if_gt F.1 F.2.1 hd ht (fun q => kt q (by rw [if_pos q] at h; exact h) H locs ls hP hS hh) (fun q => kf q (by rw [if_neg q] at h; exact h) H locs ls hP hS hh)
theorem go_if_le {α : Type} {a b z : α} {x : Int32} {off : Int} (tgt : Nat) (F : Fx E G A own cc nL ret fr lo kc ks) (hd : decode cc pc = .ok (.ifCond .le off, 3)) (ht : (pc : Int) + off = (tgt : Int)) (h : (if x ≤ 0 then a else b) = z)
    (kt : x ≤ 0 → a = z → Go E G A kc ks Q nL V tgt lv st) (kf : ¬ x ≤ 0 → b = z → Go E G A kc ks Q nL V (pc + 3) lv st) : Go E G A kc ks Q nL V pc lv (.int x :: st) := by
  obtain ⟨p, l, e, R, s, m, args, below, meth, c⟩ := E
  intro H locs ls hP hS hh
  exact lv_if_le F.1 F.2.1 hd ht (fun q => kt q (by rw [if_pos q] at h; exact h) H locs ls hP hS hh) (fun q => kf q (by rw [if_neg q] at h; exact h) H locs ls hP hS hh)
/-- a guard of the pure word, no step of the machine -/
theorem go_gd {α : Type} {c : Prop} [Decidable c] {a : Option α} {z : α} (h : (if c then a else none) = some z) (k : c → a = some z → Go E G A kc ks Q nL V pc lv st) : Go E G A kc ks Q nL V pc lv st := by
  by_cases q : c
  · rw [if_pos q] at h; exact k q h
  · rw [if_neg q] at h; cases h
theorem go_sw {α : Type} {c : Prop} [Decidable c] {a b z : α} (h : (if c then a else b) = z) (k : c → a = z → Go E G A kc ks Q nL V pc lv st) (k2 : ¬ c → b = z → Go E G A kc ks Q nL V pc lv st) : Go E G A kc ks Q nL V pc lv st := by
  by_cases q : c
  · rw [if_pos q] at h; exact k q h
  · rw [if_neg q] at h; exact k2 q h
theorem go_tabI {dflt lo0 hi : Int} {offs : Array Int} {len : Nat} {x v : Int32} {off : Int} (tgt : Nat) (F : Fx E G A own cc nL ret fr lo kc ks) (hd : decode cc pc = .ok (.tableswitch dflt lo0 hi offs, len)) (hx : x = v) (h1 : ¬ v.toInt < lo0) (h2 : ¬ hi < v.toInt) (ho : offs[(v.toInt - lo0).toNat]? = some off) (ht : (pc : Int) + off = (tgt : Int)) (kk : Go E G A kc ks Q nL V tgt lv st) : Go E G A kc ks Q nL V pc lv (.int x :: st) := by
  obtain ⟨p, l, e, R, s, m, args, below, meth, c⟩ := E
  intro H locs ls hP hS hh
  subst hx
  exact lv_tableIn F.1 F.2.1 hd h1 h2 ho ht (kk H locs ls hP hS hh)
theorem go_tabO {dflt lo0 hi : Int} {offs : Array Int} {len : Nat} {x : Int32} (tgt : Nat) (F : Fx E G A own cc nL ret fr lo kc ks) (hd : decode cc pc = .ok (.tableswitch dflt lo0 hi offs, len)) (hx : x.toInt < lo0 ∨ hi < x.toInt) (ht : (pc : Int) + dflt = (tgt : Int)) (kk : Go E G A kc ks Q nL V tgt lv st) : Go E G A kc ks Q nL V pc lv (.int x :: st) := by
  obtain ⟨p, l, e, R, s, m, args, below, meth, c⟩ := E
  intro H locs ls hP hS hh
  exact lv_tableOut F.1 F.2.1 hd hx ht (kk H locs ls hP hS hh)
theorem tab_out {x : Int32} (n : Nat) (hn : n < 1000) (h : ∀ j : Nat, j < n → ¬ x = nI j) : x.toInt < 0 ∨ (n : Int) - 1 < x.toInt := by
  by_cases q : x.toInt < 0
  · exact Or.inl q
  · by_cases q2 : (n : Int) - 1 < x.toInt
    · exact Or.inr q2
    · exfalso
      obtain ⟨j, hj, e⟩ := vp_in_of (x := x) (n := n) (vp_in_iff.mpr ⟨by omega, by omega⟩) (by omega)
      exact h j hj e
theorem go_lkp {dflt : Int} {ps : Array (Int × Int)} {len : Nat} {x : Int32} {off : Int} (tgt : Nat) (F : Fx E G A own cc nL ret fr lo kc ks) (hd : decode cc pc = .ok (.lookupswitch dflt ps, len)) (hp : (ps.toList.zip (ps.toList.drop 1)).all (fun (a, next) => a.1 < next.1) = true) (ho : Op.lookupswitch.offset ps.toList dflt x.toInt = off) (ht : (pc : Int) + off = (tgt : Int)) (kk : Go E G A kc ks Q nL V tgt lv st) : Go E G A kc ks Q nL V pc lv (.int x :: st) := by
  obtain ⟨p, l, e, R, s, m, args, below, meth, c⟩ := E
  intro H locs ls hP hS hh
  exact lv_lookup F.1 F.2.1 hd hp ho ht (kk H locs ls hP hS hh)
theorem go_get {C : String} {T : u_T} {N ci index k : Nat} {fs : List Value} {v : Value} (F : Fx E G A own cc nL ret fr lo kc ks) (hd : decode cc pc = .ok (.getfield index, 3)) (hc : vwCl[ci]? = some (C, T, N)) (hin : ∀ w ∈ u_ws C T N, w ∈ bw) (j : Nat) (hj : j < N) (hlink : Cond.fieldLink own index (T j).1 (T j).2.1 (T j).2.2.1 ∈ bw) (hk : Rl k) (hw : wE G k (V k) = .inr (ci, fs)) (hv : fs[j]? = some v)
    (kk : Go E G A kc ks Q nL V (pc + 3) lv (v :: st)) : Go E G A kc ks Q nL V pc lv (.ref (AD G k) :: st) := by
  obtain ⟨p, l, e, R, s, m, args, below, meth, c⟩ := E
  intro H locs ls hP hS hh
  obtain ⟨hx, hb, hml, hr, hown, hts, hlk, hK, hI, hA, -⟩ := F
  exact va_get (D := G.2.1) (tys := tysG G) hx hb hts hin hown hK.1 hP (ix_ k) (by rw [wl_get hk, hw]) hc j hj (hts _ hlink) (fun _ h => h) hv hd (kk H locs ls hP hS hh)
theorem go_put {C : String} {T : u_T} {N ci index k : Nat} {fs : List Value} {x : Int32} {ty : FieldType} (F : Fx E G A own cc nL ret fr lo kc ks) (hd : decode cc pc = .ok (.putfield index, 3)) (hc : vwCl[ci]? = some (C, T, N)) (hin : ∀ w ∈ u_ws C T N, w ∈ bw) (ty0 : Nat → FieldType) (hty : ∀ k, k < N → parseFieldDescriptor (T k).2.2.1 = some (ty0 k)) (hnm : ∀ a, a < N → ∀ b, b < N → a ≠ b → (T a).2.1 ≠ (T b).2.1) (j : Nat) (hj : j < N) (hlink : Cond.fieldLink own index (T j).1 (T j).2.1 (T j).2.2.1 ∈ bw) (hfin : (T j).2.2.2 = false) (hpd : parseFieldDescriptor (T j).2.2.1 = some ty) (hn : narrow ty (.int x) = .int x) (hfit : fits ty (.int x) = true)
    (hk : Rl k) (hw : wE G k (V k) = .inr (ci, fs)) (hl : j < fs.length) (hw2 : wE G k (upd (V k) j x) = .inr (ci, fs.set j (.int x))) (kk : Go E G A kc ks Q nL (u2 V k j x) (pc + 3) lv st) : Go E G A kc ks Q nL V pc lv (.int x :: .ref (AD G k) :: st) := by
  obtain ⟨p, l, e, R, s, m, args, below, meth, c⟩ := E
  intro H locs ls hP hS hh
  obtain ⟨hx, hb, hml, hr, hown, hts, hlk, hK, hI, hA, -⟩ := F
  refine va_put (D := G.2.1) (tys := tysG G) hx hb hts hin ty0 hty hnm hown hK.1 hP (wl_D V hI hA) hS (ix_ k) (by rw [wl_get hk, hw]) hc j hj (hts _ hlink) (fun _ h => h) hfin hpd hn hfit hl hd (fun H1 locs1 hP1 hD1 hS1 => kk H1 locs1 ls ?_ hS1 hh)
  rw [← hw2, wl_set hk] at hP1
  exact hP1
theorem wE_arr {k n : Nat} (hk : kd k = 1000 + n) (h9 : n < 1050) (f : Nat → Int32) : wE G k f = .inl (G.2.2.1, (n, .inl f)) := by
  unfold wE
  rw [hk]
  unfold wEk
  split <;> first | omega | (rw [show 1000 + n - 1000 = n by omega])
theorem go_iald {α : Type} {k : Nat} {i : Int32} {f : Int32 → Option α} {z : α} (n : Nat) (F : Fx E G A own cc nL ret fr lo kc ks) (hd : decode cc pc = .ok (.iaload, 1)) (hk : kd k = 1000 + n) (h9 : n < 1050) (h : (rd_ (V k) n i).bind f = some z) (kk : ∀ x : Int32, f x = some z → Go E G A kc ks Q nL V (pc + 1) lv (.int x :: st)) : Go E G A kc ks Q nL V pc lv (.int i :: .ref (AD G k) :: st) := by
  obtain ⟨p, l, e, R, s, m, args, below, meth, c⟩ := E
  intro H locs ls hP hS hh
  obtain ⟨hx, hb, hml, hr, hown, hts, hlk, hK, hI, hA, -⟩ := F
  obtain ⟨x, h1, h2⟩ := ob_ h
  obtain ⟨h3, rfl⟩ := rd_ok h1
  exact va_iald (D := G.2.1) (tys := tysG G) hx hb hK.1 hP (ix_ k) 0 (by rw [wl_get (kd_lt hk (by omega)), wE_arr hk h9]) rfl h3 hd (kk _ h2 H locs ls hP hS hh)
/-- a row's store -/
def st_ {α : Type} (V : Wd) (k n : Nat) (i x : Int32) (f : Wd → Option α) : Option α := if i < 0 ∨ n ≤ i.toNatClampNeg then none else f (u2 V k i.toNatClampNeg x)
theorem st_ok {α : Type} {V : Wd} {k n : Nat} {i x : Int32} {f : Wd → Option α} {z : α} (h : st_ V k n i x f = some z) : vp_in i n ∧ f (u2 V k i.toNatClampNeg x) = some z := by
  unfold st_ at h
  split at h
  · cases h
  · next q => exact ⟨q, h⟩
theorem go_iast {α : Type} {k : Nat} {i x : Int32} {f : Wd → Option α} {z : α} (n : Nat) (F : Fx E G A own cc nL ret fr lo kc ks) (hd : decode cc pc = .ok (.iastore, 1)) (hk : kd k = 1000 + n) (h9 : n < 1050) (h : st_ V k n i x f = some z) (kk : ∀ V1 : Wd, f V1 = some z → Go E G A kc ks Q nL V1 (pc + 1) lv st) : Go E G A kc ks Q nL V pc lv (.int x :: .int i :: .ref (AD G k) :: st) := by
  obtain ⟨p, l, e, R, s, m, args, below, meth, c⟩ := E
  intro H locs ls hP hS hh
  obtain ⟨hx, hb, hml, hr, hown, hts, hlk, hK, hI, hA, -⟩ := F
  obtain ⟨h3, h4⟩ := st_ok h
  have hk8 := kd_lt hk (by omega)
  refine va_iast (D := G.2.1) (tys := tysG G) hx hb hK.1 hP (wl_D V hI hA) hS (ix_ k) 0 (by rw [wl_get hk8, wE_arr hk h9]) rfl h3 hd (fun H1 locs1 hP1 hD1 hS1 => kk _ h4 H1 locs1 ls ?_ hS1 hh)
  rw [← wE_arr (G := G) hk h9, wl_set hk8] at hP1
  exact hP1
theorem go_alen {k : Nat} (n : Nat) (F : Fx E G A own cc nL ret fr lo kc ks) (hd : decode cc pc = .ok (.arraylength, 1)) (hk : kd k = 1000 + n) (h9 : n < 1050) (v : Int32) (hv : Int32.ofNat n = v) (kk : Go E G A kc ks Q nL V (pc + 1) lv (.int v :: st)) : Go E G A kc ks Q nL V pc lv (.ref (AD G k) :: st) := by
  obtain ⟨p, l, e, R, s, m, args, below, meth, c⟩ := E
  intro H locs ls hP hS hh
  obtain ⟨hx, hb, hml, hr, hown, hts, hlk, hK, hI, hA, -⟩ := F
  exact va_alen (D := G.2.1) (tys := tysG G) hx hb hK.1 hP (ix_ k) 0 (by rw [wl_get (kd_lt hk (by omega)), wE_arr hk h9]) rfl hv hd (kk H locs ls hP hS hh)
/-- the row of the states: its i-th is the cell behind it -/
def rq_ (k : Nat) (i : Int32) : Option Nat := if i < 0 ∨ 5 ≤ i.toNatClampNeg then none else some (k + 1 + 14 * i.toNatClampNeg)
theorem go_aald {α : Type} {k : Nat} {i : Int32} {f : Nat → Option α} {z : α} (F : Fx E G A own cc nL ret fr lo kc ks) (hd : decode cc pc = .ok (.aaload, 1)) (hk : kd k = 3000) (h : (rq_ k i).bind f = some z) (kk : ∀ x : Nat, f x = some z → Go E G A kc ks Q nL V (pc + 1) lv (.ref (AD G x) :: st)) : Go E G A kc ks Q nL V pc lv (.int i :: .ref (AD G k) :: st) := by
  obtain ⟨p, l, e, R, s, m, args, below, meth, c⟩ := E
  intro H locs ls hP hS hh
  obtain ⟨hx, hb, hml, hr, hown, hts, hlk, hK, hI, hA, -⟩ := F
  obtain ⟨x, h1, h2⟩ := ob_ h
  have h3 : vp_in i 5 ∧ x = k + 1 + 14 * i.toNatClampNeg := by
    unfold rq_ at h1
    split at h1
    · cases h1
    · next q => exact ⟨q, (Option.some.inj h1).symm⟩
  have hw : wE G k (V k) = .inl (G.2.2.2.2, (5, .inr (.inr (.inr (.inr (fun j => some (AD G (k + 1 + 14 * j)))))))) := by
    unfold wE
    rw [hk]
    rfl
  refine va_aldq (D := G.2.1) (tys := tysG G) hx hb hK.1 hP (ix_ k) 1 (by rw [wl_get (kd_lt hk (by omega)), hw]) rfl h3.1 hd ?_
  have h4 := kk x h2 H locs ls hP hS hh
  rw [h3.2] at h4
  exact h4
theorem go_copy {α : Type} {k0 k1 index : Nat} {sp dp n : Int32} {f : Wd → α} {z : α} (n0 n1 sp' dp' n' : Nat) (F : Fx E G A own cc nL ret fr lo kc ks) (hd : decode cc pc = .ok (.invokestatic index, 3)) (hlink : Cond.methodLink own index arraycopyName ∈ bw) (hk0 : kd k0 = 1000 + n0) (h0 : n0 < 1050) (hk1 : kd k1 = 1000 + n1) (h1 : n1 < 1050)
    (e1 : sp.toNatClampNeg = sp') (e2 : dp.toNatClampNeg = dp') (e3 : n.toNatClampNeg = n') (g1 : ¬ sp < 0) (g2 : ¬ dp < 0) (g3 : ¬ n < 0) (g4 : sp' + n' ≤ n0) (g5 : dp' + n' ≤ n1) (hfr : 1 ≤ fr) (hlo : (st.map fun v => v.category).sum + 18 ≤ lo)
    (h : li_ (cp2 V k0 k1 sp' dp' n') f = z) (kk : ∀ V1 : Wd, f V1 = z → Go E G A kc ks Q nL V1 (pc + 3) lv st) : Go E G A kc ks Q nL V pc lv (.int n :: .int dp :: .ref (AD G k1) :: .int sp :: .ref (AD G k0) :: st) := by
  obtain ⟨p, l, e, R, s, m, args, below, meth, c⟩ := E
  intro H locs ls hP hS hh
  obtain ⟨hx, hb, hml, hr, hown, hts, hlk, hK, hI, hA, r1, r2, r3, r4⟩ := F
  subst e1 e2 e3
  have hk8 := kd_lt hk1 (by omega)
  refine va_copyi (D := G.2.1) (tys := tysG G) hx hb (by rw [hml, hh.1]) hown (hts _ hlink) (hts _ nat_ac) (hts _ sm_arraycopyName) (hts _ in_J10) hK.1 hP (wl_D V hI hA) hS (ix_ k0) (ix_ k1) 0 0 (by rw [wl_get (kd_lt hk0 (by omega)), wE_arr hk0 h0]) (by rw [wl_get hk8, wE_arr hk1 h1]) rfl rfl rfl g1 g2 g3 g4 g5 (fun i _ => rfl) (by omega) (Nat.le_trans hlo r2) hd (fun H1 locs1 hP1 hD1 hS1 => kk _ h H1 locs1 ls ?_ hS1 hh)
  rw [← wE_arr (G := G) hk1 h1, wl_set hk8] at hP1
  exact hP1
theorem go_max {index : Nat} {x y : Int32} (F : Fx E G A own cc nL ret fr lo kc ks) (hd : decode cc pc = .ok (.invokestatic index, 3)) (hlink : Cond.methodLink own index Lib.Math.max.name ∈ bw) (hfr : 1 ≤ fr) (hlo : (st.map fun v => v.category).sum + 13 ≤ lo) (kk : Go E G A kc ks Q nL V (pc + 3) lv (.int (if x < y then y else x) :: st)) : Go E G A kc ks Q nL V pc lv (.int y :: .int x :: st) := by
  obtain ⟨p, l, e, R, s, m, args, below, meth, c⟩ := E
  intro H locs ls hP hS hh
  obtain ⟨hx, hb, hml, hr, hown, hts, hlk, hK, hI, hA, r1, r2, r3, r4⟩ := F
  exact va_mmax hx hb (by rw [hml, hh.1]) hown (hts _ hlink) (hts _ sm_Lib_Math_max_name) (hts _ in_J9) (hts _ cw_max) (by omega) (Nat.le_trans hlo r2) r3 r4 hd (kk H locs ls hP hS hh)
theorem go_min {index : Nat} {x y : Int32} (F : Fx E G A own cc nL ret fr lo kc ks) (hd : decode cc pc = .ok (.invokestatic index, 3)) (hlink : Cond.methodLink own index Lib.Math.min.name ∈ bw) (hfr : 1 ≤ fr) (hlo : (st.map fun v => v.category).sum + 13 ≤ lo) (kk : Go E G A kc ks Q nL V (pc + 3) lv (.int (if y < x then y else x) :: st)) : Go E G A kc ks Q nL V pc lv (.int y :: .int x :: st) := by
  obtain ⟨p, l, e, R, s, m, args, below, meth, c⟩ := E
  intro H locs ls hP hS hh
  obtain ⟨hx, hb, hml, hr, hown, hts, hlk, hK, hI, hA, r1, r2, r3, r4⟩ := F
  exact va_mmin hx hb (by rw [hml, hh.1]) hown (hts _ hlink) (hts _ sm_Lib_Math_min_name) (hts _ in_J9) (hts _ cw_min) (by omega) (Nat.le_trans hlo r2) r3 r4 hd (kk H locs ls hP hS hh)
/-- behind a call: its answer on the stack, its world -/
theorem go_run {s : State} {p : Program} {l : Launch} {e : Env} {R : Room} {m : MethodId} {args : Array Value} {below : List Frame} {meth : Method} {c : Code} {H : Heap} {locs : List Loc} {ls : Array Slot} {st0 : List Value} {rv : Option Value} {V1 : Wd} {av : Array Value} (hr : va_Run p l e R s m args below meth c H locs kc ks 0 0 (F0 m pc ls st0) st (Qg G rv V1 av) (AG G)) (hS : va_S A s.heap H locs) (hA : ∀ k, Rl k → A (AD G k)) (hh : lv_has ls nL lv)
    (kk : Go (p, l, e, R, s, m, args, below, meth, c) G A kc ks Q nL V1 (pc + 3) lv (rv.toList ++ st)) : W p l e R s m args below meth c H locs kc ks Q (F0 m pc ls st0) := by
  intro T hT X
  obtain ⟨v, st₀, t, T', L, h0, X', hL, e1, e2, ⟨hv, hp, hz, hk⟩, st1⟩ := hr T hT X
  cases hv
  rw [h0] at hz hk
  have sub : ∀ q, AG G q → A q := fun q ⟨k, h1, h2⟩ => by rw [h2]; exact hA k h1
  obtain ⟨t2, a1, b1⟩ := kk T'.heap (locs ++ L) ls (by rw [e1]; exact hp) ⟨Nat.le_trans hS.1 (by rw [e1]; exact hz), fun q h1 h2 => by rw [e1, hk q (Nat.lt_of_lt_of_le h1 hS.1) (fun z => h2 (sub q z))]; exact hS.2.1 q h1 h2, fun q hq => by
      rcases List.mem_append.mp hq with h | h
      · exact hS.2.2 q h
      · exact sub _ (hL q h)⟩ hh T' rfl X'
  exact ⟨t2, st1 t2 a1, b1⟩
theorem go_callV {y : MethodName} {b : ByteArray} {n index k ci : Nat} {C : String} {T : u_T} {N : Nat} {fs : List Value} {rt : Option FieldType} {f1 l1 : Nat} {As : List Value} {V1 : Wd} {rv : Option Value} (F : Fx E G A own cc nL ret fr lo kc ks) (hd : decode cc pc = .ok (.invokevirtual index, 3)) (hlink : Cond.methodLink own index y ∈ bw) (hcw : Cond.code y b n rt ∈ bw) (him : Cond.instanceMethod y ∈ bw) (hse : Cond.selects C y y ∈ bw) (hini : Cond.initialized y.cls ∈ bw)
    (hyd : y.cls ≠ "java/lang/invoke/MethodHandle" ∧ y.cls ≠ "java/lang/invoke/VarHandle" ∧ (parseMethodDescriptor y.desc).map (fun d => d.parameters.length) = some As.length) (hk : Rl k) (hw : wE G k (V k) = .inr (ci, fs)) (hc : vwCl[ci]? = some (C, T, N)) (hM : Ct (enL E) G y b n rt f1 l1 (.ref (AD G k) :: As) V rv V1) (hfr : f1 + 1 ≤ fr) (hlo : 8 + (n + 11) + l1 ≤ lo) (hst : (st.map fun v => v.category).sum ≤ 8) {st0 : List Value} (he : st0 = As.reverse ++ .ref (AD G k) :: st)
    (kk : Go E G A kc ks Q nL V1 (pc + 3) lv (rv.toList ++ st)) : Go E G A kc ks Q nL V pc lv st0 := by
  obtain ⟨p, l, e, R, s, m, args, below, meth, c⟩ := E
  intro H locs ls hP hS hh
  obtain ⟨hx, hb, hml, hr, hown, hts, hlk, hK, hI, hA, r1, r2, r3, r4⟩ := F
  exact go_run (va_runV (As := As) (rest := st) ⟨hx, hb, hml, hown, hts⟩ hM ⟨callB_of As.length hts (gbl hcw) rfl rfl rfl (hts _ hini) (hts _ hlink) hyd ⟨Nat.le_trans hfr r1, Nat.le_trans hlo r2⟩, hts _ him, hts _ hse⟩ ⟨Pg.blind, va_recv (tys := tysG G) hK.1 hP (ci := ci) (q0 := ix_ k) hc (by rw [wl_get hk, hw]), fun U hU hW => ⟨rfl, by rw [hU]; exact hP, hK.warm hW, hI⟩⟩ rfl rfl hh.1 he (lv_room hst) hd ⟨r3, r4⟩) hS hA hh kk
theorem go_callS {y : MethodName} {b : ByteArray} {n index : Nat} {rt : Option FieldType} {f1 l1 : Nat} {As : List Value} {V1 : Wd} {rv : Option Value} (F : Fx E G A own cc nL ret fr lo kc ks) (hd : decode cc pc = .ok (.invokestatic index, 3)) (hlink : Cond.methodLink own index y ∈ bw) (hcw : Cond.code y b n rt ∈ bw) (hsm : Cond.static y ∈ bw) (hini : Cond.initialized y.cls ∈ bw)
    (hyd : y.cls ≠ "java/lang/invoke/MethodHandle" ∧ y.cls ≠ "java/lang/invoke/VarHandle" ∧ (parseMethodDescriptor y.desc).map (fun d => d.parameters.length) = some As.length) (hM : Ct (enL E) G y b n rt f1 l1 As V rv V1) (hfr : f1 + 1 ≤ fr) (hlo : 8 + (n + 11) + l1 ≤ lo) (hst : (st.map fun v => v.category).sum ≤ 8) {st0 : List Value} (he : st0 = As.reverse ++ st)
    (kk : Go E G A kc ks Q nL V1 (pc + 3) lv (rv.toList ++ st)) : Go E G A kc ks Q nL V pc lv st0 := by
  obtain ⟨p, l, e, R, s, m, args, below, meth, c⟩ := E
  intro H locs ls hP hS hh
  obtain ⟨hx, hb, hml, hr, hown, hts, hlk, hK, hI, hA, r1, r2, r3, r4⟩ := F
  exact go_run (va_runS (As := As) (rest := st) ⟨hx, hb, hml, hown, hts⟩ hM ⟨callB_of As.length hts (gbl hcw) rfl rfl rfl (hts _ hini) (hts _ hlink) hyd ⟨Nat.le_trans hfr r1, Nat.le_trans hlo r2⟩, hts _ hsm⟩ ⟨Pg.blind, fun U hU hW => ⟨rfl, by rw [hU]; exact hP, hK.warm hW, hI⟩⟩ rfl rfl hh.1 he (lv_room hst) hd ⟨r3, r4⟩) hS hA hh kk
theorem go_callN {y : MethodName} {b : ByteArray} {n index : Nat} {host : String} {rt : Option FieldType} {f1 l1 : Nat} {As : List Value} {V1 : Wd} {rv : Option Value} (F : Fx E G A own cc nL ret fr lo kc ks) (hd : decode cc pc = .ok (.invokestatic index, 3)) (hlink : Cond.methodLinkNest own index y host ∈ nws) (hcw : Cond.code y b n rt ∈ bw) (hsm : Cond.static y ∈ bw) (hini : Cond.initialized y.cls ∈ bw)
    (hyd : y.cls ≠ "java/lang/invoke/MethodHandle" ∧ y.cls ≠ "java/lang/invoke/VarHandle" ∧ (parseMethodDescriptor y.desc).map (fun d => d.parameters.length) = some As.length) (hM : Ct (enL E) G y b n rt f1 l1 As V rv V1) (hfr : f1 + 1 ≤ fr) (hlo : 8 + (n + 11) + l1 ≤ lo) (hst : (st.map fun v => v.category).sum ≤ 8) {st0 : List Value} (he : st0 = As.reverse ++ st)
    (kk : Go E G A kc ks Q nL V1 (pc + 3) lv (rv.toList ++ st)) : Go E G A kc ks Q nL V pc lv st0 := by
  obtain ⟨p, l, e, R, s, m, args, below, meth, c⟩ := E
  intro H locs ls hP hS hh
  obtain ⟨hx, hb, hml, hr, hown, hts, hlk, hK, hI, hA, r1, r2, r3, r4⟩ := F
  exact go_run (va_runSN (As := As) (rest := st) ⟨hx, hb, hml, hown, hts⟩ hM ⟨va_cnB As.length hts (gbl hcw) rfl rfl rfl (hK.2 _ hlink) (hts _ hini) hyd ⟨Nat.le_trans hfr r1, Nat.le_trans hlo r2⟩, hts _ hsm, trivial⟩ ⟨Pg.blind, fun U hU hW => ⟨rfl, by rw [hU]; exact hP, hK.warm hW, hI⟩⟩ rfl rfl hh.1 he (lv_room hst) hd ⟨r3, r4⟩) hS hA hh kk
theorem go_iret {x : Int32} {rv : Option Value} {V' : Wd} (F : Fx E G (AG G) own cc nL (some .int) fr lo 0 0) (hd : decode cc pc = .ok (.ireturn, 1)) (hr : rv = some (.int x)) (hV : V' = V) : Go E G (AG G) 0 0 (MQq E G rv V') nL V pc lv [.int x] := by
  obtain ⟨p, l, e, R, s, m, args, below, meth, c⟩ := E
  subst hr hV
  intro H locs ls hP hS hh
  exact W.iret (v := x) F.1 F.2.1 F.2.2.2.1 (fun t ht hW => ⟨rfl, by rw [ht]; exact hP, hS.F ht⟩) hS.2.2 hd (hlocks := F.2.2.2.2.2.2.1)
theorem go_zret {x : Int32} {rv : Option Value} {V' : Wd} (F : Fx E G (AG G) own cc nL (some .boolean) fr lo 0 0) (hd : decode cc pc = .ok (.ireturn, 1)) (hx : narrow .boolean (.int x) = .int x) (hr : rv = some (.int x)) (hV : V' = V) : Go E G (AG G) 0 0 (MQq E G rv V') nL V pc lv [.int x] := by
  obtain ⟨p, l, e, R, s, m, args, below, meth, c⟩ := E
  subst hr hV
  intro H locs ls hP hS hh
  exact W.zret (v := x) F.1 F.2.1 F.2.2.2.1 hx (fun t ht hW => ⟨rfl, by rw [ht]; exact hP, hS.F ht⟩) hS.2.2 hd (hlocks := F.2.2.2.2.2.2.1)
theorem go_vret {rv : Option Value} {V' : Wd} (F : Fx E G (AG G) own cc nL none fr lo 0 0) (hd : decode cc pc = .ok (.return_, 1)) (hr : rv = none) (hV : V' = V) : Go E G (AG G) 0 0 (MQq E G rv V') nL V pc lv [] := by
  obtain ⟨p, l, e, R, s, m, args, below, meth, c⟩ := E
  subst hr hV
  intro H locs ls hP hS hh
  exact W.vret F.1 F.2.1 F.2.2.2.1 (fun t ht hW => ⟨rfl, by rw [ht]; exact hP, hS.F ht⟩) hS.2.2 hd (hlocks := F.2.2.2.2.2.2.1)
theorem go_aret {C : String} {x : Value} {rv : Option Value} {V' : Wd} (F : Fx E G (AG G) own cc nL (some (.object C)) fr lo 0 0) (hd : decode cc pc = .ok (.areturn, 1)) (hx : x = .null ∨ ∃ a, x = .ref a) (hr : rv = some x) (hV : V' = V) : Go E G (AG G) 0 0 (MQq E G rv V') nL V pc lv [x] := by
  obtain ⟨p, l, e, R, s, m, args, below, meth, c⟩ := E
  subst hr hV
  intro H locs ls hP hS hh
  exact W.aret (v := x) F.1 F.2.1 F.2.2.2.1 (Or.inl ⟨_, rfl⟩) hx (fun t ht hW => ⟨rfl, by rw [ht]; exact hP, hS.F ht⟩) hS.2.2 hd (hlocks := F.2.2.2.2.2.2.1)
theorem go_aload {k : Nat} {x : Nat} (F : Fx E G A own cc nL ret fr lo kc ks) (hd : decode cc pc = .ok (.aload k, 2)) (i : Nat) (hl : lv[i]? = some (k, .ref x)) (kk : Go E G A kc ks Q nL V (pc + 2) lv (.ref x :: st)) : Go E G A kc ks Q nL V pc lv st := by
  obtain ⟨p, l, e, R, s, m, args, below, meth, c⟩ := E
  intro H locs ls hP hS hv
  exact lv_aload F.1 F.2.1 hd (lv_at hv i hl) (kk H locs ls hP hS hv)
theorem go_astore {k : Nat} {x : Nat} {lv' : List (Nat × Value)} (F : Fx E G A own cc nL ret fr lo kc ks) (hd : decode cc pc = .ok (.astore k, 2)) (hn : k < nL) (hl : (k, Value.ref x) :: lv.filter (fun q => !(q.1 == k) && !(q.1 + 1 == k && q.2.category == 2)) = lv') (kk : Go E G A kc ks Q nL V (pc + 2) lv' st) : Go E G A kc ks Q nL V pc lv (.ref x :: st) := by
  obtain ⟨p, l, e, R, s, m, args, below, meth, c⟩ := E
  intro H locs ls hP hS hv
  exact lv_astore F.1 F.2.1 hd hv hn hl (fun ls' hv' => kk H locs ls' hP hS hv')
theorem go_jald {α : Type} {i : Int32} {f : Int32 → Option α} {z : α} (k n : Nat) (F : Fx E G A own cc nL ret fr lo kc ks) (hd : decode cc pc = .ok (.iaload, 1)) (hk : kd k ≠ 99) (hw : ∀ f : Nat → Int32, wE G k f = .inl (G.2.2.1, (n, .inl f))) (h : (rd_ (V k) n i).bind f = some z) (kk : ∀ x : Int32, f x = some z → Go E G A kc ks Q nL V (pc + 1) lv (.int x :: st)) : Go E G A kc ks Q nL V pc lv (.int i :: .ref (AD G k) :: st) := by
  obtain ⟨p, l, e, R, s, m, args, below, meth, c⟩ := E
  intro H locs ls hP hS hh
  obtain ⟨hx, hb, hml, hr, hown, hts, hlk, hK, hI, hA, -⟩ := F
  obtain ⟨x, h1, h2⟩ := ob_ h
  obtain ⟨h3, rfl⟩ := rd_ok h1
  exact va_iald (D := G.2.1) (tys := tysG G) hx hb hK.1 hP (ix_ k) 0 (by rw [wl_get (kd_lt rfl hk), hw]) rfl h3 hd (kk _ h2 H locs ls hP hS hh)
theorem go_jast {α : Type} {i x : Int32} {f : Wd → Option α} {z : α} (k n : Nat) (F : Fx E G A own cc nL ret fr lo kc ks) (hd : decode cc pc = .ok (.iastore, 1)) (hk : kd k ≠ 99) (hw : ∀ f : Nat → Int32, wE G k f = .inl (G.2.2.1, (n, .inl f))) (h : st_ V k n i x f = some z) (kk : ∀ V1 : Wd, f V1 = some z → Go E G A kc ks Q nL V1 (pc + 1) lv st) : Go E G A kc ks Q nL V pc lv (.int x :: .int i :: .ref (AD G k) :: st) := by
  obtain ⟨p, l, e, R, s, m, args, below, meth, c⟩ := E
  intro H locs ls hP hS hh
  obtain ⟨hx, hb, hml, hr, hown, hts, hlk, hK, hI, hA, -⟩ := F
  obtain ⟨h3, h4⟩ := st_ok h
  have hk8 := kd_lt rfl hk
  refine va_iast (D := G.2.1) (tys := tysG G) hx hb hK.1 hP (wl_D V hI hA) hS (ix_ k) 0 (by rw [wl_get hk8, hw]) rfl h3 hd (fun H1 locs1 hP1 hD1 hS1 => kk _ h4 H1 locs1 ls ?_ hS1 hh)
  rw [← hw, wl_set hk8] at hP1
  exact hP1
theorem go_ishr {x y : Int32} (F : Fx E G A own cc nL ret fr lo kc ks) (hd : decode cc pc = .ok (.ishr, 1)) (kk : Go E G A kc ks Q nL V (pc + 1) lv (.int (x >>> (y &&& 31)) :: st)) : Go E G A kc ks Q nL V pc lv (.int y :: .int x :: st) := by
  obtain ⟨p, l, e, R, s, m, args, below, meth, c⟩ := E
  intro H locs ls hP hS hh
  exact lv_ishr F.1 F.2.1 hd (kk H locs ls hP hS hh)
theorem go_ldc {index : Nat} {v : Int32} (F : Fx E G A own cc nL ret fr lo kc ks) (hd : decode cc pc = .ok (.ldc index, 2)) (hc : Cond.constant own index v ∈ bw) (kk : Go E G A kc ks Q nL V (pc + 2) lv (.int v :: st)) : Go E G A kc ks Q nL V pc lv st := by
  obtain ⟨p, l, e, R, s, m, args, below, meth, c⟩ := E
  intro H locs ls hP hS hh
  obtain ⟨hx, hb, hml, hr, hown, hts, hlk, hK, hI, hA, -⟩ := F
  exact lv_ldc hx hb hown (hts _ hc) hd (kk H locs ls hP hS hh)
/-- a guard of the pure word against a divisor 0 -/
theorem go_gn {α : Type} {c : Prop} [Decidable c] {a : Option α} {z : α} (h : (if c then none else a) = some z) (k : ¬ c → a = some z → Go E G A kc ks Q nL V pc lv st) : Go E G A kc ks Q nL V pc lv st := by
  by_cases q : c
  · rw [if_pos q] at h; cases h
  · rw [if_neg q] at h; exact k q h
/-- the ghost of the reference goes on, no step of the machine -/
def gx_ (V V2 : Wd) : Wd := fun k => if 112 ≤ k ∧ k < 118 then V2 k else V k
theorem go_gx {α : Type} {V2 : Wd} {f : Wd → α} {z : α} (h : li_ (gx_ V V2) f = z) (kk : ∀ V1 : Wd, f V1 = z → Go E G A kc ks Q nL V1 pc lv st) : Go E G A kc ks Q nL V pc lv st := by
  have h1 := kk _ h
  obtain ⟨p, l, e, R, s, m, args, below, meth, c⟩ := E
  intro H locs ls hP hS hh
  refine h1 H locs ls (Hp_fr (fun k hk => ?_) hP) hS hh
  unfold Rl at hk
  exact if_neg (by omega)
end CORE
/-! The script, which is only read, and the law's word cell of it. -/
def Sc (E : En) (A : Nat → Prop) (b L : Nat) (xs : Nat → Int32) : Prop := match E with
  | (_, _, _, _, s, _, _, _, _, _) => va_X b L xs s s.heap ∧ b < s.heap.size ∧ ¬ A b
def cl_ (xs : Nat → Int32) (L : Nat) (i : Int32) : Int32 := if nI L ≤ i then 32452867 * i + 15485863 else xs i.toNatClampNeg
section SCR
variable {E : En} {G : Gm} {A : Nat → Prop} {own : String} {cc : ByteArray} {nL fr lo kc ks : Nat} {ret : Option FieldType} {Q : State → Prop} {V : Wd} {pc : Nat} {lv : List (Nat × Value)} {st : List Value} {b L : Nat} {xs : Nat → Int32}
theorem go_slen (F : Fx E G A own cc nL ret fr lo kc ks) (S : Sc E A b L xs) (hd : decode cc pc = .ok (.arraylength, 1)) (kk : Go E G A kc ks Q nL V (pc + 1) lv (.int (nI L) :: st)) : Go E G A kc ks Q nL V pc lv (.ref b :: st) := by
  obtain ⟨p, l, e, R, s, m, args, below, meth, c⟩ := E
  intro H locs ls hP hS hh
  exact va_slen F.1 F.2.1 S.1 S.2.1 S.2.2 hS hd (kk H locs ls hP hS hh)
theorem go_sld {i : Int32} (F : Fx E G A own cc nL ret fr lo kc ks) (S : Sc E A b L xs) (hd : decode cc pc = .ok (.iaload, 1)) (hin : vp_in i L) (kk : Go E G A kc ks Q nL V (pc + 1) lv (.int (xs i.toNatClampNeg) :: st)) : Go E G A kc ks Q nL V pc lv (.int i :: .ref b :: st) := by
  obtain ⟨p, l, e, R, s, m, args, below, meth, c⟩ := E
  intro H locs ls hP hS hh
  exact va_sld F.1 F.2.1 S.1 S.2.1 S.2.2 hS hin hd (kk H locs ls hP hS hh)
def Pgs (G : Gm) (av : List Value) (V : Wd) (b L : Nat) (xs : Nat → Int32) : Array Value → State → Prop := fun v U => Pg G av V v U ∧ va_X b L xs U U.heap ∧ b < U.heap.size ∧ ¬ AG G b
theorem Pgs.blind {av : List Value} : FrameBlind (Pgs G av V b L xs) := fun a U g mk h => ⟨Pg.blind a U g mk h.1, va_X.moved (u := U) (Vm.Alike.refl U.vm) h.2.1, h.2.2⟩
def Cts (l : Launch) (G : Gm) (b L : Nat) (xs : Nat → Int32) (i : Int32) (V : Wd) (fr lo : Nat) : Prop :=
  Met l yL_cell (.code yL_cell cL_cell 2 (some .int) :: bw) { frames := fr, cells := 0, slots := 0, locals := lo } (Pgs G [.ref b, .int i] V b L xs) (Qg G (some (.int (cl_ xs L i))) V) 0 0 (AG G)
theorem ct_cell (l : Launch) (G : Gm) (V : Wd) (hL : L < 2000) (i : Int32) (hi : ¬ i < 0) : Cts l G b L xs i V 0 0 := by
  refine Met.ofW (cc := cL_cell) (maxL := 2) (ret := some .int) (by decide +kernel) rfl ?_
  intro p e s m args below meth c s₁ B hml hv
  obtain ⟨⟨rfl, hP, hK, hI⟩, hX, hbl, hbA⟩ := hv
  have hts := atoms_spec (ws := .code yL_cell cL_cell 2 (some .int) :: bw) B.pre
  have hl := lv_entry [.ref b, .int i] (n := 2) (Nat.le_of_ble_eq_true rfl)
  rw [lg_entry_eq]
  obtain ⟨E, hE⟩ : ∃ E : En, E = (p, l, e, (headSpec (.code yL_cell cL_cell 2 (some .int) :: bw) { frames := 0, cells := 0, slots := 0, locals := 0 }).room, s, m, ([.ref b, .int i] : List Value).toArray, below, meth, c) := ⟨_, rfl⟩
  have F : Fx E G (AG G) RL cL_cell 2 (some .int) 0 0 0 0 := by
    rw [hE]
    refine ⟨B.exec, B.bytes, hml, B.returns, findClass_of_methodNamed B.named, fun w hw => hts w (List.mem_cons_of_mem _ hw), B.notSynchronized, hK, hI, fun k hk => ⟨k, hk, rfl⟩, Nat.le_refl _, Nat.le_refl _, Nat.le_refl _, Nat.le_refl _⟩
  have S : Sc E (AG G) b L xs := by rw [hE]; exact ⟨hX, hbl, hbA⟩
  have key : Go E G (AG G) 0 0 (MQq E G (some (.int (cl_ xs L i))) V) 2 V 0 (lv_args 0 [.ref b, .int i]) [] := by
    clear hE
    refine go_sub (lv' := [(0, .ref b), (1, .int i)]) [0, 1] rfl ?_
    refine go_iloadn (pc := 0) F dL_cell_0 1 rfl ?_
    refine go_aloadn (pc := 1) F dL_cell_1 0 rfl ?_
    refine go_slen (pc := 2) F S dL_cell_2 ?_
    refine go_icmp_ge (pc := 3) 12 F dL_cell_3 (by decide) (a := true) (b := false) rfl (fun c1 _ => ?_) (fun c1 _ => ?_)
    · refine go_ldc (pc := 12) F dL_cell_12 kc_L_7 ?_
      refine go_iloadn (pc := 14) F dL_cell_14 1 rfl ?_
      refine go_imul (pc := 15) F dL_cell_15 ?_
      refine go_ldc (pc := 16) F dL_cell_16 kc_L_8 ?_
      refine go_iadd (pc := 18) F dL_cell_18 ?_
      exact go_iret (pc := 19) F dL_cell_19 (by unfold cl_; rw [if_pos c1]) rfl
    · have hin : vp_in i L := by
        refine vp_in_iff.mpr ⟨?_, ?_⟩
        · rw [Int32.lt_iff_toInt_lt] at hi
          exact Int.not_lt.mp hi
        · rw [Int32.le_iff_toInt_le, nI_toInt (by omega)] at c1
          exact Int.not_le.mp c1
      refine go_aloadn (pc := 6) F dL_cell_6 0 rfl ?_
      refine go_iloadn (pc := 7) F dL_cell_7 1 rfl ?_
      refine go_sld (pc := 8) F S dL_cell_8 hin ?_
      refine go_goto (pc := 9) 19 F dL_cell_9 (by decide) ?_
      exact go_iret (pc := 19) F dL_cell_19 (by unfold cl_; rw [if_neg c1]) rfl
  rw [hE] at key
  exact key s.heap [] _ hP va_S.rf hl
end SCR

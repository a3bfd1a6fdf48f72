/-! The world behind the constructor and the five rows. -/
def iniH : Nat → Int32 := (upd (upd (upd (upd (upd (upd (upd (upd (upd (upd (fun _ => 0) 0 0) 1 1) 2 2) 3 3) 4 4) 5 5) 6 6) 7 7) 8 0) 9 1)
def iniF : Nat → Int32 := (upd (upd (upd (upd (upd (upd (upd (upd (upd (upd (fun _ => 0) 0 1) 1 4) 2 7) 3 2) 4 5) 5 0) 6 3) 7 6) 8 1) 9 4)
def iniW : Nat → Int32 := (upd (upd (upd (upd (upd (upd (upd (upd (upd (upd (fun _ => 0) 0 0) 1 0) 2 1) 3 1) 4 2) 5 2) 6 3) 7 3) 8 4) 9 4)
def iniZ : Nat → Int32 := (upd (upd (upd (upd (upd (upd (upd (upd (upd (upd (upd (upd (upd (upd (upd (upd (upd (upd (upd (upd (upd (upd (upd (upd (upd (upd (upd (upd (upd (upd (upd (upd (fun _ => 0) 0 1) 1 5) 8 0) 9 1) 10 0) 11 1) 12 4) 13 0) 14 2) 15 7) 16 1) 17 3) 18 2) 19 1) 20 4) 21 5) 22 2) 23 5) 24 0) 25 2) 26 6) 27 3) 28 3) 29 7) 30 6) 31 3) 32 0) 33 1) 34 4) 35 1) 36 4) 37 4)
def z0_ : Nat → Int32 := fun _ => 0
def iniS : Nat → Int32 := fun j => if j = 4 then 1 else if j = 5 then 5 else 0
def iniT : Nat → Int32 := fun j => if j = 3 then (-1) else 0
def iniR : Nat → Int32 := fun j => if j = 0 then 1 else 0
def V0S : List (Nat → Int32) := [iniS, z0_, iniH, iniF, iniW, z0_, z0_, z0_, z0_, z0_, z0_, z0_, z0_, z0_]
def V0L : List (Nat → Int32) := [z0_] ++ V0S ++ V0S ++ [z0_, z0_] ++ V0S ++ V0S ++ V0S ++ V0S ++ V0S ++ [iniT, z0_, z0_, z0_, z0_] ++ [z0_, z0_, z0_] ++ [iniR, z0_, z0_] ++ [z0_, iniZ, z0_, z0_, z0_, z0_]
def V0 : Wd := fun k => V0L.getD k z0_
def adF (x0 : Nat) (q : Nat → Nat) (y0 y1 y2 y3 y4 : Nat) : Nat → Nat := fun k => if k = 0 then x0 else if k < 112 then q (k - 1) else if k = 118 then y0 else if k = 119 then y1 else if k = 120 then y2 else if k = 121 then y3 else y4
def gF (G : Gm) (x0 : Nat) (q : Nat → Nat) (y0 y1 y2 y3 y4 : Nat) : Gm := (adF x0 q y0 y1 y2 y3 y4, G.2)
def wsF (G : Gm) (x0 : Nat) (q : Nat → Nat) (y0 y1 y2 y3 y4 : Nat) : va_W := ((((w1_X8 G x0 q ++ [(y0, .inl (G.2.2.1, (30, .inl (fun _ => 0))))]) ++ [(y1, .inl (G.2.2.1, (20, .inl (fun _ => 0))))]) ++ [(y2, .inl (G.2.2.1, (24, .inl (fun _ => 0))))]) ++ [(y3, .inl (G.2.2.1, (48, .inl (fun _ => 0))))]) ++ [(y4, .inl (G.2.2.1, (7, .inl (fun _ => 0))))]
def stsF (q : Nat → Nat) : Nat → Option Nat := va_up (va_up (va_up (va_up (va_up (fun _ => none) 0 (some (q 30))) 1 (some (q 44))) 2 (some (q 58))) 3 (some (q 72))) 4 (some (q 86))
def entF (G : Gm) (x0 : Nat) (q : Nat → Nat) (y0 y1 y2 y3 y4 : Nat) (k : Nat) : Nat × va_E := (AD (gF G x0 q y0 y1 y2 y3 y4) k, if k = 30 then .inl (G.2.2.2.2, (5, .inr (.inr (.inr (.inr (stsF q)))))) else wE (gF G x0 q y0 y1 y2 y3 y4) k (V0 k))
set_option maxRecDepth 100000 in
set_option maxHeartbeats 8000000 in
theorem wsF_eq (G : Gm) (x0 : Nat) (q : Nat → Nat) (y0 y1 y2 y3 y4 : Nat) : wsF G x0 q y0 y1 y2 y3 y4 = (List.range 117).map (fun i => entF G x0 q y0 y1 y2 y3 y4 (ci_ i)) := by
  rfl
theorem sts_cell (G : Gm) (q : Nat → Nat) (cS : ClassId) (f : Nat → Option Nat) (h : ∀ j, j < 5 → stsF q j = f j) : vp_cell cS (5, .inr (.inr (.inr (.inr (stsF q))))) = vp_cell cS (5, .inr (.inr (.inr (.inr f)))) := by
  rw [vp_cell_q, vp_cell_q]
  unfold arrV
  congr 1
  apply Array.ext
  · simp
  · intro i h1 h2
    simp at h1
    simp [h i h1]
section ST
variable {G : Gm} {x0 : Nat} {q : Nat → Nat} {y0 y1 y2 y3 y4 : Nat}
theorem wsF_get {i : Nat} (h : i < 117) : (wsF G x0 q y0 y1 y2 y3 y4)[i]? = some (entF G x0 q y0 y1 y2 y3 y4 (ci_ i)) := by
  rw [wsF_eq, List.getElem?_map, List.getElem?_range h]
  rfl
theorem wsF_Hp {H : Heap} (h : va_P G.2.1 vwCl (wsF G x0 q y0 y1 y2 y3 y4) H) : Hp (gF G x0 q y0 y1 y2 y3 y4) V0 H := by
  intro i e hk
  have hl : i < 117 := by rw [← wl_len (gF G x0 q y0 y1 y2 y3 y4) V0]; exact (List.getElem?_eq_some_iff.mp hk).1
  rw [wl_at hl] at hk
  cases hk
  have h1 := h i _ (wsF_get hl)
  unfold entF at h1
  by_cases e : ci_ i = 30
  · rw [e] at h1 ⊢
    rw [if_pos rfl] at h1
    have h2 : H[AD (gF G x0 q y0 y1 y2 y3 y4) 30]? = some (vp_cell G.2.2.2.2 (5, .inr (.inr (.inr (.inr (stsF q)))))) := h1
    show H[AD (gF G x0 q y0 y1 y2 y3 y4) 30]? = some (vp_cell G.2.2.2.2 (5, .inr (.inr (.inr (.inr (fun j => some (AD (gF G x0 q y0 y1 y2 y3 y4) (30 + 1 + 14 * j))))))))
    rw [h2]
    refine congrArg some (sts_cell G q G.2.2.2.2 _ (fun j hj => ?_))
    rcases (show j = 0 ∨ j = 1 ∨ j = 2 ∨ j = 3 ∨ j = 4 by omega) with rfl | rfl | rfl | rfl | rfl <;> rfl
  · rw [if_neg e] at h1
    exact h1
theorem wsF_inj {A : Nat → Prop} (h : va_D A (wsF G x0 q y0 y1 y2 y3 y4)) : inj (gF G x0 q y0 y1 y2 y3 y4) ∧ ∀ k, Rl k → A (AD (gF G x0 q y0 y1 y2 y3 y4) k) := by
  refine ⟨fun i j hi hj e => ?_, fun k hk => ?_⟩
  · have h1 := wsF_get (G := G) (x0 := x0) (q := q) (y0 := y0) (y1 := y1) (y2 := y2) (y3 := y3) (y4 := y4) (ix_lt hi)
    have h2 := wsF_get (G := G) (x0 := x0) (q := q) (y0 := y0) (y1 := y1) (y2 := y2) (y3 := y3) (y4 := y4) (ix_lt hj)
    rw [ci_ix hi] at h1
    rw [ci_ix hj] at h2
    have h3 := h.1 (ix_ i) (ix_ j) _ _ h1 h2 e
    rw [← ci_ix hi, ← ci_ix hj, h3]
  · have h1 := wsF_get (G := G) (x0 := x0) (q := q) (y0 := y0) (y1 := y1) (y2 := y2) (y3 := y3) (y4 := y4) (ix_lt hk)
    rw [ci_ix hk] at h1
    exact h.2 (ix_ k) _ h1
theorem gc_toGo {E : En} {A : Nat → Prop} {kc ks kc' ks' nL pc : Nat} {Q : State → Prop} {lv : List (Nat × Value)} {st : List Value} (h1 : kc ≤ kc') (h2 : ks ≤ ks')
    (kk : inj (gF G x0 q y0 y1 y2 y3 y4) → (∀ k, Rl k → A (AD (gF G x0 q y0 y1 y2 y3 y4) k)) → Go E (gF G x0 q y0 y1 y2 y3 y4) A kc' ks' Q nL V0 pc lv st) : Gc E G A kc ks Q nL (wsF G x0 q y0 y1 y2 y3 y4) pc lv st := by
  obtain ⟨p, l, e, R, s, m, args, below, meth, c⟩ := E
  intro H locs ls hP hD hS hh
  obtain ⟨g1, g2⟩ := wsF_inj hD
  exact W.widen h1 h2 (kk g1 g2 H locs ls (wsF_Hp hP) hS hh)
end ST
theorem arrO_in : Cond.arrayOver (.object "MastFlags$State") ∈ lw_tbl := by decide +kernel
/-! THE CLAIM OUT OF ONE WALK OF THE LAW'S BODY. Your part is whole_start (and what it stands on); all else here is the same for every law, but numbers. -/
def R_law : String := "MastFlagsLaw"
def lw_P (b : Addr) (xs : List Int32) (args : Array Value) (s : State) : Prop := args = #[.ref b] ∧ s.IntsAt b xs ∧ xs.length ≤ 260 ∧ (Jvm.Cond.and given_1 narrow_1).before args s = true
def lw_Q (_ : Array Value) (s : State) (o : Outcome) (t : State) : Prop := o = .returned (some (.int 1)) ∧ Framed s o t [] 600000 7302250
def lw_Z (below : List Frame) (a : Array Value) (s : State) : State → Prop := fun t => ∃ o, t.status = .running ∧ Ended t below o ∧ lw_Q a s o t
/-- the law's own end, with 1 on the stack, nothing written that was there before, its room as the claim has it -/
theorem lw_ret {p : Program} {l : Launch} {e : Env} {s : State} {m : MethodId} {below : List Frame} {meth : Method} {c : Code} {b : Nat} (hx : p.tables.exec = Jvm.exec) (hb : c.code = code) (hr : meth.sig.returnType = ret) (hlocks : meth.locks = false) {pc : Nat} {H : Heap} {ls : Array Slot} (hdg : decode code pc = .ok (.ireturn, 1)) : W p l e room_1 s m #[Value.ref b] below meth c H [] 600000 7302250 (lw_Z below #[Value.ref b] s) (F0 m pc ls [.int 1]) := by
  intro T hT X
  obtain ⟨fs, hret, hrun, hended, hW, hframe⟩ := X.leave (v := some (.int 1)) (hlocks := hlocks) (fun h => by rw [hr] at h; cases h)
  have hmeth' : T.vm.method? m = some meth := X.method'
  refine ⟨T.setFrames fs, ?_, .returned (some (.int 1)), hrun, hended, rfl, ⟨_, rfl⟩, hW, hframe⟩
  jvm_step X.here [X.here.top, hx, hb, hdg, hmeth', hr, ret, narrow_b1]
  (try refine ⟨rfl, ?_⟩); (try refine ⟨rfl, ?_⟩)
  first | (intro acts; rw [hret _ acts rfl rfl rfl]) | rw [hret _ _ rfl rfl rfl]
  exact Steps.refl _
/-- what holds at the law's entry: the machine, the code, the tables' words (any of lw_tbl by 'hts w (by decide +kernel)'), the script of L ints xs at the cell b, what the Statement gives of the start (any of its parts by flat_of_before) -/
def lw_At (p : Program) (s : State) (m : MethodId) (meth : Method) (c : Code) (b L : Nat) (xs : Nat → Int32) : Prop :=
  p.tables.exec = Jvm.exec ∧ c.code = code ∧ meth.sig.returnType = ret ∧ c.maxLocals = 18 ∧ s.vm.findClass R_law = some m.cls ∧ (∀ w ∈ lw_tbl, w.before #[Value.ref b] s = true) ∧ va_X b L xs s s.heap ∧ b < s.heap.size ∧ meth.locks = false ∧ (Jvm.Cond.and given_1 narrow_1).before #[Value.ref b] s = true
def lwE (p : Program) (l : Launch) (e : Env) (s : State) (m : MethodId) (b : Nat) (below : List Frame) (meth : Method) (c : Code) : En := (p, l, e, room_1, s, m, #[Value.ref b], below, meth, c)
theorem whole_start_open (hlaw : ∀ (xs : Nat → Int32) (L : Nat), L ≤ 260 → ∃ z : Int32 × Wd, z.1 = 1 ∧ f_L_law xs L V0 = some z) {p : Program} {e : Env} {s : State} {m : MethodId} {below : List Frame} {meth : Method} {c : Code} (l : Launch) {b L : Nat} {xs : Nat → Int32} (hL : L ≤ 260) (C0 : lw_At p s m meth c b L xs) : W p l e room_1 s m #[Value.ref b] below meth c s.heap [] 0 0 (lw_Z below #[Value.ref b] s) (entryFrame m ([Value.ref b] : List Value).toArray 18) := by
  obtain ⟨hx, hb, hr, hml, hown, hts, hX, hbl, hlocks, hgv⟩ := id C0
  have htb : ∀ w ∈ bw, w.before #[Value.ref b] s = true := fun w h => hts w (bw_in h)
  obtain ⟨c0, iS0, hKn0⟩ := u_known (C := RX0) (T := TX0) (N := 3) (n := 3) htb ib0 (htb _ ib_X0)
  obtain ⟨c1, iS1, hKn1⟩ := u_known (C := RX1) (T := TX1) (N := 3) (n := 3) htb ib1 (htb _ ib_X1)
  obtain ⟨c2, iS2, hKn2⟩ := u_known (C := RX2) (T := TX2) (N := 3) (n := 3) htb ib2 (htb _ ib_X2)
  obtain ⟨c3, iS3, hKn3⟩ := u_known (C := RX3) (T := TX3) (N := 2) (n := 2) htb ib3 (htb _ ib_X3)
  obtain ⟨c4, iS4, hKn4⟩ := u_known (C := RX4) (T := TX4) (N := 4) (n := 4) htb ib4 (htb _ ib_X4)
  obtain ⟨c5, iS5, hKn5⟩ := u_known (C := RX5) (T := TX5) (N := 4) (n := 4) htb ib5 (htb _ ib_X5)
  obtain ⟨c6, iS6, hKn6⟩ := u_known (C := RX6) (T := TX6) (N := 9) (n := 9) htb ib6 (htb _ ib_X6)
  obtain ⟨c7, iS7, hKn7⟩ := u_known (C := RX7) (T := TX7) (N := 5) (n := 5) htb ib7 (htb _ ib_X7)
  obtain ⟨c8, iS8, hKn8⟩ := u_known (C := RX8) (T := TX8) (N := 7) (n := 7) htb ib8 (htb _ ib_X8)
  obtain ⟨D, hKc⟩ : ∃ D : va_G, ∀ (k : Nat) (q : vw_C), vwCl[k]? = some q → u_Kn s q.1 q.2.1 q.2.2 (D.1 k) (D.2 k) := by
    refine ⟨(fun k => if k = 0 then c0 else if k = 1 then c1 else if k = 2 then c2 else if k = 3 then c3 else if k = 4 then c4 else if k = 5 then c5 else if k = 6 then c6 else if k = 7 then c7 else c8, fun k => if k = 0 then iS0 else if k = 1 then iS1 else if k = 2 then iS2 else if k = 3 then iS3 else if k = 4 then iS4 else if k = 5 then iS5 else if k = 6 then iS6 else if k = 7 then iS7 else iS8), ?_⟩
    intro k q hq
    match k, hq with
    | 0, hq => cases hq; exact hKn0
    | 1, hq => cases hq; exact hKn1
    | 2, hq => cases hq; exact hKn2
    | 3, hq => cases hq; exact hKn3
    | 4, hq => cases hq; exact hKn4
    | 5, hq => cases hq; exact hKn5
    | 6, hq => cases hq; exact hKn6
    | 7, hq => cases hq; exact hKn7
    | 8, hq => cases hq; exact hKn8
    | k + 9, hq => simp [vwCl] at hq
  obtain ⟨cI, kI, pI, i1, i2, i3⟩ := Cond.arrayClass_spec (htb _ ac_int)
  have hover : va_AO "MastFlags$State" s := va_AO.of (hts _ arrO_in)
  obtain ⟨pS, cS, kS, o1, o2, o3, o4, o5⟩ := Cond.arrayOver_spec (va_AO.use (A := #[]) hover)
  obtain ⟨G, hG⟩ : ∃ G : Gm, G = (fun _ => 0, D, cI, cI, cS) := ⟨_, rfl⟩
  have hKn : Kn G s := by
    subst hG
    refine ⟨⟨hKc, fun k q hk => ?_⟩, fun w hw => ?_⟩
    · match k, hk with
      | 0, hk => cases hk; exact ⟨fun n z => ⟨fun k h => (by cases h), kI, i2, pI, i3⟩, i1⟩
      | 1, hk => cases hk; exact ⟨fun n z => ⟨fun k h => (by cases h), kS, o3, pS, o4⟩, kS, pS, o3, o4, o1, o5⟩
      | k + 2, hk => simp [tysG] at hk
    · obtain ⟨a, i, x, h, ew⟩ := nws_nest w hw
      have h2 := hts w (nws_in w hw)
      subst ew
      exact va_Nw.of rfl h2
  clear hG hKc
  have hbA : ¬ (fun q : Nat => s.heap.size ≤ q) b := Nat.not_le.mpr hbl
  have hl := lv_entry ([.ref b]) (n := 18) (Nat.le_of_ble_eq_true rfl)
  rw [lg_entry_eq]
  have F : Fc (lwE p l e s m b below meth c) G (fun q : Nat => s.heap.size ≤ q) RL code 18 10 398 600000 7302250 := ⟨hx, hb, hml, hown, htb, hlocks, ⟨hKn, hover⟩, fun _ h => h, Nat.le_refl _, Nat.le_refl _, Nat.le_refl _, Nat.le_refl _⟩
  have key : Gc (lwE p l e s m b below meth c) G (fun q : Nat => s.heap.size ≤ q) 0 0 (lw_Z below #[Value.ref b] s) 18 [] 0 (lv_args 0 [.ref b]) [] := by
    have hS : Sc (lwE p l e s m b below meth c) (fun q : Nat => s.heap.size ≤ q) b L xs := ⟨hX, hbl, hbA⟩
    have hFx : ∀ G2 : Gm, G2.2 = G.2 → inj G2 → (∀ k, Rl k → (fun q : Nat => s.heap.size ≤ q) (AD G2 k)) → Fx (lwE p l e s m b below meth c) G2 (fun q : Nat => s.heap.size ≤ q) RL cL_law 18 ret 10 398 600000 7302250 := by
      intro G2 h2 h3 h4
      refine ⟨hx, hb, hml, hr, hown, htb, hlocks, ?_, h3, h4, Nat.le_refl _, Nat.le_refl _, Nat.le_refl _, Nat.le_refl _⟩
      have h5 := hKn
      unfold Kn tysG at h5 ⊢
      rw [h2]
      exact h5
    have hE : ∀ (G2 : Gm) (V : Wd) (pc : Nat) (lv : List (Nat × Value)), decode cL_law pc = .ok (.ireturn, 1) → Go (lwE p l e s m b below meth c) G2 (fun q : Nat => s.heap.size ≤ q) 600000 7302250 (lw_Z below #[Value.ref b] s) 18 V pc lv [.int 1] := by
      intro G2 V pc lv hd H locs ls hP hS hh
      exact va_forget (fun q hq => hS.2.2 q hq) (lw_ret hx hb hr hlocks hd)
    obtain ⟨z, hz, hf⟩ := hlaw xs L hL
    obtain ⟨E, hEe⟩ : ∃ E : En, E = lwE p l e s m b below meth c := ⟨_, rfl⟩
    have hlp := fun (G2 : Gm) (h2 : G2.2 = G.2) (h3 : inj G2) (h4 : ∀ k, Rl k → (fun q : Nat => s.heap.size ≤ q) (AD G2 k)) => law_go (hFx G2 h2 h3 h4) hS (show L < 2000 by omega) (hE G2) V0 hz hf
    rw [← hEe] at F hlp ⊢
    clear hFx hE hS
    refine gc_sub (lv' := [(0, .ref b)]) [0] rfl ?_
    refine gc_new (pc := 0) (kc := 0) (ks := 0) (ci := 8) (C := RX8) (T := TX8) (N := 7) (fs := [.null, .null, .int 0, .null, .null, .null, .null]) F dL_law_0 rfl ib8 tyX8 tyX8_ok cl_L_10 ib_X8 in_X8 (fun j hj => by rcases (show j = 0 ∨ j = 1 ∨ j = 2 ∨ j = 3 ∨ j = 4 ∨ j = 5 ∨ j = 6 by omega) with rfl | rfl | rfl | rfl | rfl | rfl | rfl <;> rfl) (by decide) (by decide) (fun x0 => ?_)
    refine gc_dup (pc := 3) F dL_law_3 rfl ?_
    refine gc_callI (pc := 4) (kc := 1) (ks := 7) (mc := 111) (ms := 1154) (y := yX8_init) (As := []) (wr := []) (st := [.ref x0]) F dL_law_4 ml_L_93 cw_X8_init im_X8_init in_X8 rfl ⟨by decide +kernel, by decide +kernel, (by decide +kernel : (parseMethodDescriptor yX8_init.desc).map (fun d => d.parameters.length) = some 0)⟩ (cc_X8 (enL E) G x0) (by decide) (by decide) (by decide) (by decide) (Nat.le_of_ble_eq_true rfl) rfl (fun q => ?_)
    refine gc_astoren (pc := 7) (lv' := [(1, .ref x0), (0, .ref b)]) F dL_law_7 (by decide) rfl ?_
    refine gc_bipush (pc := 8) 30 F dL_law_8 (by decide) ?_
    refine gc_newi (pc := 10) (kc := 112) (ks := 1161) 30 F dL_law_10 (by decide) (by decide) (Nat.le_of_ble_eq_true rfl) (by decide) (by decide) (fun y0 => ?_)
    refine gc_astoren (pc := 12) (lv' := [(2, .ref y0), (1, .ref x0), (0, .ref b)]) F dL_law_12 (by decide) rfl ?_
    refine gc_bipush (pc := 13) 20 F dL_law_13 (by decide) ?_
    refine gc_newi (pc := 15) (kc := 113) (ks := 1191) 20 F dL_law_15 (by decide) (by decide) (Nat.le_of_ble_eq_true rfl) (by decide) (by decide) (fun y1 => ?_)
    refine gc_astoren (pc := 17) (lv' := [(3, .ref y1), (2, .ref y0), (1, .ref x0), (0, .ref b)]) F dL_law_17 (by decide) rfl ?_
    refine gc_bipush (pc := 18) 24 F dL_law_18 (by decide) ?_
    refine gc_newi (pc := 20) (kc := 114) (ks := 1211) 24 F dL_law_20 (by decide) (by decide) (Nat.le_of_ble_eq_true rfl) (by decide) (by decide) (fun y2 => ?_)
    refine gc_astore (pc := 22) (lv' := [(4, .ref y2), (3, .ref y1), (2, .ref y0), (1, .ref x0), (0, .ref b)]) F dL_law_22 (by decide) rfl ?_
    refine gc_bipush (pc := 24) 48 F dL_law_24 (by decide) ?_
    refine gc_newi (pc := 26) (kc := 115) (ks := 1235) 48 F dL_law_26 (by decide) (by decide) (Nat.le_of_ble_eq_true rfl) (by decide) (by decide) (fun y3 => ?_)
    refine gc_astore (pc := 28) (lv' := [(5, .ref y3), (4, .ref y2), (3, .ref y1), (2, .ref y0), (1, .ref x0), (0, .ref b)]) F dL_law_28 (by decide) rfl ?_
    refine gc_bipush (pc := 30) 7 F dL_law_30 (by decide) ?_
    refine gc_newi (pc := 32) (kc := 116) (ks := 1283) 7 F dL_law_32 (by decide) (by decide) (Nat.le_of_ble_eq_true rfl) (by decide) (by decide) (fun y4 => ?_)
    refine gc_astore (pc := 34) (lv' := [(6, .ref y4), (5, .ref y3), (4, .ref y2), (3, .ref y1), (2, .ref y0), (1, .ref x0), (0, .ref b)]) F dL_law_34 (by decide) rfl ?_
    refine gc_sub (lv' := [(0, .ref b), (1, .ref x0), (2, .ref y0), (3, .ref y1), (4, .ref y2), (5, .ref y3), (6, .ref y4)]) [6, 5, 4, 3, 2, 1, 0] rfl ?_
    exact gc_toGo (by decide) (by decide) (fun h3 h4 => hlp (gF G x0 q y0 y1 y2 y3 y4) rfl h3 h4)
  exact key s.heap [] _ (fun k q h => by simp at h) ⟨fun i j p q h => by simp at h, fun k q h => by simp at h⟩ va_S.rf hl

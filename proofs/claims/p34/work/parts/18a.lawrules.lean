/-! The law's own body: its calls of cell, its end. -/
section LAWR
variable {E : En} {G : Gm} {A : Nat → Prop} {cc : ByteArray} {nL fr lo kc ks : Nat} {ret : Option FieldType} {Q : State → Prop} {V : Wd} {pc : Nat} {lv : List (Nat × Value)} {st : List Value} {b L : Nat} {xs : Nat → Int32}
theorem cv_cell {i : Int32} {index : Nat} (F : Fx E G A RL cc nL ret fr lo kc ks) (S : Sc E A b L xs) (hL : L < 2000) (hi : ¬ i < 0) (hd : decode cc pc = .ok (.invokestatic index, 3)) (hlink : Cond.methodLink RL index yL_cell ∈ bw) (hfr : 0 + 1 ≤ fr) (hlo : 8 + (2 + 11) + 0 ≤ lo) (hst : (st.map fun v => v.category).sum ≤ 8) (kk : Go E G A kc ks Q nL V (pc + 3) lv (.int (cl_ xs L i) :: st)) : Go E G A kc ks Q nL V pc lv (.int i :: .ref b :: st) := by
  obtain ⟨p, l, e, R, s, m, args, below, meth, c⟩ := E
  intro H locs ls hP hS hh
  obtain ⟨hx, hb, hml, hr, hown, hts, hlk, hK, hI, hA, r1, r2, r3, r4⟩ := F
  refine go_run (va_runS (As := [.ref b, .int i]) (rest := st) ⟨hx, hb, hml, hown, hts⟩ (ct_cell l G V hL i hi) ⟨callB_of 2 hts (gbl cw_L_cell) rfl rfl rfl (hts _ in_L) (hts _ hlink) ⟨by decide +kernel, by decide +kernel, (by decide +kernel : (parseMethodDescriptor yL_cell.desc).map (fun d => d.parameters.length) = some 2)⟩ ⟨Nat.le_trans hfr r1, Nat.le_trans hlo r2⟩, hts _ sm_L_cell⟩ ⟨Pgs.blind, fun U hU hW => ⟨⟨rfl, by rw [hU]; exact hP, hK.warm hW, hI⟩, ?_, ?_, ?_⟩⟩ rfl rfl hh.1 rfl (lv_room hst) hd ⟨r3, r4⟩) hS hA hh kk
  · rw [hU]
    exact va_X.moved hW.alike (va_X.kept S.1 (hS.2.1 b S.2.1 S.2.2))
  · rw [hU]
    exact Nat.lt_of_lt_of_le S.2.1 hS.1
  · rintro ⟨k, h1, h2⟩
    apply S.2.2
    rw [h2]
    exact hA k h1
end LAWR
theorem go_lret {E : En} {G : Gm} {A : Nat → Prop} {KC KS : Nat} {QQ : State → Prop} {V : Wd} {pc : Nat} {lv : List (Nat × Value)} {x : Int32} {z : Int32 × Wd} (hE : ∀ (V : Wd) (pc : Nat) (lv : List (Nat × Value)), decode cL_law pc = .ok (.ireturn, 1) → Go E G A KC KS QQ 18 V pc lv [.int 1]) (hz : z.1 = 1) (hd : decode cL_law pc = .ok (.ireturn, 1)) (h : some (x, V) = some z) : Go E G A KC KS QQ 18 V pc lv [.int x] := by
  cases h
  rw [show x = 1 from hz]
  exact hE V pc lv hd

/-! Pure: numbers, rows, guards. -/
theorem rd_n {f : Nat → Int32} {N n : Nat} (h : n < N) (hN : N < 2000) : rd_ f N (nI n) = some (f n) := by
  unfold rd_
  rw [if_neg (nI_in h (by omega)), nI_clamp (by omega)]
theorem rd_e {f : Nat → Int32} {N n : Nat} {i : Int32} (e : i = nI n) (h : n < N) (hN : N < 2000) : rd_ f N i = some (f n) := by
  rw [e]; exact rd_n h hN
theorem st_n {α : Type} {V : Wd} {k N n : Nat} {x : Int32} {g : Wd → Option α} (h : n < N) (hN : N < 2000) : st_ V k N (nI n) x g = g (u2 V k n x) := by
  unfold st_
  rw [if_neg (nI_in h (by omega)), nI_clamp (by omega)]
theorem st_e {α : Type} {V : Wd} {k N n : Nat} {i x : Int32} {g : Wd → Option α} (e : i = nI n) (h : n < N) (hN : N < 2000) : st_ V k N i x g = g (u2 V k n x) := by
  rw [e]; exact st_n h hN
theorem nJ_lt {a b : Nat} (ha : a < 100000) (hb : b < 100000) : (nI a < nI b) = (a < b) := propext (nI_ltI (by omega) (by omega))
theorem nJ_le {a b : Nat} (ha : a < 100000) (hb : b < 100000) : (nI a ≤ nI b) = (a ≤ b) := propext (nI_leI (by omega) (by omega))
theorem nJ_eq {a b : Nat} (ha : a < 100000) (hb : b < 100000) : (nI a = nI b) = (a = b) := propext (nI_eq (by omega) (by omega))
theorem nJ_inj {a b : Nat} (ha : a < 100000) (hb : b < 100000) (h : nI a = nI b) : a = b := (nI_eq (by omega) (by omega)).mp h
theorem nJ_tI {n : Nat} (h : n < 100000) : (nI n).toInt = (n : Int) := nI_toInt (by omega)
theorem I_le (a b : Int32) : a ≤ b ↔ a.toInt ≤ b.toInt := Int32.le_iff_toInt_le
theorem I_lt (a b : Int32) : a < b ↔ a.toInt < b.toInt := Int32.lt_iff_toInt_lt
theorem nlt_le {a b : Int32} : ¬ a < b ↔ b ≤ a := by rw [I_lt, I_le]; omega
theorem nle_lt {a b : Int32} : ¬ a ≤ b ↔ b < a := by rw [I_lt, I_le]; omega
/-- an int is one of the first n, or below, or not below n -/
theorem tri (x : Int32) {n : Nat} (hn : n < 100000) : (∃ j, j < n ∧ x = nI j) ∨ (x < 0 ∨ nI n ≤ x) := by
  rcases pk_ix x (n := n) (by omega) with h | h | ⟨j, hj, e⟩
  · exact Or.inr (Or.inl h)
  · exact Or.inr (Or.inr h)
  · exact Or.inl ⟨j, hj, e⟩
theorem tri_no {x : Int32} {n : Nat} (hn : n < 100000) (h : x < 0 ∨ nI n ≤ x) : ∀ j, j < n → x ≠ nI j := by
  intro j hj e
  subst e
  rcases h with h | h
  · exact nI_pos (by omega) h
  · rw [nJ_le (by omega) (by omega)] at h
    omega
theorem bl_yes {n j : Nat} (hj : j < n) (hn : n < 100000) : f_X8_isBelow (nI j) (nI n) = 1 := by
  unfold f_X8_isBelow
  rw [if_neg (nI_pos (by omega)), if_neg (by rw [nJ_le (by omega) (by omega)]; omega)]
theorem bl_no {x : Int32} {n : Nat} (h : x < 0 ∨ nI n ≤ x) : f_X8_isBelow x (nI n) = 0 := by
  unfold f_X8_isBelow
  by_cases hx : x < 0
  · rw [if_pos hx]
  · rw [if_neg hx, if_pos (h.resolve_left hx)]
theorem in_yes {x a b : Int32} (h1 : a ≤ x) (h2 : x ≤ b) : f_X9_in x a b = 1 := by
  unfold f_X9_in
  rw [if_neg (nlt_le.mpr h1), if_neg (nlt_le.mpr h2)]
theorem in_no {x a b : Int32} (h : x < a ∨ b < x) : f_X9_in x a b = 0 := by
  unfold f_X9_in
  by_cases hx : x < a
  · rw [if_pos hx]
  · rw [if_neg hx, if_pos (h.resolve_left hx)]
/-- the two guards of a number below n agree -/
theorem in_n {n : Nat} (hn : n < 100000) (x : Int32) (h0 : 0 < n) : (∃ j, j < n ∧ x = nI j ∧ f_X8_isBelow x (nI n) = 1 ∧ f_X9_in x 0 (nI (n - 1)) = 1) ∨ (f_X8_isBelow x (nI n) = 0 ∧ f_X9_in x 0 (nI (n - 1)) = 0 ∧ (x < 0 ∨ nI n ≤ x)) := by
  rcases tri x hn with ⟨j, hj, rfl⟩ | h
  · refine Or.inl ⟨j, hj, rfl, bl_yes hj hn, in_yes (nI_pos' (by omega)) ?_⟩
    rw [nJ_le (by omega) (by omega)]
    omega
  · refine Or.inr ⟨bl_no h, in_no ?_, h⟩
    rcases h with h | h
    · exact Or.inl h
    · refine Or.inr ?_
      have h1 := nJ_tI (n := n) hn
      have h2 := nJ_tI (n := n - 1) (by omega)
      rw [I_le, h1] at h
      rw [I_lt, h2]
      omega

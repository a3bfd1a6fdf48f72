/-! Pure: messages as lists, both sides. -/
def sfx (f : Nat → Int32) : Nat → List Int32
  | 0 => []
  | d + 1 => if f (5 - (d + 1)) = -7 then sfx f d else f (5 - (d + 1)) :: sfx f d
def kn : List Int32 → Nat
  | [] => 0
  | x :: l => if x = -6 then kn l else kn l + 1
def sd (side : Int32) (k : Nat) : Nat := if side = 0 then k else 4 - k
theorem sd_lt (side : Int32) {k : Nat} (h : k < 5) : sd side k < 5 := by unfold sd; split <;> omega
theorem sfx_len (f : Nat → Int32) : ∀ d, (sfx f d).length ≤ d
  | 0 => Nat.le_refl 0
  | d + 1 => by
    have := sfx_len f d
    rw [sfx]
    split
    · omega
    · simp only [List.length_cons]; omega
theorem kn_le : ∀ l : List Int32, kn l ≤ l.length
  | [] => Nat.le_refl 0
  | x :: l => by
    have := kn_le l
    rw [kn, List.length_cons]
    split <;> omega
def ind7 (x : Int32) : Nat := if x = -7 then 0 else 1
def ind6 (x : Int32) : Nat := if x = -7 then 0 else if x = -6 then 0 else 1
theorem sfx_len5 (f : Nat → Int32) : (sfx f 5).length = ind7 (f 0) + ind7 (f 1) + ind7 (f 2) + ind7 (f 3) + ind7 (f 4) := by
  have key : ∀ d, (sfx f (d + 1)).length = ind7 (f (5 - (d + 1))) + (sfx f d).length := by
    intro d
    rw [sfx, ind7]
    split
    · omega
    · simp only [List.length_cons]; omega
  rw [key 4, key 3, key 2, key 1, key 0]
  show ind7 (f 0) + (ind7 (f 1) + (ind7 (f 2) + (ind7 (f 3) + (ind7 (f 4) + 0)))) = _
  omega
theorem sfx_kn5 (f : Nat → Int32) : kn (sfx f 5) = ind6 (f 0) + ind6 (f 1) + ind6 (f 2) + ind6 (f 3) + ind6 (f 4) := by
  have key : ∀ d, kn (sfx f (d + 1)) = ind6 (f (5 - (d + 1))) + kn (sfx f d) := by
    intro d
    rw [sfx, ind6]
    split
    · omega
    · rw [kn]
      split <;> omega
  rw [key 4, key 3, key 2, key 1, key 0]
  show ind6 (f 0) + (ind6 (f 1) + (ind6 (f 2) + (ind6 (f 3) + (ind6 (f 4) + 0)))) = _
  omega
/-- the message of a side, out of the words by halyard -/
def ML (f : Nat → Int32) (side : Int32) : List Int32 := sfx (fun k => f (sd side k)) 5
theorem ML_len (f : Nat → Int32) (side : Int32) : (ML f side).length = (sfx f 5).length := by
  unfold ML
  rw [sfx_len5, sfx_len5]
  unfold sd
  by_cases h : side = 0
  · simp only [h, if_pos]
  · simp only [h, if_false]
    show ind7 (f 4) + ind7 (f 3) + ind7 (f 2) + ind7 (f 1) + ind7 (f 0) = _
    omega
theorem ML_kn (f : Nat → Int32) (side : Int32) : kn (ML f side) = kn (sfx f 5) := by
  unfold ML
  rw [sfx_kn5, sfx_kn5]
  unfold sd
  by_cases h : side = 0
  · simp only [h, if_pos]
  · simp only [h, if_false]
    show ind6 (f 4) + ind6 (f 3) + ind6 (f 2) + ind6 (f 1) + ind6 (f 0) = _
    omega
theorem ML_len5 (f : Nat → Int32) (side : Int32) : (ML f side).length ≤ 5 := sfx_len _ 5
-- the model
def fst_ (z : Nat → Int32) (side : Int32) : Int32 := if side = z 2 then 1 else 0
/-- the words by halyard as the model's reader of a side has them -/
def WM (z : Nat → Int32) (side : Int32) : Nat → Int32 := WR z (fst_ z side) (z 1)
theorem hc_len {z : Nat → Int32} (hv : VR z) (first str : Int32) : (sfx (WR z first str) 5).length = hc_ z 5 := by
  have key : ∀ d, d ≤ 5 → (sfx (WR z first str) d).length + hc_ z (5 - d) = hc_ z 5 := by
    intro d
    induction d with
    | zero => intro _; exact Nat.zero_add _
    | succ d ih =>
      intro hd
      have h1 := ih (by omega)
      have h2 : hc_ z (5 - d) = if zS z (5 - (d + 1)) ≤ 0 then hc_ z (5 - (d + 1)) else hc_ z (5 - (d + 1)) + 1 := by
        rw [show 5 - d = (5 - (d + 1)) + 1 by omega, hc_]
      have h3 := (WR_e hv first str (h := 5 - (d + 1)) (by omega)).1
      rw [sfx]
      by_cases q : zS z (5 - (d + 1)) ≤ 0
      · rw [if_pos (h3.mpr q)]
        rw [if_pos q] at h2
        omega
      · rw [if_neg (fun e => q (h3.mp e)), List.length_cons]
        rw [if_neg q] at h2
        omega
  exact key 5 (Nat.le_refl 5)
theorem m_wordAt_l {V : Wd} (hv : VR (V 113)) (side : Int32) (x2 : Int32) : ∀ (d n i : Nat), d ≤ 5 → d < n → i < 1000 → f_X9_wordAt_5 V side x2 n (nI i) (nI (5 - d)) = some ((sfx (fun k => WM (V 113) side (sd side k)) d).getD i (-6)) := by
  intro d
  induction d with
  | zero =>
    intro n i hd hn hi
    obtain ⟨n, rfl⟩ : ∃ k, n = k + 1 := ⟨n - 1, by omega⟩
    rw [f_X9_wordAt_5, if_pos (by decide)]
    rfl
  | succ d ih =>
    intro n i hd hn hi
    obtain ⟨n, rfl⟩ : ∃ k, n = k + 1 := ⟨n - 1, by omega⟩
    have hs : sd side (5 - (d + 1)) < 5 := sd_lt side (by omega)
    have key : f_X9_wordAt_24 V side x2 (fun a3 a4 => f_X9_wordAt_5 V side x2 n a3 a4) (nI i) (nI (5 - (d + 1))) (nI (sd side (5 - (d + 1)))) = some ((sfx (fun k => WM (V 113) side (sd side k)) (d + 1)).getD i (-6)) := by
      unfold f_X9_wordAt_24
      have h3 := WR_e hv (fst_ (V 113) side) (V 113 1) hs
      rw [m_many V hs, obs, sfx, n1, show 5 - (d + 1) + 1 = 5 - d by omega]
      by_cases q : zS (V 113) (sd side (5 - (d + 1))) ≤ 0
      · rw [if_pos q, if_pos (show WM (V 113) side (sd side (5 - (d + 1))) = -7 from h3.1.mpr q)]
        exact ih n i (by omega) (by omega) hi
      · rw [if_neg q, if_neg (show ¬ WM (V 113) side (sd side (5 - (d + 1))) = -7 from fun e => q (h3.1.mp e))]
        rcases Nat.eq_zero_or_pos i with rfl | hp
        · rw [if_pos (by decide), m_read hv side hs, obs]
          exact congrArg some (h3.2 q).symm
        · obtain ⟨i, rfl⟩ : ∃ k, i = k + 1 := ⟨i - 1, by omega⟩
          rw [if_neg (by rw [L0, nJ_eq (by omega) (by omega)]; omega), nm]
          exact ih n i (by omega) (by omega) (by omega)
    rw [f_X9_wordAt_5, if_neg (by rw [L5, nJ_le (by omega) (by omega)]; omega)]
    by_cases q : side = 0
    · rw [if_pos q]
      rw [show sd side (5 - (d + 1)) = 5 - (d + 1) by unfold sd; rw [if_pos q]] at key
      exact key
    · rw [if_neg q, L4, pk_sub (by omega)]
      rw [show sd side (5 - (d + 1)) = 4 - (5 - (d + 1)) by unfold sd; rw [if_neg q]] at key
      exact key
theorem m_wordAt {V : Wd} (hv : VR (V 113)) (side : Int32) {i : Nat} (hi : i < 1000) : f_X9_wordAt V side (nI i) = some ((ML (WM (V 113) side) side).getD i (-6)) := m_wordAt_l hv side (nI i) 5 FU_ i (by decide) (by decide) hi
theorem m_knownBy_l {V : Wd} (hv : VR (V 113)) (side : Int32) : ∀ (d n a : Nat), d ≤ 5 → d < n → a + d < 1000 → f_X9_knownBy_4 V side n (nI a) (nI (5 - d)) = some (nI (a + kn (sfx (WM (V 113) side) d))) := by
  intro d
  induction d with
  | zero =>
    intro n a hd hn ha
    obtain ⟨n, rfl⟩ : ∃ k, n = k + 1 := ⟨n - 1, by omega⟩
    rw [f_X9_knownBy_4, if_pos (by decide)]
    rfl
  | succ d ih =>
    intro n a hd hn ha
    obtain ⟨n, rfl⟩ : ∃ k, n = k + 1 := ⟨n - 1, by omega⟩
    have hs : 5 - (d + 1) < 5 := by omega
    have h3 := WR_e hv (fst_ (V 113) side) (V 113 1) hs
    rw [f_X9_knownBy_4, if_neg (by rw [L5, nJ_le (by omega) (by omega)]; omega), m_many V hs, obs, sfx, n1 (5 - (d + 1)), show 5 - (d + 1) + 1 = 5 - d by omega]
    by_cases q : zS (V 113) (5 - (d + 1)) ≤ 0
    · rw [if_pos q, if_pos (show WM (V 113) side (5 - (d + 1)) = -7 from h3.1.mpr q)]
      unfold li_
      rw [add0]
      exact ih n a (by omega) (by omega) (by omega)
    · rw [if_neg q, if_neg (show ¬ WM (V 113) side (5 - (d + 1)) = -7 from fun e => q (h3.1.mp e)), m_read hv side hs, obs, kn]
      have e3 : WM (V 113) side (5 - (d + 1)) = RW (V 113) (if side = V 113 2 then 1 else 0) (V 113 1) (5 - (d + 1)) := h3.2 q
      rw [e3]
      generalize RW (V 113) (if side = V 113 2 then 1 else 0) (V 113 1) (5 - (d + 1)) = w
      by_cases q6 : w = -6
      · rw [if_pos q6, if_pos q6]
        unfold li_
        rw [add0]
        exact ih n a (by omega) (by omega) (by omega)
      · rw [if_neg q6, if_neg q6]
        unfold li_
        rw [n1]
        refine (ih n (a + 1) (by omega) (by omega) (by omega)).trans ?_
        congr 2
        omega
theorem m_knownBy {V : Wd} (hv : VR (V 113)) (side : Int32) : f_X9_knownBy V side = some (nI (kn (ML (WM (V 113) side) side))) := by
  rw [ML_kn]
  have h := m_knownBy_l hv side 5 FU_ 0 (by decide) (by decide) (by decide)
  rw [Nat.zero_add] at h
  exact h
theorem m_hoistsL {V : Wd} (hv : VR (V 113)) (side : Int32) : f_X9_hoists V = some (nI (ML (WM (V 113) side) side).length) := by
  rw [ML_len, WM, hc_len hv]
  exact m_hoists V
/-- all words are known, and there is one -/
def ka (l : List Int32) : Int32 := if l.length ≠ 0 ∧ kn l = l.length then 1 else 0
theorem m_knowsAll {V : Wd} (hv : VR (V 113)) (side : Int32) : f_X9_knowsAll V side = some (ka (ML (WM (V 113) side) side)) := by
  unfold f_X9_knowsAll ka
  have h5 := ML_len5 (WM (V 113) side) side
  have hk := kn_le (ML (WM (V 113) side) side)
  rw [m_hoistsL hv side, obs, m_knownBy hv side, obs, obs]
  by_cases q : (ML (WM (V 113) side) side).length = 0
  · rw [if_pos (by rw [q]; decide), if_neg (fun h => h.1 q)]
  · rw [if_neg (by rw [L0, nJ_le (by omega) (by omega)]; omega)]
    by_cases q2 : kn (ML (WM (V 113) side) side) = (ML (WM (V 113) side) side).length
    · rw [if_pos (by rw [q2]), if_pos ⟨q, q2⟩]
    · rw [if_neg (by rw [nJ_eq (by omega) (by omega)]; exact q2), if_neg (fun h => q2 h.2)]
def ag (l0 l1 : List Int32) : Int32 := if (l0.length ≠ 0 ∧ kn l0 = l0.length) ∧ l0 = l1 then 1 else 0
def EQ_ (l0 l1 : List Int32) (i : Nat) : Prop := ∀ j, i ≤ j → j < l0.length → l0.getD j (-6) = l1.getD j (-6)
theorem m_isSame_l {V : Wd} (hv : VR (V 113)) {L0 L1 : List Int32} (h0 : ML (WM (V 113) 0) 0 = L0) (h1 : ML (WM (V 113) 1) 1 = L1) : ∀ (d n : Nat) (x : Int32), d ≤ L0.length → d < n → isB x → ((x = 1 ∧ EQ_ L0 L1 (L0.length - d)) → f_X9_isSame_24 V n x (nI (L0.length - d)) = some 1) ∧ (¬ (x = 1 ∧ EQ_ L0 L1 (L0.length - d)) → f_X9_isSame_24 V n x (nI (L0.length - d)) = some 0) := by
  have h5 : L0.length ≤ 5 := by rw [← h0]; exact ML_len5 _ 0
  have hh : f_X9_hoists V = some (nI L0.length) := by rw [m_hoistsL hv 0, h0]
  intro d
  induction d with
  | zero =>
    intro n x hd hn hx
    obtain ⟨n, rfl⟩ : ∃ k, n = k + 1 := ⟨n - 1, by omega⟩
    rw [f_X9_isSame_24, hh, obs, if_pos (by rw [nJ_le (by omega) (by omega)]; omega)]
    rcases hx with rfl | rfl
    · exact ⟨fun h => absurd h.1 (by decide), fun _ => rfl⟩
    · exact ⟨fun _ => rfl, fun h => absurd ⟨rfl, fun j h1 h2 => by omega⟩ h⟩
  | succ d ih =>
    intro n x hd hn hx
    obtain ⟨n, rfl⟩ : ∃ k, n = k + 1 := ⟨n - 1, by omega⟩
    rw [f_X9_isSame_24, hh, obs, if_neg (by rw [nJ_le (by omega) (by omega)]; omega), n1, show L0.length - (d + 1) + 1 = L0.length - d by omega]
    have i0 := (ih n 0 (by omega) (by omega) (Or.inl rfl)).2 (fun h => absurd h.1 (by decide))
    rcases hx with rfl | rfl
    · rw [if_pos rfl]
      exact ⟨fun h => absurd h.1 (by decide), fun _ => i0⟩
    · rw [if_neg (by decide), m_wordAt hv 0 (by omega), obs, m_wordAt hv 1 (by omega), obs, h0, h1]
      by_cases q : L0.getD (L0.length - (d + 1)) (-6) = L1.getD (L0.length - (d + 1)) (-6)
      · rw [if_pos q]
        obtain ⟨g1, g2⟩ := ih n 1 (by omega) (by omega) (Or.inr rfl)
        refine ⟨fun h => g1 ⟨rfl, fun j h1 h2 => h.2 j (by omega) h2⟩, fun h => g2 (fun h2 => h ⟨rfl, fun j k1 k2 => ?_⟩)⟩
        rcases Nat.lt_or_ge (L0.length - (d + 1)) j with q2 | q2
        · exact h2.2 j (by omega) k2
        · rw [show j = L0.length - (d + 1) by omega]; exact q
      · rw [if_neg q]
        exact ⟨fun h => absurd (h.2 _ (Nat.le_refl _) (by omega)) q, fun _ => i0⟩
theorem m_isSame {V : Wd} (hv : VR (V 113)) : f_X9_isSame V = some (ag (ML (WM (V 113) 0) 0) (ML (WM (V 113) 1) 1)) := by
  have e01 : (ML (WM (V 113) 1) 1).length = (ML (WM (V 113) 0) 0).length := by
    rw [ML_len, ML_len, WM, WM, hc_len hv, hc_len hv]
  have h5 := ML_len5 (WM (V 113) 0) 0
  have k0 := m_knowsAll hv 0
  have k1 := m_knowsAll hv 1
  obtain ⟨L0, hL0⟩ : ∃ L, ML (WM (V 113) 0) 0 = L := ⟨_, rfl⟩
  obtain ⟨L1, hL1⟩ : ∃ L, ML (WM (V 113) 1) 1 = L := ⟨_, rfl⟩
  have hl := fun x hx => m_isSame_l hv hL0 hL1 L0.length FU_ x (Nat.le_refl _) (by rw [← hL0]; unfold FU_; omega) hx
  rw [Nat.sub_self] at hl
  rw [hL0] at e01 h5 k0 ⊢
  rw [hL1] at e01 k1 ⊢
  have e0 : ∀ x, f_X9_isSame_24 V FU_ x 0 = f_X9_isSame_24 V FU_ x (nI 0) := fun _ => rfl
  have z0 := (hl 0 (Or.inl rfl)).2 (fun h => absurd h.1 (by decide))
  unfold f_X9_isSame
  rw [k0, obs, k1]
  unfold ka ag
  by_cases q0 : L0.length ≠ 0 ∧ kn L0 = L0.length
  · rw [if_pos q0, if_neg (by decide), obs]
    by_cases q1 : L1.length ≠ 0 ∧ kn L1 = L1.length
    · rw [if_pos q1, if_neg (by decide), e0]
      by_cases q : L0 = L1
      · rw [(hl 1 (Or.inr rfl)).1 ⟨rfl, fun j _ _ => by rw [q]⟩, if_pos ⟨q0, q⟩]
      · rw [(hl 1 (Or.inr rfl)).2 (fun h => q ?_), if_neg (fun h => q h.2)]
        apply List.ext_getElem e01.symm
        intro j h1 h2
        have h3 := h.2 j (Nat.zero_le _) h1
        rw [List.getD_eq_getElem?_getD, List.getD_eq_getElem?_getD, List.getElem?_eq_getElem h1, List.getElem?_eq_getElem h2] at h3
        exact h3
    · rw [if_neg q1, if_pos rfl, e0, z0, if_neg (fun h => q1 (by rw [← h.2]; exact q0))]
  · rw [if_neg q0, if_pos rfl, e0, z0, if_neg (fun h => q0 h.1)]

/-! Pure: the leaves of both sides. -/
theorem L2 : (2 : Int32) = nI 2 := rfl
theorem L3 : (3 : Int32) = nI 3 := rfl
theorem L4 : (4 : Int32) = nI 4 := rfl
theorem L5 : (5 : Int32) = nI 5 := rfl
theorem L6 : (6 : Int32) = nI 6 := rfl
theorem L8 : (8 : Int32) = nI 8 := rfl
theorem L10 : (10 : Int32) = nI 10 := rfl
theorem L38 : (38 : Int32) = nI 38 := rfl
theorem L63 : (63 : Int32) = nI 63 := rfl
theorem L87 : (87 : Int32) = nI 87 := rfl
theorem L136 : (136 : Int32) = nI 136 := rfl
theorem L1 : (1 : Int32) = nI 1 := rfl
theorem L0 : (0 : Int32) = nI 0 := rfl
theorem rdb {β : Type} {f : Nat → Int32} {N n : Nat} {i : Int32} {g : Int32 → Option β} (e : i = nI n) (h : n < N) (hN : N < 2000) : (rd_ f N i).bind g = g (f n) := by
  rw [rd_e e h hN]
  rfl
theorem zr0 {β : Type} (f : Nat → Int32) (g : Int32 → Option β) : (rd_ f 136 0).bind g = g (f 0) := rdb (n := 0) rfl (by decide) (by decide)
theorem zr1 {β : Type} (f : Nat → Int32) (g : Int32 → Option β) : (rd_ f 136 1).bind g = g (f 1) := rdb (n := 1) rfl (by decide) (by decide)
theorem zr2 {β : Type} (f : Nat → Int32) (g : Int32 → Option β) : (rd_ f 136 2).bind g = g (f 2) := rdb (n := 2) rfl (by decide) (by decide)
theorem zr3 {β : Type} (f : Nat → Int32) (g : Int32 → Option β) : (rd_ f 136 3).bind g = g (f 3) := rdb (n := 3) rfl (by decide) (by decide)
theorem zr4 {β : Type} (f : Nat → Int32) (g : Int32 → Option β) : (rd_ f 136 4).bind g = g (f 4) := rdb (n := 4) rfl (by decide) (by decide)
theorem zr5 {β : Type} (f : Nat → Int32) (g : Int32 → Option β) : (rd_ f 136 5).bind g = g (f 5) := rdb (n := 5) rfl (by decide) (by decide)
theorem zr6 {β : Type} (f : Nat → Int32) (g : Int32 → Option β) : (rd_ f 136 6).bind g = g (f 6) := rdb (n := 6) rfl (by decide) (by decide)
theorem zr7 {β : Type} (f : Nat → Int32) (g : Int32 → Option β) : (rd_ f 136 7).bind g = g (f 7) := rdb (n := 7) rfl (by decide) (by decide)
theorem obs {α β : Type} {a : α} {g : α → Option β} : (some a).bind g = g a := rfl
theorem n1 (j : Nat) : nI j + 1 = nI (j + 1) := nI_1 j
theorem nm (j : Nat) : nI (j + 1) + (-1) = nI j := pk_m1 j
theorem ns1 (j : Nat) : nI (j + 1) - 1 = nI j := nI_pred j
theorem add0 (x : Int32) : x + 0 = x := Int32.add_zero x
-- the model
theorem m_ofFlag (V : Wd) {f : Nat} (w : Nat) (hf : f < 10) (hw : w < 3) : f_X9_ofFlag V (nI f) (nI w) = some (V 113 (8 + 3 * f + w)) := by
  unfold f_X9_ofFlag
  rw [rdb (n := 8 + 3 * f + w) (by simp only [L8, L3, pk_mul, nI_add]) (by omega) (by decide)]
theorem m_of0 (V : Wd) {f : Nat} (hf : f < 10) : f_X9_ofFlag V (nI f) 0 = some (V 113 (8 + 3 * f)) := m_ofFlag V 0 hf (by decide)
theorem m_of1 (V : Wd) {f : Nat} (hf : f < 10) : f_X9_ofFlag V (nI f) 1 = some (V 113 (9 + 3 * f)) := by
  have h := m_ofFlag V 1 hf (by decide)
  rw [show 8 + 3 * f + 1 = 9 + 3 * f by omega] at h
  exact h
theorem m_of2 (V : Wd) {f : Nat} (hf : f < 10) : f_X9_ofFlag V (nI f) 2 = some (V 113 (10 + 3 * f)) := by
  have h := m_ofFlag V 2 hf (by decide)
  rw [show 8 + 3 * f + 2 = 10 + 3 * f by omega] at h
  exact h
theorem m_many (V : Wd) {h : Nat} (hh : h < 5) : f_X9_many V (nI h) = some (zS (V 113) h) := by
  unfold f_X9_many zS
  rw [rdb (n := 38 + 5 * h) (by simp only [L38, L5, pk_mul, nI_add]) (by omega) (by decide)]
theorem m_signOn (V : Wd) {h p : Nat} (hh : h < 5) (hp : p < 5) : f_X9_signOn V (nI h) (nI (p + 1)) = some (zG (V 113) h p) := by
  unfold f_X9_signOn zG
  rw [rdb (n := 39 + 5 * h + p) (by simp only [L38, L5, pk_mul, nI_add]; congr 1; omega) (by omega) (by decide)]
def zH (z : Nat → Int32) : Nat → Int32 := fun f => z (8 + 3 * f)
def zF (z : Nat → Int32) : Nat → Int32 := fun f => z (9 + 3 * f)
def zW (z : Nat → Int32) : Nat → Int32 := fun f => z (10 + 3 * f)
theorem m_fw (V : Wd) (a b : Int32) : ∀ (j n : Nat) (x : Int32), j < 10 → j + 2 ≤ n → x = fw (zH (V 113)) (zF (V 113)) a b (9 - j) → f_X9_flagWith_7 V a b n x (nI j) = some (fw (zH (V 113)) (zF (V 113)) a b 10) := by
  intro j
  induction j with
  | zero =>
    intro n x hj hn hx
    obtain ⟨n, rfl⟩ : ∃ k, n = k + 2 := ⟨n - 2, by omega⟩
    rw [f_X9_flagWith_7, if_neg (nI_pos (by omega)), m_of0 V (by omega), obs]
    have e : fw (zH (V 113)) (zF (V 113)) a b 10 = if zH (V 113) 0 = a ∧ zF (V 113) 0 = b then nI 0 else fw (zH (V 113)) (zF (V 113)) a b 9 := rfl
    rw [e]
    have hl : ∀ y : Int32, f_X9_flagWith_7 V a b (n + 1) y (nI 0 + -1) = some y := by
      intro y
      rw [f_X9_flagWith_7, if_pos (by decide)]
    split
    · next h1 =>
      rw [m_of1 V (by omega), obs]
      split
      · next h2 => rw [hl, if_pos ⟨h1, h2⟩]
      · next h2 => rw [hl, if_neg (fun q => h2 q.2), hx]
    · next h1 => rw [hl, if_neg (fun q => h1 q.1), hx]
  | succ j ih =>
    intro n x hj hn hx
    obtain ⟨n, rfl⟩ : ∃ k, n = k + 1 := ⟨n - 1, by omega⟩
    rw [f_X9_flagWith_7, if_neg (nI_pos (by omega)), m_of0 V (by omega), obs, nm]
    have e : fw (zH (V 113)) (zF (V 113)) a b (9 - j) = if zH (V 113) (j + 1) = a ∧ zF (V 113) (j + 1) = b then nI (j + 1) else fw (zH (V 113)) (zF (V 113)) a b (9 - (j + 1)) := by
      rw [show 9 - j = (9 - (j + 1)) + 1 by omega, fw, show 10 - (9 - (j + 1) + 1) = j + 1 by omega]
    split
    · next h1 =>
      rw [m_of1 V (by omega), obs]
      split
      · next h2 => exact ih n _ (by omega) (by omega) (by rw [e, if_pos ⟨h1, h2⟩])
      · next h2 => exact ih n _ (by omega) (by omega) (by rw [e, if_neg (fun q => h2 q.2), hx])
    · next h1 => exact ih n _ (by omega) (by omega) (by rw [e, if_neg (fun q => h1 q.1), hx])
theorem m_flagWith (V : Wd) (a b : Int32) : f_X9_flagWith V a b = some (fw (zH (V 113)) (zF (V 113)) a b 10) := by
  unfold f_X9_flagWith
  exact m_fw V a b 9 FU_ (-6) (by decide) (by decide) rfl
-- the class
theorem c_fw (k : Nat) (V : Wd) (a b : Int32) : ∀ (d n : Nat), d ≤ 10 → d < n → f_X1_firstWith_2 k V a b n (nI (10 - d)) = some (fw (V (k + 1)) (V (k + 2)) a b d) := by
  intro d
  induction d with
  | zero =>
    intro n hd hn
    obtain ⟨n, rfl⟩ : ∃ k, n = k + 1 := ⟨n - 1, by omega⟩
    rw [f_X1_firstWith_2, if_pos (by decide)]
    rfl
  | succ d ih =>
    intro n hd hn
    obtain ⟨n, rfl⟩ : ∃ k, n = k + 1 := ⟨n - 1, by omega⟩
    rw [f_X1_firstWith_2, if_neg (by rw [L10, nJ_le (by omega) (by omega)]; omega), rdb (n := 10 - (d + 1)) rfl (by omega) (by decide), n1, show 10 - (d + 1) + 1 = 10 - d by omega]
    rw [fw]
    split
    · next h1 =>
      rw [rdb (n := 10 - (d + 1)) rfl (by omega) (by decide)]
      split
      · next h2 => rw [if_pos ⟨h1, h2⟩]
      · next h2 => rw [ih n (by omega) (by omega), if_neg (fun q => h2 q.2)]
    · next h1 => rw [ih n (by omega) (by omega), if_neg (fun q => h1 q.1)]
theorem c_firstWith (k : Nat) (V : Wd) (a b : Int32) : f_X1_firstWith k V a b = some (fw (V (k + 1)) (V (k + 2)) a b 10) := by
  unfold f_X1_firstWith
  exact c_fw k V a b 10 FU_ (by decide) (by decide)
theorem bl_y {n j : Nat} {x : Int32} (hx : x = nI n) (hj : j < n) (hn : n < 100000) : f_X8_isBelow (nI j) x = 1 := by rw [hx]; exact bl_yes hj hn
theorem c_atHoist (k : Nat) (V : Wd) {f : Nat} (hf : f < 10) : f_X1_atHoist k V (nI f) = some (V (k + 1) f) := by
  unfold f_X1_atHoist
  rw [bl_y (n := 10) (x := 10) rfl hf (by decide), if_neg (by decide), rdb (n := f) rfl hf (by decide)]
theorem c_atFly (k : Nat) (V : Wd) {f : Nat} (hf : f < 10) : f_X1_atFly k V (nI f) = some (V (k + 2) f) := by
  unfold f_X1_atFly
  rw [bl_y (n := 10) (x := 10) rfl hf (by decide), if_neg (by decide), rdb (n := f) rfl hf (by decide)]
theorem c_weightOf (k : Nat) (V : Wd) {f : Nat} (hf : f < 10) : f_X1_weightOf k V (nI f) = some (V (k + 3) f) := by
  unfold f_X1_weightOf
  rw [bl_y (n := 10) (x := 10) rfl hf (by decide), if_neg (by decide), rdb (n := f) rfl hf (by decide)]
theorem c_takenFor (k : Nat) (V : Wd) {f : Nat} (hf : f < 10) (first str : Int32) : f_X1_takenFor k V (nI f) first str = some (tk (V (k + 1)) (V (k + 2)) (V (k + 3)) first str f) := by
  unfold f_X1_takenFor tk
  rw [bl_y (n := 10) (x := 10) rfl hf (by decide), if_neg (by decide), rdb (n := f) rfl hf (by decide)]
  split
  · split
    · rw [rdb (n := f) rfl hf (by decide), rdb (n := f) rfl hf (by decide), c_firstWith]; rfl
    · rw [rdb (n := f) rfl hf (by decide), rdb (n := f) rfl hf (by decide), c_firstWith]; rfl
  · rfl
theorem m_droops (V : Wd) {f : Nat} (hf : f < 10) : f_X9_droops V (nI f) = some (if V 113 (10 + 3 * f) ≤ V 113 1 then 0 else 1) := by
  unfold f_X9_droops
  rw [m_of2 V hf, obs, zr1]
  split <;> rfl
theorem m_taken (V : Wd) {f : Nat} (hf : f < 10) (side : Int32) : f_X9_taken V side (nI f) = some (tk (zH (V 113)) (zF (V 113)) (zW (V 113)) (if side = V 113 2 then 1 else 0) (V 113 1) f) := by
  unfold f_X9_taken tk
  rw [m_droops V hf, obs]
  by_cases h1 : V 113 (10 + 3 * f) ≤ V 113 1
  · rw [if_pos h1, if_pos rfl, zr2, if_pos (show zW (V 113) f ≤ V 113 1 from h1)]
    by_cases h2 : side = V 113 2
    · rw [if_pos h2, if_pos h2, if_neg (by decide)]
      unfold f_X9_taken_26
      rw [if_neg (by decide), m_of0 V hf, obs, m_of1 V hf, obs, m_flagWith]
      rfl
    · rw [if_neg h2, if_neg h2, if_pos rfl]
      unfold f_X9_taken_26
      rw [if_pos rfl, m_of1 V hf, obs, m_of0 V hf, obs, m_flagWith]
      rfl
  · rw [if_neg h1, if_neg (by decide), if_neg (show ¬ zW (V 113) f ≤ V 113 1 from h1)]
theorem tk_congr {hc fc wt hc' fc' wt' : Nat → Int32} {first str : Int32} {f : Nat} (hf : f < 10) (h : ∀ f, f < 10 → hc f = hc' f ∧ fc f = fc' f ∧ wt f = wt' f) : tk hc fc wt first str f = tk hc' fc' wt' first str f := by
  unfold tk
  have h1 := h f hf
  rw [h1.1, h1.2.1, h1.2.2, fw_congr (fun f hf => ⟨(h f hf).1, (h f hf).2.1⟩) 10 (by decide), fw_congr (fun f hf => ⟨(h f hf).1, (h f hf).2.1⟩) 10 (by decide)]
theorem tk_cases (hc fc wt : Nat → Int32) (first str : Int32) (f : Nat) : tk hc fc wt first str f = -6 ∨ ∃ j, j < 10 ∧ tk hc fc wt first str f = nI j := by
  unfold tk
  split
  · split <;> exact fw_cases _ _ _ _ 10 (by decide)
  · exact Or.inl rfl

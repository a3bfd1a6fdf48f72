/-! Pure: the word of a hoist, both sides. -/
def en (z : Nat → Int32) : Nat := (z 5).toNatClampNeg
def zC (z : Nat → Int32) : Nat → Int32 := fun e => z (63 + 2 * e)
def zO (z : Nat → Int32) : Nat → Int32 := fun e => z (64 + 2 * e)
theorem enE {z : Nat → Int32} {n : Nat} (e : z 5 = nI n) (hn : n ≤ 12) : en z = n := by
  unfold en
  rw [e, nI_clamp (by omega)]
theorem VR.en {z : Nat → Int32} (hv : VR z) : z 5 = nI (en z) ∧ en z ≤ 12 ∧ ∀ e, e < en z → CD (zC z e) ∧ ∃ w, w < 100 ∧ zO z e = nI w := by
  obtain ⟨n, hn, e, hs⟩ := hv.1
  rw [enE e hn]
  exact ⟨e, hn, hs⟩
def wz (z : Nat → Int32) (c : Int32) : Int32 := wf (zC z) (zO z) c (en z) (en z)
theorem c_wf {V : Wd} {K : Nat} {z : Nat → Int32} (hR : BS V K z) (hv : VR z) (c : Int32) : ∀ (d n : Nat), d ≤ en z → d < n → f_X0_wordFor_2 K V c n (nI (en z - d)) = some (wf (zC z) (zO z) c (en z) d) := by
  obtain ⟨e5, h12, -⟩ := hv.en
  intro d
  induction d with
  | zero =>
    intro n hd hn
    obtain ⟨n, rfl⟩ : ∃ k, n = k + 1 := ⟨n - 1, by omega⟩
    rw [f_X0_wordFor_2, ← hR.1, e5, if_pos (by rw [nJ_le (by omega) (by omega)]; omega)]
    rfl
  | succ d ih =>
    intro n hd hn
    obtain ⟨n, rfl⟩ : ∃ k, n = k + 1 := ⟨n - 1, by omega⟩
    have hb := hR.2 (en z - (d + 1)) (by omega) (by rw [e5, nJ_lt (by omega) (by omega)]; omega)
    rw [f_X0_wordFor_2, ← hR.1, e5, if_neg (by rw [nJ_le (by omega) (by omega)]; omega), if_neg (by rw [show (12 : Int32) = nI 12 from rfl, nJ_le (by omega) (by omega)]; omega), rdb (n := en z - (d + 1)) rfl (by omega) (by decide), ← hb.1, wf, n1, show en z - (d + 1) + 1 = en z - d by omega]
    split
    · next q =>
      rw [rdb (n := en z - (d + 1)) rfl (by omega) (by decide), ← hb.2]
      exact (if_pos q).symm ▸ rfl
    · next q =>
      rw [ih n (by omega) (by omega)]
      exact (if_neg q).symm ▸ rfl
theorem c_wordFor {V : Wd} {K : Nat} {z : Nat → Int32} (hR : BS V K z) (hv : VR z) (c : Int32) : f_X0_wordFor K V c = some (wz z c) := by
  unfold f_X0_wordFor
  have h12 := hv.en.2.1
  have h := c_wf hR hv c (en z) FU_ (Nat.le_refl _) (by unfold FU_; omega)
  rw [Nat.sub_self] at h
  exact h
theorem m_codeOf (V : Wd) {e : Nat} (he : e < 12) : f_X9_codeOf V (nI e) = some (zC (V 113) e) := by
  unfold f_X9_codeOf zC
  rw [rdb (n := 63 + 2 * e) (by simp only [L63, L2, pk_mul, nI_add]) (by omega) (by decide)]
theorem m_wordOf (V : Wd) {e : Nat} (he : e < 12) : f_X9_wordOf V (nI e) = some (zO (V 113) e) := by
  unfold f_X9_wordOf zO
  rw [rdb (n := 64 + 2 * e) (by simp only [L63, L2, L1, pk_mul, nI_add]; congr 1; omega) (by omega) (by decide)]
theorem m_wf {V : Wd} (hv : VR (V 113)) (x1 x2 c : Int32) : ∀ (d n : Nat), d ≤ en (V 113) → d < n → f_X9_read_56 V x1 x2 n c (nI (en (V 113) - d)) = some (wf (zC (V 113)) (zO (V 113)) c (en (V 113)) d) := by
  obtain ⟨e5, h12, -⟩ := hv.en
  intro d
  induction d with
  | zero =>
    intro n hd hn
    obtain ⟨n, rfl⟩ : ∃ k, n = k + 1 := ⟨n - 1, by omega⟩
    rw [f_X9_read_56, zr5, e5, if_pos (by rw [nJ_le (by omega) (by omega)]; omega)]
    rfl
  | succ d ih =>
    intro n hd hn
    obtain ⟨n, rfl⟩ : ∃ k, n = k + 1 := ⟨n - 1, by omega⟩
    rw [f_X9_read_56, zr5, e5, if_neg (by rw [nJ_le (by omega) (by omega)]; omega), m_codeOf V (by omega), obs, wf, n1, show en (V 113) - (d + 1) + 1 = en (V 113) - d by omega]
    split
    · rw [m_wordOf V (by omega)]; rfl
    · exact ih n (by omega) (by omega)
def T_ (z : Nat → Int32) (first str : Int32) (h p : Nat) : Int32 := tk (zH z) (zF z) (zW z) first str (FN z h p)
def RW (z : Nat → Int32) (first str : Int32) (h : Nat) : Int32 := match rc (T_ z first str h) (sn z h) with
  | none => -6
  | some c => wz z c
theorem m_read_l {V : Wd} (hv : VR (V 113)) (side first : Int32) (hfi : (if side = V 113 2 then 1 else 0) = first) {h : Nat} (hh : h < 5) : ∀ (d p n : Nat) (c : Int32), p + d = sn (V 113) h → d < n → rc (T_ (V 113) first (V 113 1) h) p = some c → f_X9_read_5 V side (nI h) n c (nI (p + 1)) = some (RW (V 113) first (V 113 1) h) := by
  obtain ⟨e1, h4, -⟩ := hv.sn hh
  have h12 := hv.en.2.1
  intro d
  induction d with
  | zero =>
    intro p n c hp hn hc
    obtain ⟨n, rfl⟩ : ∃ k, n = k + 1 := ⟨n - 1, by omega⟩
    rw [f_X9_read_5, m_many V hh, obs, e1, if_pos (by rw [nJ_lt (by omega) (by omega)]; omega)]
    have hw := m_wf hv side (nI h) c (en (V 113)) FU_ (Nat.le_refl _) (by unfold FU_; omega)
    rw [Nat.sub_self] at hw
    refine hw.trans ?_
    unfold RW
    rw [show sn (V 113) h = p by omega, hc]
    rfl
  | succ d ih =>
    intro p n c hp hn hc
    obtain ⟨n, rfl⟩ : ∃ k, n = k + 1 := ⟨n - 1, by omega⟩
    rw [f_X9_read_5, m_many V hh, obs, e1, if_neg (by rw [nJ_lt (by omega) (by omega)]; omega), m_flagOn hv hh (by omega), obs, m_taken V (FL_ok hv hh (by omega)).2, obs, n1, hfi]
    have er : rc (T_ (V 113) first (V 113 1) h) (p + 1) = if T_ (V 113) first (V 113 1) h p = -6 then none else some (10 * c + T_ (V 113) first (V 113 1) h p) := by
      rw [rc, hc]
    split
    · next q =>
      have hnone : ∀ j, p + 1 ≤ j → rc (T_ (V 113) first (V 113 1) h) j = none := by
        intro j
        induction j with
        | zero => intro hj; omega
        | succ j ihj =>
          intro hj
          rcases Nat.lt_or_ge p j with q2 | q2
          · rw [rc, ihj (by omega)]
          · rw [show j = p by omega, er]
            exact if_pos q
      unfold RW
      rw [hnone _ (by omega)]
    · next q => exact ih (p + 1) n _ (by omega) (by omega) (by rw [er]; exact if_neg q)
theorem m_read {V : Wd} (hv : VR (V 113)) (side : Int32) {h : Nat} (hh : h < 5) : f_X9_read V side (nI h) = some (RW (V 113) (if side = V 113 2 then 1 else 0) (V 113 1) h) := by
  have h4 := (hv.sn hh).2.1
  exact m_read_l hv side _ rfl hh (sn (V 113) h) 0 FU_ 1 (by omega) (by unfold FU_; omega) rfl
/-- with the mark of an empty hoist -/
def WR (z : Nat → Int32) (first str : Int32) (h : Nat) : Int32 := if sn z h = 0 then -7 else RW z first str h
theorem c_read_l {V : Wd} {k : Nat} {z : Nat → Int32} (hF : FS V (k + 1) z) (hR : HS V (k + 5) z) (hB : BS V (k + 8) z) (hv : VR z) (first str : Int32) {h : Nat} (hh : h < 5) : ∀ (d p n : Nat) (c : Int32), p + d = sn z h → d < n → rc (T_ z first str h) p = some c → f_X6_readHoist_24 k V (nI h) first str n (nI (sn z h)) c (nI (p + 1)) = some (RW z first str h) := by
  obtain ⟨e1, h4, -⟩ := hv.sn hh
  intro d
  induction d with
  | zero =>
    intro p n c hp hn hc
    obtain ⟨n, rfl⟩ : ∃ k, n = k + 1 := ⟨n - 1, by omega⟩
    rw [f_X6_readHoist_24, if_pos (by rw [nJ_lt (by omega) (by omega)]; omega), c_wordFor hB hv, obs]
    unfold RW
    rw [show sn z h = p by omega, hc]
  | succ d ih =>
    intro p n c hp hn hc
    obtain ⟨n, rfl⟩ : ∃ k, n = k + 1 := ⟨n - 1, by omega⟩
    have hf := (FL_ok hv hh (show p < sn z h by omega)).2
    have et : tk (V (k + 1 + 1)) (V (k + 1 + 2)) (V (k + 1 + 3)) first str (FN z h p) = T_ z first str h p := tk_congr hf (fun f hf => ⟨(hF f hf).1.symm, (hF f hf).2.1.symm, (hF f hf).2.2.symm⟩)
    rw [f_X6_readHoist_24, if_neg (by rw [nJ_lt (by omega) (by omega)]; omega), c_flagAt hR hv hh (by omega), obs, c_takenFor _ _ hf, obs, n1, et]
    have er : rc (T_ z first str h) (p + 1) = if T_ z first str h p = -6 then none else some (10 * c + T_ z first str h p) := by
      rw [rc, hc]
    split
    · next q =>
      have hnone : ∀ j, p + 1 ≤ j → rc (T_ z first str h) j = none := by
        intro j
        induction j with
        | zero => intro hj; omega
        | succ j ihj =>
          intro hj
          rcases Nat.lt_or_ge p j with q2 | q2
          · rw [rc, ihj (by omega)]
          · rw [show j = p by omega, er]
            exact if_pos q
      unfold RW
      rw [hnone _ (by omega)]
    · next q => exact ih (p + 1) n _ (by omega) (by omega) (by rw [er]; exact if_neg q)
theorem c_readHoist {V : Wd} {k : Nat} {z : Nat → Int32} (hF : FS V (k + 1) z) (hR : HS V (k + 5) z) (hB : BS V (k + 8) z) (hv : VR z) (first str : Int32) {h : Nat} (hh : h < 5) : f_X6_readHoist k V (nI h) first str = some (WR z first str h) := by
  obtain ⟨e1, h4, -⟩ := hv.sn hh
  unfold f_X6_readHoist WR
  rw [c_sizeOf hR hh, obs, e1]
  by_cases q : sn z h = 0
  · rw [q, if_pos (by decide), if_pos rfl]
  · rw [if_neg (by rw [L0, nJ_eq (by omega) (by omega)]; exact q), if_neg q]
    exact c_read_l hF hR hB hv first str hh (sn z h) 0 FU_ 1 (by omega) (by unfold FU_; omega) rfl
theorem wz_cases {z : Nat → Int32} (hv : VR z) (c : Int32) : wz z c = -6 ∨ ∃ w, w < 100 ∧ wz z c = nI w := by
  obtain ⟨-, -, hs⟩ := hv.en
  have key : ∀ d, d ≤ en z → wf (zC z) (zO z) c (en z) d = -6 ∨ ∃ w, w < 100 ∧ wf (zC z) (zO z) c (en z) d = nI w := by
    intro d
    induction d with
    | zero => intro _; exact Or.inl rfl
    | succ d ih =>
      intro hd
      rw [wf]
      split
      · exact Or.inr (hs _ (by omega)).2
      · exact ih (by omega)
  exact key _ (Nat.le_refl _)
theorem nI_ne7 {w : Nat} (hw : w < 100000) : nI w ≠ -7 := by
  intro h
  have h1 := nJ_tI hw
  rw [h] at h1
  have h2 : (-7 : Int32).toInt = -7 := rfl
  omega
theorem nI_ne6 {w : Nat} (hw : w < 100000) : nI w ≠ -6 := by
  intro h
  have h1 := nJ_tI hw
  rw [h] at h1
  have h2 : (-6 : Int32).toInt = -6 := rfl
  omega
theorem RW_ne {z : Nat → Int32} (hv : VR z) (first str : Int32) (h : Nat) : RW z first str h ≠ -7 := by
  unfold RW
  split
  · decide
  · next c _ =>
    rcases wz_cases hv c with e | ⟨w, hw, e⟩
    · rw [e]; decide
    · rw [e]; exact nI_ne7 (by omega)
theorem WR_e {z : Nat → Int32} (hv : VR z) (first str : Int32) {h : Nat} (hh : h < 5) : (WR z first str h = -7 ↔ zS z h ≤ 0) ∧ (¬ zS z h ≤ 0 → WR z first str h = RW z first str h) := by
  obtain ⟨e1, h4, -⟩ := hv.sn hh
  unfold WR
  rw [e1, L0, nJ_le (by omega) (by omega)]
  by_cases q : sn z h = 0
  · rw [if_pos q]
    exact ⟨⟨fun _ => by omega, fun _ => rfl⟩, fun q2 => absurd (by omega) q2⟩
  · rw [if_neg q]
    exact ⟨⟨fun e => absurd e (RW_ne hv first str h), fun q2 => absurd (by omega) q⟩, fun _ => rfl⟩

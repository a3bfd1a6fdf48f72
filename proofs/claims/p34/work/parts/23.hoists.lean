/-! Pure: signs, flags of signs, counts: both sides. -/
def sn (z : Nat → Int32) (h : Nat) : Nat := (zS z h).toNatClampNeg
theorem snE {z : Nat → Int32} {h n : Nat} (e : zS z h = nI n) (hn : n ≤ 4) : sn z h = n := by
  unfold sn
  rw [e, nI_clamp (by omega)]
theorem VR.sn {z : Nat → Int32} (hv : VR z) {h : Nat} (hh : h < 5) : zS z h = nI (sn z h) ∧ sn z h ≤ 4 ∧ ∀ p, p < sn z h → SG (zG z h p) p := by
  obtain ⟨n, hn, e, hs⟩ := hv.2 h hh
  rw [snE e hn]
  exact ⟨e, hn, hs⟩
/-- the flag for which the sign at the place p stands -/
def fl (g : Nat → Int32) : Nat → Nat → Int32
  | 0, p => g p
  | d + 1, p => if g p ≤ 10 then g p else fl g d ((g p - 10).toNatClampNeg - 1)
theorem SG_le {x : Int32} {p : Nat} (h : SG x p) : (x ≤ 10 ∧ ∃ f, f < 10 ∧ x = nI f) ∨ (¬ x ≤ 10 ∧ ∃ q, q < p ∧ q < 3 ∧ x - 10 = nI (q + 1) ∧ x = nI (11 + q)) := by
  rcases h with ⟨f, hf, rfl⟩ | ⟨q, h1, h2, h3, rfl⟩
  · exact Or.inl ⟨by rw [L10, nJ_le (by omega) (by omega)]; omega, f, hf, rfl⟩
  · refine Or.inr ⟨by rw [L10, nJ_le (by omega) (by omega)]; omega, q - 1, by omega, by omega, ?_, by congr 1; omega⟩
    rw [L10, pk_sub (by omega)]
    congr 1
    omega
theorem fl_ok {g : Nat → Int32} : ∀ (d p : Nat), p ≤ d → (∀ j, j ≤ p → SG (g j) j) → ∃ f, f < 10 ∧ fl g d p = nI f
  | 0, p, hp, hs => by
    obtain rfl : p = 0 := by omega
    rcases hs 0 (by omega) with ⟨f, hf, e⟩ | ⟨q, h1, h2, _⟩
    · exact ⟨f, hf, e⟩
    · omega
  | d + 1, p, hp, hs => by
    rw [fl]
    rcases SG_le (hs p (by omega)) with ⟨h1, f, hf, e⟩ | ⟨h1, q, hq, hq3, e, -⟩
    · rw [if_pos h1]; exact ⟨f, hf, e⟩
    · rw [if_neg h1, e, nI_clamp (by omega), show q + 1 - 1 = q by omega]
      exact fl_ok d q (by omega) (fun j hj => hs j (by omega))
theorem fl_congr {g g' : Nat → Int32} : ∀ (d p : Nat), p ≤ d → (∀ j, j ≤ p → SG (g j) j) → (∀ j, j ≤ p → g j = g' j) → fl g d p = fl g' d p
  | 0, p, hp, hs, he => he p (by omega)
  | d + 1, p, hp, hs, he => by
    rw [fl, fl, ← he p (by omega)]
    rcases SG_le (hs p (by omega)) with ⟨h1, -⟩ | ⟨h1, q, hq, hq3, e, -⟩
    · rw [if_pos h1, if_pos h1]
    · rw [if_neg h1, if_neg h1, e, nI_clamp (by omega), show q + 1 - 1 = q by omega]
      exact fl_congr d q (by omega) (fun j hj => hs j (by omega)) (fun j hj => he j (by omega))
def FL (z : Nat → Int32) (h p : Nat) : Int32 := fl (zG z h) 3 p
/-- the same as a number -/
def FN (z : Nat → Int32) (h p : Nat) : Nat := (FL z h p).toNatClampNeg
theorem FL_ok {z : Nat → Int32} (hv : VR z) {h p : Nat} (hh : h < 5) (hp : p < sn z h) : FL z h p = nI (FN z h p) ∧ FN z h p < 10 := by
  obtain ⟨-, h4, hs⟩ := hv.sn hh
  obtain ⟨f, hf, e⟩ := fl_ok (g := zG z h) 3 p (by omega) (fun j hj => hs j (by omega))
  have e2 : FN z h p = f := by
    unfold FN FL
    rw [e, nI_clamp (by omega)]
  rw [e2]
  exact ⟨e, hf⟩
theorem m_flagOn_l {V : Wd} (hv : VR (V 113)) {h : Nat} (hh : h < 5) (x2 : Int32) : ∀ (d p n : Nat), p ≤ d → d < n → p < sn (V 113) h → f_X9_flagOn_2 V (nI h) x2 n (nI (p + 1)) = some (fl (zG (V 113) h) d p)
  | d, p, 0, _, hn, _ => absurd hn (by omega)
  | 0, p, n + 1, hp, hn, hps => by
    obtain ⟨-, h4, hs⟩ := hv.sn hh
    obtain rfl : p = 0 := by omega
    rw [f_X9_flagOn_2, m_signOn V hh (by omega), obs]
    rcases SG_le (hs 0 hps) with ⟨h1, -⟩ | ⟨h1, q, hq, -⟩
    · rw [if_pos h1]; rfl
    · omega
  | d + 1, p, n + 1, hp, hn, hps => by
    obtain ⟨-, h4, hs⟩ := hv.sn hh
    rw [f_X9_flagOn_2, m_signOn V hh (by omega), obs, fl]
    rcases SG_le (hs p hps) with ⟨h1, -⟩ | ⟨h1, q, hq, hq3, e, -⟩
    · rw [if_pos h1, if_pos h1]; rfl
    · rw [if_neg h1, if_neg h1, obs, e, nI_clamp (by omega), show q + 1 - 1 = q by omega]
      exact m_flagOn_l hv hh x2 d q n (by omega) (by omega) (by omega)
theorem m_flagOn {V : Wd} (hv : VR (V 113)) {h p : Nat} (hh : h < 5) (hp : p < sn (V 113) h) : f_X9_flagOn V (nI h) (nI (p + 1)) = some (nI (FN (V 113) h p)) := by
  unfold f_X9_flagOn
  rw [m_flagOn_l hv hh _ 3 p FU_ (by have := (hv.sn hh).2.1; omega) (by decide) hp]
  exact congrArg some (FL_ok hv hh hp).1
-- the class
theorem c_sizeOf {V : Wd} {K : Nat} {z : Nat → Int32} (hR : HS V K z) {h : Nat} (hh : h < 5) : f_X3_sizeOf K V (nI h) = some (zS z h) := by
  unfold f_X3_sizeOf
  rw [bl_y (n := 5) (x := 5) rfl hh (by decide), if_neg (by decide), rdb (n := h) rfl hh (by decide), (hR h hh).1]
theorem c_sizeOf_no {V : Wd} {K : Nat} {x : Int32} (h : x < 0 ∨ nI 5 ≤ x) : f_X3_sizeOf K V x = some 0 := by
  unfold f_X3_sizeOf
  rw [show f_X8_isBelow x 5 = 0 from bl_no h, if_pos rfl]
theorem c_has {V : Wd} {K : Nat} {z : Nat → Int32} (hR : HS V K z) {h : Nat} (hh : h < 5) {n : Nat} (e : zS z h = nI n) (hn : n ≤ 4) (x : Int32) : f_X3_has K V (nI h) x = some (if f_X9_in x 1 (nI n) = 0 then 0 else 1) := by
  unfold f_X3_has
  rw [if_neg (nI_pos (by omega)), if_neg (by rw [L5, nJ_le (by omega) (by omega)]; omega)]
  by_cases h1 : x < 1
  · rw [if_pos h1, in_no (Or.inl h1), if_pos rfl]
  · rw [if_neg h1]
    by_cases h2 : 4 < x
    · have h3 : nI n < x := by
        have := nJ_tI (n := n) (by omega)
        rw [I_lt] at h2 ⊢
        have h4 : (4 : Int32).toInt = 4 := rfl
        omega
      rw [if_pos h2, in_no (Or.inr h3), if_pos rfl]
    · rw [if_neg h2, rdb (n := h) rfl hh (by decide), ← (hR h hh).1, e]
      by_cases h3 : nI n < x
      · rw [if_pos h3, in_no (Or.inr h3), if_pos rfl]
      · rw [if_neg h3, in_yes (nlt_le.mp h1) (nlt_le.mp h3), if_neg (by decide)]
theorem c_has_no {V : Wd} {K : Nat} {h x : Int32} (hx : h < 0 ∨ nI 5 ≤ h) : f_X3_has K V h x = some 0 := by
  unfold f_X3_has
  by_cases h1 : h < 0
  · rw [if_pos h1]
  · rw [if_neg h1, if_pos (show (5 : Int32) ≤ h from hx.resolve_left h1)]
theorem c_signAt {V : Wd} {K : Nat} {z : Nat → Int32} (hR : HS V K z) {h : Nat} (hh : h < 5) {n p : Nat} (e : zS z h = nI n) (hn : n ≤ 4) (hp : p < n) : f_X3_signAt K V (nI h) (nI (p + 1)) = some (zG z h p) := by
  unfold f_X3_signAt
  rw [c_has hR hh e hn, obs, in_yes (by rw [L1, nJ_le (by omega) (by omega)]; omega) (by rw [nJ_le (by omega) (by omega)]; omega), if_neg (by decide)]
  rw [rdb (n := 4 * h + p) (by simp only [L4, L1, pk_mul, nI_add]; rw [show h * 4 + (p + 1) = (4 * h + p) + 1 by omega]; exact pk_sub (by omega)) (by omega) (by decide)]
  rw [((hR h hh).2 p (by omega) (by rw [e, nJ_lt (by omega) (by omega)]; exact hp))]
theorem c_flagAt_l {V : Wd} {K : Nat} {z : Nat → Int32} (hR : HS V K z) {h : Nat} (hh : h < 5) {N : Nat} (e : zS z h = nI N) (hN : N ≤ 4) (hs : ∀ p, p < N → SG (zG z h p) p) (x2 : Int32) : ∀ (d p n : Nat), d ≤ 3 → p ≤ d → d < n → p < N → f_X3_flagAt_10 K V (nI h) x2 n (zG z h p) (nI (4 - d)) = some (fl (zG z h) d p)
  | d, p, 0, _, _, hn, _ => absurd hn (by omega)
  | 0, p, n + 1, _, hp, hn, hps => by
    rw [f_X3_flagAt_10, if_pos (by decide)]
    rfl
  | d + 1, p, n + 1, hd, hp, hn, hps => by
    rw [f_X3_flagAt_10, if_neg (by rw [L4, nJ_le (by omega) (by omega)]; omega), fl]
    rcases SG_le (hs p hps) with ⟨h1, -⟩ | ⟨h1, q, hq, -, e2, -⟩
    · rw [if_pos h1, if_pos h1]
    · rw [if_neg h1, if_neg h1, e2, c_signAt hR hh e hN (by omega), obs, nI_clamp (by omega), show q + 1 - 1 = q by omega, n1, show 4 - (d + 1) + 1 = 4 - d by omega]
      exact c_flagAt_l hR hh e hN hs x2 d q n (by omega) (by omega) (by omega) (by omega)
theorem c_flagAt {V : Wd} {K : Nat} {z : Nat → Int32} (hR : HS V K z) (hv : VR z) {h p : Nat} (hh : h < 5) (hp : p < sn z h) : f_X3_flagAt K V (nI h) (nI (p + 1)) = some (nI (FN z h p)) := by
  obtain ⟨e, h4, hs⟩ := hv.sn hh
  unfold f_X3_flagAt
  rw [c_signAt hR hh e h4 hp, obs]
  have h1 := c_flagAt_l hR hh e h4 hs (nI (p + 1)) 3 p FU_ (by decide) (by omega) (by decide) hp
  rw [show (1 : Int32) = nI (4 - 3) from rfl, h1]
  exact congrArg some (FL_ok hv hh hp).1
theorem m_isPlace {V : Wd} {h n : Nat} (hh : h < 5) (e : zS (V 113) h = nI n) (x : Int32) : f_X9_isPlace V (nI h) x = some (if f_X9_in x 1 (nI n) = 0 then 0 else 1) := by
  unfold f_X9_isPlace f_X9_isHalyard
  rw [in_yes (nI_pos' (by omega)) (by rw [L4, nJ_le (by omega) (by omega)]; omega), if_neg (by decide), m_many V hh, obs, e]
  split <;> rfl
theorem m_isPlace_no {V : Wd} {h x : Int32} (hx : f_X9_in h 0 4 = 0) : f_X9_isPlace V h x = some 0 := by
  unfold f_X9_isPlace f_X9_isHalyard
  rw [hx, if_pos rfl]
/-- a place is one of the first n, or not -/
theorem place_cases (x : Int32) {n : Nat} (hn : n ≤ 4) : (∃ p, p < n ∧ x = nI (p + 1) ∧ f_X9_in x 1 (nI n) = 1) ∨ f_X9_in x 1 (nI n) = 0 := by
  by_cases h1 : x < 1
  · exact Or.inr (in_no (Or.inl h1))
  · by_cases h2 : nI n < x
    · exact Or.inr (in_no (Or.inr h2))
    · refine Or.inl ?_
      have e1 := nJ_tI (n := n) (by omega)
      rw [I_lt] at h1 h2
      have h3 : (1 : Int32).toInt = 1 := rfl
      obtain ⟨j, hj, e⟩ := vp_in_of (x := x) (n := n + 1) (vp_in_iff.mpr ⟨by omega, by omega⟩) (by omega)
      have e2 := nJ_tI (n := j) (by omega)
      rw [← e] at e2
      refine ⟨j - 1, by omega, by rw [e]; congr 1; omega, ?_⟩
      refine in_yes ?_ ?_ <;> rw [I_le] <;> omega

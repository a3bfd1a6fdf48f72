/-! Pure: counts, both sides. -/
def SZ (z : Nat → Int32) : Prop := ∀ h, h < 5 → zS z h = nI (sn z h) ∧ sn z h ≤ 4
theorem VR.sz {z : Nat → Int32} (hv : VR z) : SZ z := fun h hh => ⟨(hv.sn hh).1, (hv.sn hh).2.1⟩
theorem cnH_le (g : Nat → Int32) (x : Int32) (n : Nat) : cnH g x n ≤ n := cw_le _ n
theorem cnA_le {z : Nat → Int32} (hz : SZ z) (x : Int32) : ∀ h, h ≤ 5 → cnA z x h ≤ 4 * h
  | 0, _ => Nat.le_refl 0
  | h + 1, hh => by
    have h1 := cnA_le hz x h (by omega)
    have h2 := cnH_le (zG z h) x (sn z h)
    have h3 := (hz h (by omega)).2
    show cnA z x h + cnH (zG z h) x (sn z h) ≤ _
    omega
theorem m_used_in {V : Wd} (hz : SZ (V 113)) {h : Nat} (hh : h < 5) (x : Int32) (b : Nat) (hb : b < 100) (K : Int32 → Int32 → Option Int32) : ∀ (d p n : Nat), p + d = sn (V 113) h → d < n → f_X9_used_12 V x K n (nI (b + cnH (zG (V 113) h) x p)) (nI h) (nI (p + 1)) = K (nI (b + cnH (zG (V 113) h) x (sn (V 113) h))) (nI (h + 1)) := by
  intro d
  induction d with
  | zero =>
    intro p n hp hn
    obtain ⟨n, rfl⟩ : ∃ k, n = k + 1 := ⟨n - 1, by omega⟩
    have h4 := (hz h hh).2
    rw [f_X9_used_12, m_many V hh, obs, (hz h hh).1, if_pos (by rw [nJ_lt (by omega) (by omega)]; omega), n1, show p = sn (V 113) h by omega]
  | succ d ih =>
    intro p n hp hn
    obtain ⟨n, rfl⟩ : ∃ k, n = k + 1 := ⟨n - 1, by omega⟩
    have h4 := (hz h hh).2
    rw [f_X9_used_12, m_many V hh, obs, (hz h hh).1, if_neg (by rw [nJ_lt (by omega) (by omega)]; omega), m_signOn V hh (by omega), obs, n1 (p + 1)]
    have e : cnH (zG (V 113) h) x (p + 1) = if zG (V 113) h p = x then cnH (zG (V 113) h) x p + 1 else cnH (zG (V 113) h) x p := rfl
    have h2 := ih (p + 1) n (by omega) (by omega)
    rw [e] at h2
    split
    · next q => rw [if_pos q, ← Nat.add_assoc] at h2; unfold li_; rw [n1]; exact h2
    · next q => rw [if_neg q] at h2; unfold li_; rw [add0]; exact h2
theorem m_used_out {V : Wd} (hz : SZ (V 113)) (x : Int32) : ∀ (d n : Nat), d ≤ 5 → d < n → f_X9_used_4 V x n (nI (cnA (V 113) x (5 - d))) (nI (5 - d)) = some (nI (cnA (V 113) x 5)) := by
  intro d
  induction d with
  | zero =>
    intro n hd hn
    obtain ⟨n, rfl⟩ : ∃ k, n = k + 1 := ⟨n - 1, by omega⟩
    rw [f_X9_used_4, if_pos (by decide)]
  | succ d ih =>
    intro n hd hn
    obtain ⟨n, rfl⟩ : ∃ k, n = k + 1 := ⟨n - 1, by omega⟩
    rw [f_X9_used_4, if_neg (by rw [L5, nJ_le (by omega) (by omega)]; omega)]
    have h1 := cnA_le hz x (5 - (d + 1)) (by omega)
    have h4 := (hz (5 - (d + 1)) (by omega)).2
    have h2 := m_used_in hz (h := 5 - (d + 1)) (by omega) x (cnA (V 113) x (5 - (d + 1))) (by omega) (fun a2 a3 => f_X9_used_4 V x n a2 a3) (sn (V 113) (5 - (d + 1))) 0 FU_ (by omega) (by unfold FU_; omega)
    refine h2.trans ?_
    have h3 := ih n (by omega) (by omega)
    rw [show 5 - d = (5 - (d + 1)) + 1 by omega] at h3
    exact h3
theorem m_used {V : Wd} (hz : SZ (V 113)) (x : Int32) : f_X9_used V x = some (nI (cnA (V 113) x 5)) := m_used_out hz x 5 FU_ (by decide) (by decide)
theorem c_countOf_in {V : Wd} {K : Nat} {z : Nat → Int32} (hR : HS V K z) (hz : SZ z) {h : Nat} (hh : h < 5) (x : Int32) (b : Nat) (hb : b < 100) (K4 : Int32 → Int32 → Option Int32) : ∀ (d p n : Nat), p + d = sn z h → d < n → f_X3_countOf_12 K V x K4 n (nI (b + cnH (zG z h) x p)) (nI h) (nI (p + 1)) = K4 (nI (b + cnH (zG z h) x (sn z h))) (nI (h + 1)) := by
  intro d
  induction d with
  | zero =>
    intro p n hp hn
    obtain ⟨n, rfl⟩ : ∃ k, n = k + 1 := ⟨n - 1, by omega⟩
    have h4 := (hz h hh).2
    rw [f_X3_countOf_12, rdb (n := h) rfl hh (by decide), ← (hR h hh).1, (hz h hh).1, if_pos (by rw [nJ_lt (by omega) (by omega)]; omega), n1, show p = sn z h by omega]
  | succ d ih =>
    intro p n hp hn
    obtain ⟨n, rfl⟩ : ∃ k, n = k + 1 := ⟨n - 1, by omega⟩
    have h4 := (hz h hh).2
    rw [f_X3_countOf_12, rdb (n := h) rfl hh (by decide), ← (hR h hh).1, (hz h hh).1, if_neg (by rw [nJ_lt (by omega) (by omega)]; omega), c_signAt hR hh (hz h hh).1 h4 (by omega), obs, n1 (p + 1)]
    have e : cnH (zG z h) x (p + 1) = if zG z h p = x then cnH (zG z h) x p + 1 else cnH (zG z h) x p := rfl
    have h2 := ih (p + 1) n (by omega) (by omega)
    rw [e] at h2
    split
    · next q => rw [if_pos q, ← Nat.add_assoc] at h2; rw [n1]; exact h2
    · next q => rw [if_neg q] at h2; exact h2
theorem c_countOf_out {V : Wd} {K : Nat} {z : Nat → Int32} (hR : HS V K z) (hz : SZ z) (x : Int32) : ∀ (d n : Nat), d ≤ 5 → d < n → f_X3_countOf_4 K V x n (nI (cnA z x (5 - d))) (nI (5 - d)) = some (nI (cnA z x 5)) := by
  intro d
  induction d with
  | zero =>
    intro n hd hn
    obtain ⟨n, rfl⟩ : ∃ k, n = k + 1 := ⟨n - 1, by omega⟩
    rw [f_X3_countOf_4, if_pos (by decide)]
  | succ d ih =>
    intro n hd hn
    obtain ⟨n, rfl⟩ : ∃ k, n = k + 1 := ⟨n - 1, by omega⟩
    rw [f_X3_countOf_4, if_neg (by rw [L5, nJ_le (by omega) (by omega)]; omega)]
    have h1 := cnA_le hz x (5 - (d + 1)) (by omega)
    have h4 := (hz (5 - (d + 1)) (by omega)).2
    have h2 := c_countOf_in hR hz (h := 5 - (d + 1)) (by omega) x (cnA z x (5 - (d + 1))) (by omega) (fun a2 a3 => f_X3_countOf_4 K V x n a2 a3) (sn z (5 - (d + 1))) 0 FU_ (by omega) (by unfold FU_; omega)
    refine h2.trans ?_
    have h3 := ih n (by omega) (by omega)
    rw [show 5 - d = (5 - (d + 1)) + 1 by omega] at h3
    exact h3
theorem c_countOf {V : Wd} {K : Nat} {z : Nat → Int32} (hR : HS V K z) (hz : SZ z) (x : Int32) : f_X3_countOf K V x = some (nI (cnA z x 5)) := c_countOf_out hR hz x 5 FU_ (by decide) (by decide)
/-- most pieces of a kind, over the first signs -/
def mx (z : Nat → Int32) : Nat → Int32
  | 0 => 0
  | s + 1 => if nI (cnA z (nI s) 5) ≤ mx z s then mx z s else nI (cnA z (nI s) 5)
theorem mx_le {z : Nat → Int32} (t : Int32) : ∀ n, mx z n ≤ t ↔ 0 ≤ t ∧ ∀ s, s < n → nI (cnA z (nI s) 5) ≤ t
  | 0 => ⟨fun h => ⟨h, fun s hs => absurd hs (by omega)⟩, fun h => h.1⟩
  | n + 1 => by
    have ih := mx_le (z := z) t n
    rw [mx]
    constructor
    · intro h
      split at h
      · next q =>
        obtain ⟨h0, h1⟩ := ih.mp h
        refine ⟨h0, fun s hs => ?_⟩
        rcases Nat.lt_or_ge s n with q2 | q2
        · exact h1 s q2
        · obtain rfl : s = n := by omega
          rw [I_le] at *
          omega
      · next q =>
        have hm : mx z n ≤ t := by rw [I_le] at *; omega
        obtain ⟨h0, h1⟩ := ih.mp hm
        refine ⟨h0, fun s hs => ?_⟩
        rcases Nat.lt_or_ge s n with q2 | q2
        · exact h1 s q2
        · obtain rfl : s = n := by omega
          exact h
    · rintro ⟨h0, h1⟩
      split
      · exact ih.mpr ⟨h0, fun s hs => h1 s (by omega)⟩
      · exact h1 n (by omega)
theorem m_mostUsed_l {V : Wd} (hz : SZ (V 113)) : ∀ (d n : Nat), d ≤ 14 → d < n → f_X9_mostUsed_4 V n (mx (V 113) (14 - d)) (nI (14 - d)) = some (mx (V 113) 14) := by
  intro d
  induction d with
  | zero =>
    intro n hd hn
    obtain ⟨n, rfl⟩ : ∃ k, n = k + 1 := ⟨n - 1, by omega⟩
    rw [f_X9_mostUsed_4, if_pos (by decide)]
  | succ d ih =>
    intro n hd hn
    obtain ⟨n, rfl⟩ : ∃ k, n = k + 1 := ⟨n - 1, by omega⟩
    rw [f_X9_mostUsed_4, if_neg (by rw [show (13 : Int32) = nI 13 from rfl, nJ_lt (by omega) (by omega)]; omega), m_used hz, obs, obs, n1, show 14 - (d + 1) + 1 = 14 - d by omega]
    have h3 := ih n (by omega) (by omega)
    have e : mx (V 113) (14 - d) = if nI (cnA (V 113) (nI (14 - (d + 1))) 5) ≤ mx (V 113) (14 - (d + 1)) then mx (V 113) (14 - (d + 1)) else nI (cnA (V 113) (nI (14 - (d + 1))) 5) := by
      rw [show 14 - d = (14 - (d + 1)) + 1 by omega]; rfl
    rw [e] at h3
    split
    · next q => rw [if_pos q] at h3; exact h3
    · next q => rw [if_neg q] at h3; exact h3
theorem m_mostUsed {V : Wd} (hz : SZ (V 113)) : f_X9_mostUsed V = some (mx (V 113) 14) := m_mostUsed_l hz 14 FU_ (by decide) (by decide)
theorem c_most_l {V : Wd} {K : Nat} {z : Nat → Int32} (hR : HS V K z) (hz : SZ z) : ∀ (d n : Nat), d ≤ 14 → d < n → f_X3_mostOfAKind_4 K V n (mx z (14 - d)) (nI (14 - d)) = some (mx z 14) := by
  intro d
  induction d with
  | zero =>
    intro n hd hn
    obtain ⟨n, rfl⟩ : ∃ k, n = k + 1 := ⟨n - 1, by omega⟩
    rw [f_X3_mostOfAKind_4, if_pos (by decide)]
  | succ d ih =>
    intro n hd hn
    obtain ⟨n, rfl⟩ : ∃ k, n = k + 1 := ⟨n - 1, by omega⟩
    rw [f_X3_mostOfAKind_4, if_neg (by rw [show (13 : Int32) = nI 13 from rfl, nJ_lt (by omega) (by omega)]; omega), c_countOf hR hz, obs, n1, show 14 - (d + 1) + 1 = 14 - d by omega]
    unfold li_
    have h3 := ih n (by omega) (by omega)
    have e : mx z (14 - d) = if nI (cnA z (nI (14 - (d + 1))) 5) ≤ mx z (14 - (d + 1)) then mx z (14 - (d + 1)) else nI (cnA z (nI (14 - (d + 1))) 5) := by
      rw [show 14 - d = (14 - (d + 1)) + 1 by omega]; rfl
    rw [e] at h3
    by_cases q : nI (cnA z (nI (14 - (d + 1))) 5) ≤ mx z (14 - (d + 1))
    · rw [if_pos q] at h3; rw [if_neg (nlt_le.mpr q)]; exact h3
    · rw [if_neg q] at h3; rw [if_pos (nle_lt.mp q)]; exact h3
theorem c_most {V : Wd} {K : Nat} {z : Nat → Int32} (hR : HS V K z) (hz : SZ z) : f_X3_mostOfAKind K V = some (mx z 14) := c_most_l hR hz 14 FU_ (by decide) (by decide)
/-- all signs, hoists that are not empty, of the first halyards -/
def al (z : Nat → Int32) : Nat → Int32
  | 0 => 0
  | h + 1 => al z h + zS z h
def hc_ (z : Nat → Int32) : Nat → Nat
  | 0 => 0
  | h + 1 => if zS z h ≤ 0 then hc_ z h else hc_ z h + 1
theorem m_all_l {V : Wd} : ∀ (d n : Nat), d ≤ 5 → d < n → f_X9_allSigns_4 V n (al (V 113) (5 - d)) (nI (5 - d)) = some (al (V 113) 5) := by
  intro d
  induction d with
  | zero =>
    intro n hd hn
    obtain ⟨n, rfl⟩ : ∃ k, n = k + 1 := ⟨n - 1, by omega⟩
    rw [f_X9_allSigns_4, if_pos (by decide)]
  | succ d ih =>
    intro n hd hn
    obtain ⟨n, rfl⟩ : ∃ k, n = k + 1 := ⟨n - 1, by omega⟩
    rw [f_X9_allSigns_4, if_neg (by rw [L5, nJ_le (by omega) (by omega)]; omega), m_many V (by omega), obs, n1]
    unfold li_
    have h3 := ih n (by omega) (by omega)
    rw [show 5 - d = (5 - (d + 1)) + 1 by omega] at h3
    exact h3
theorem m_all (V : Wd) : f_X9_allSigns V = some (al (V 113) 5) := m_all_l 5 FU_ (by decide) (by decide)
theorem c_all_l {V : Wd} {K : Nat} {z : Nat → Int32} (hR : HS V K z) : ∀ (d n : Nat), d ≤ 5 → d < n → f_X3_countAll_4 K V n (al z (5 - d)) (nI (5 - d)) = some (al z 5) := by
  intro d
  induction d with
  | zero =>
    intro n hd hn
    obtain ⟨n, rfl⟩ : ∃ k, n = k + 1 := ⟨n - 1, by omega⟩
    rw [f_X3_countAll_4, if_pos (by decide)]
  | succ d ih =>
    intro n hd hn
    obtain ⟨n, rfl⟩ : ∃ k, n = k + 1 := ⟨n - 1, by omega⟩
    rw [f_X3_countAll_4, if_neg (by rw [L5, nJ_le (by omega) (by omega)]; omega), rdb (n := 5 - (d + 1)) rfl (by omega) (by decide), ← (hR (5 - (d + 1)) (by omega)).1, n1]
    unfold li_
    have h3 := ih n (by omega) (by omega)
    rw [show 5 - d = (5 - (d + 1)) + 1 by omega] at h3
    exact h3
theorem c_all {V : Wd} {K : Nat} {z : Nat → Int32} (hR : HS V K z) : f_X3_countAll K V = some (al z 5) := c_all_l hR 5 FU_ (by decide) (by decide)
theorem m_hoists_l {V : Wd} : ∀ (d n : Nat), d ≤ 5 → d < n → f_X9_hoists_4 V n (nI (hc_ (V 113) (5 - d))) (nI (5 - d)) = some (nI (hc_ (V 113) 5)) := by
  intro d
  induction d with
  | zero =>
    intro n hd hn
    obtain ⟨n, rfl⟩ : ∃ k, n = k + 1 := ⟨n - 1, by omega⟩
    rw [f_X9_hoists_4, if_pos (by decide)]
  | succ d ih =>
    intro n hd hn
    obtain ⟨n, rfl⟩ : ∃ k, n = k + 1 := ⟨n - 1, by omega⟩
    rw [f_X9_hoists_4, if_neg (by rw [L5, nJ_le (by omega) (by omega)]; omega), m_many V (by omega), obs, n1 (5 - (d + 1))]
    have h3 := ih n (by omega) (by omega)
    rw [show 5 - d = (5 - (d + 1)) + 1 by omega, hc_] at h3
    split
    · next q => rw [if_pos q] at h3; unfold li_; rw [add0]; exact h3
    · next q => rw [if_neg q] at h3; unfold li_; rw [n1]; exact h3
theorem m_hoists (V : Wd) : f_X9_hoists V = some (nI (hc_ (V 113) 5)) := m_hoists_l 5 FU_ (by decide) (by decide)
theorem c_hoists_l {V : Wd} {K : Nat} {z : Nat → Int32} (hR : HS V K z) : ∀ (d n : Nat), d ≤ 5 → d < n → f_X3_countNotEmpty_4 K V n (nI (hc_ z (5 - d))) (nI (5 - d)) = some (nI (hc_ z 5)) := by
  intro d
  induction d with
  | zero =>
    intro n hd hn
    obtain ⟨n, rfl⟩ : ∃ k, n = k + 1 := ⟨n - 1, by omega⟩
    rw [f_X3_countNotEmpty_4, if_pos (by decide)]
  | succ d ih =>
    intro n hd hn
    obtain ⟨n, rfl⟩ : ∃ k, n = k + 1 := ⟨n - 1, by omega⟩
    rw [f_X3_countNotEmpty_4, if_neg (by rw [L5, nJ_le (by omega) (by omega)]; omega), rdb (n := 5 - (d + 1)) rfl (by omega) (by decide), ← (hR (5 - (d + 1)) (by omega)).1, n1 (5 - (d + 1))]
    have h3 := ih n (by omega) (by omega)
    rw [show 5 - d = (5 - (d + 1)) + 1 by omega, hc_] at h3
    split
    · next q => rw [if_pos q] at h3; exact h3
    · next q => rw [if_neg q] at h3; rw [n1]; exact h3
theorem c_hoists {V : Wd} {K : Nat} {z : Nat → Int32} (hR : HS V K z) : f_X3_countNotEmpty K V = some (nI (hc_ z 5)) := c_hoists_l hR 5 FU_ (by decide) (by decide)
theorem hc_le (z : Nat → Int32) : ∀ h, hc_ z h ≤ h
  | 0 => Nat.le_refl 0
  | h + 1 => by
    have := hc_le z h
    rw [hc_]
    split <;> omega
/-- no hoist is up: as the sum, as the count -/
theorem al_nI {z : Nat → Int32} (hz : SZ z) : ∀ h, h ≤ 5 → ∃ n, n ≤ 4 * h ∧ al z h = nI n ∧ (n = 0 ↔ hc_ z h = 0)
  | 0, _ => ⟨0, Nat.le_refl 0, rfl, Iff.rfl⟩
  | h + 1, hh => by
    obtain ⟨n, hn, e, hi⟩ := al_nI hz h (by omega)
    obtain ⟨e1, h4⟩ := hz h (by omega)
    refine ⟨n + sn z h, by omega, by rw [al, e, e1, nI_add], ?_⟩
    rw [hc_, e1]
    by_cases q : sn z h = 0
    · rw [q, if_pos (by decide)]
      exact hi
    · rw [if_neg (by rw [L0, nJ_le (by omega) (by omega)]; omega)]
      omega
theorem al0 {z : Nat → Int32} (hz : SZ z) : al z 5 = 0 ↔ nI (hc_ z 5) = 0 := by
  obtain ⟨n, hn, e, hi⟩ := al_nI hz 5 (by decide)
  have h5 := hc_le z 5
  rw [e, L0, nJ_eq (by omega) (by omega), nJ_eq (by omega) (by omega)]
  exact hi
theorem hc_pos {z : Nat → Int32} (hz : SZ z) : ∀ n, n ≤ 5 → (0 < hc_ z n ↔ ∃ h, h < n ∧ zS z h ≠ 0)
  | 0, _ => ⟨fun h => absurd h (Nat.lt_irrefl 0), fun ⟨h, hh, _⟩ => absurd hh (by omega)⟩
  | n + 1, hn => by
    have ih := hc_pos hz n (by omega)
    obtain ⟨e1, h4⟩ := hz n (by omega)
    rw [hc_]
    by_cases q : zS z n ≤ 0
    · rw [if_pos q]
      have q0 : zS z n = 0 := by
        rw [e1, L0, nJ_le (by omega) (by omega)] at q
        rw [e1, L0]
        congr 1
        omega
      refine ih.trans ⟨fun ⟨h, hh, e⟩ => ⟨h, by omega, e⟩, fun ⟨h, hh, e⟩ => ⟨h, ?_, e⟩⟩
      rcases Nat.lt_or_ge h n with q2 | q2
      · exact q2
      · obtain rfl : h = n := by omega
        exact absurd q0 e
    · rw [if_neg q]
      refine ⟨fun _ => ⟨n, by omega, fun e => q (by rw [e]; decide)⟩, fun _ => by omega⟩

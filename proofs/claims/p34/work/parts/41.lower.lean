/-! Pure: lower. -/
theorem c_readR {V : Wd} {z : Nat → Int32} (hR : RS V 1 z) (hv : VR z) (h6 : V 106 0 = 0) (h9 : V 109 0 = 1) {s : Nat} (hs : s < 2) : ∃ r V', (r = 106 ∨ r = 109) ∧ kd r = 8 ∧ f_X8_read V (nI s) = some (r, V') ∧ MG V' r (ML (WM z (nI s)) (nI s)) ∧ FR r V V' := by
  obtain ⟨⟨e0, e1, e2, e3, e4⟩, hF, hH, hB, -⟩ := hR
  rcases (show s = 0 ∨ s = 1 by omega) with rfl | rfl
  · obtain ⟨V', g1, g2, g3, g4⟩ := c_look (r := 106) (by decide) hv hF hH hB (V 1 5) (V 1 6) h6
    refine ⟨106, V', Or.inl rfl, rfl, ?_, ?_, g4⟩
    · unfold f_X8_read li_ f_X8_readingOf
      rw [if_pos (show nI 0 = 0 from rfl)]
      dsimp only
      rw [if_pos (show kd 106 = 8 from rfl), g1, obs]
    · rw [← e1, ← e2] at g2; exact g2
  · obtain ⟨V', g1, g2, g3, g4⟩ := c_look (r := 109) (by decide) hv hF hH hB (V 1 5) (V 1 6) h9
    refine ⟨109, V', Or.inr rfl, rfl, ?_, ?_, g4⟩
    · unfold f_X8_read li_ f_X8_readingOf
      rw [if_neg (show ¬ nI 1 = 0 by decide)]
      dsimp only
      rw [if_pos (show kd 109 = 8 from rfl), g1, obs]
    · rw [← e1, ← e2] at g2; exact g2
def SAME (z y : Nat → Int32) : Prop := ∀ j, j < 87 → j ≠ 4 → j ≠ 6 → j ≠ 7 → y j = z j
theorem VR_same {z y : Nat → Int32} (hv : VR z) (h : SAME z y) : VR y := by
  obtain ⟨⟨n, hn, e, hs⟩, hg⟩ := hv
  refine ⟨⟨n, hn, by rw [h 5 (by omega) (by omega) (by omega) (by omega)]; exact e, fun k hk => ?_⟩, fun k hk => ?_⟩
  · rw [h (63 + 2 * k) (by omega) (by omega) (by omega) (by omega), h (64 + 2 * k) (by omega) (by omega) (by omega) (by omega)]
    exact hs k hk
  · obtain ⟨m, hm, e2, hs2⟩ := hg k hk
    refine ⟨m, hm, (h _ (by omega) (by omega) (by omega) (by omega)).trans e2, fun p hp => ?_⟩
    rw [show zG y k p = zG z k p from h _ (by omega) (by omega) (by omega) (by omega)]
    exact hs2 p hp
theorem ML_same {z y : Nat → Int32} (hv : VR z) (h : SAME z y) (side : Int32) : ML (WM y side) side = ML (WM z side) side := by
  refine ML_congr side (fun k hk => ?_)
  show WR y (fst_ y side) (y 1) k = WR z (fst_ z side) (z 1) k
  rw [show fst_ y side = fst_ z side by unfold fst_; rw [h 2 (by omega) (by omega) (by omega) (by omega)], h 1 (by omega) (by omega) (by omega) (by omega)]
  exact WR_cong hv hk (h _ (by omega) (by omega) (by omega) (by omega)) (fun p hp => h _ (by omega) (by omega) (by omega) (by omega)) (h 5 (by omega) (by omega) (by omega) (by omega)) (fun f hf => ⟨h _ (by omega) (by omega) (by omega) (by omega), h _ (by omega) (by omega) (by omega) (by omega), h _ (by omega) (by omega) (by omega) (by omega)⟩) (fun e he => ⟨h _ (by omega) (by omega) (by omega) (by omega), h _ (by omega) (by omega) (by omega) (by omega)⟩) _ _
-- the class
theorem c_clear_l (K : Nat) : ∀ (d n : Nat) (V : Wd), d ≤ 5 → d < n → (∀ h, h < 5 - d → V (K + 2) h = 0) → ∃ V', f_X3_clear_2 K n V (nI (5 - d)) = some V' ∧ (∀ h, h < 5 → V' (K + 2) h = 0) ∧ ∀ c, c ≠ K + 2 → V' c = V c := by
  intro d
  induction d with
  | zero =>
    intro n V hd hn hV
    obtain ⟨n, rfl⟩ : ∃ k, n = k + 1 := ⟨n - 1, by omega⟩
    rw [f_X3_clear_2, if_pos (by decide)]
    exact ⟨V, rfl, hV, fun _ _ => rfl⟩
  | succ d ih =>
    intro n V hd hn hV
    obtain ⟨n, rfl⟩ : ∃ k, n = k + 1 := ⟨n - 1, by omega⟩
    rw [f_X3_clear_2, if_neg (by rw [L5, nJ_le (by omega) (by omega)]; omega), st_n (by omega) (by omega), n1, show 5 - (d + 1) + 1 = 5 - d by omega]
    obtain ⟨V', g1, g2, g3⟩ := ih n (u2 V (K + 2) (5 - (d + 1)) 0) (by omega) (by omega) (fun h hh => by
      rw [u2_at]
      by_cases q : h = 5 - (d + 1)
      · rw [q, pk_us]
      · rw [pk_un q]; exact hV h (by omega))
    exact ⟨V', g1, g2, fun c hc => by rw [g3 c hc, u2_ne hc]⟩
theorem Z55 : (0 : Int32) = nI (5 - 5) := rfl
theorem c_clear (K : Nat) (V : Wd) : ∃ V', f_X3_clear K V = some V' ∧ (∀ h, h < 5 → V' (K + 2) h = 0) ∧ ∀ c, c ≠ K + 2 → V' c = V c := by
  have hFU := FU_v
  obtain ⟨V', g1, g2⟩ := c_clear_l K 5 FU_ V (by omega) (by omega) (fun h hh => absurd hh (by omega))
  unfold f_X3_clear
  rw [Z55]
  exact ⟨V', g1, g2⟩
theorem c_add_l {k1 n l : Nat} (hk : k1 ≠ 12 ∧ k1 ≠ 13 ∧ k1 ≠ 14) (hn : n < 8) (x2 : Int32) : ∀ (d m : Nat) (V : Wd), d ≤ 5 → d < m → V 12 2 = nI n → ∃ V', f_X4_add_59 12 k1 x2 m V (nI (5 - d)) = some V' ∧ V' 12 2 = nI (n + 1) ∧ V' 12 3 = V 12 3 + 1 ∧ V' 14 = upd (V 14) n x2 ∧ (∀ j, V' 13 j = if 5 * n + (5 - d) ≤ j ∧ j < 5 * n + 5 then V k1 (j - 5 * n) else V 13 j) ∧ ∀ c, c ≠ 12 → c ≠ 13 → c ≠ 14 → V' c = V c := by
  intro d
  induction d with
  | zero =>
    intro m V hd hm hV
    obtain ⟨m, rfl⟩ : ∃ k, m = k + 1 := ⟨m - 1, by omega⟩
    rw [f_X4_add_59, if_pos (by decide)]
    unfold f_X4_add_92
    rw [hV, st_n hn (by omega), u2_ne (show (12 : Nat) ≠ 12 + 2 by omega), hV, n1, lib_, lib_]
    refine ⟨_, rfl, ?_, ?_, ?_, fun j => ?_, fun c h1 h2 h3 => ?_⟩
    · rw [u2_n (Or.inr (by omega)), u2_s]
    · rw [u2_s, u2_n (Or.inr (by omega)), u2_ne (by omega)]
    · rw [u2_ne (by omega), u2_ne (by omega), show (14 : Nat) = 12 + 2 from rfl, u2_at]
    · rw [u2_ne (by omega), u2_ne (by omega), u2_ne (by omega), if_neg (by omega)]
    · rw [u2_ne h1, u2_ne h1, u2_ne (by omega)]
  | succ d ih =>
    intro m V hd hm hV
    obtain ⟨m, rfl⟩ : ∃ k, m = k + 1 := ⟨m - 1, by omega⟩
    obtain ⟨i, hi⟩ : ∃ i, i = 5 - (d + 1) := ⟨_, rfl⟩
    have e : V 12 2 * 5 + nI i = nI (5 * n + i) := by rw [hV, L5, pk_mul, nI_add, Nat.mul_comm]
    have q5 : ¬ (5 : Int32) ≤ nI i := by rw [L5, nJ_le (by omega) (by omega)]; omega
    rw [f_X4_add_59, ← hi, if_neg q5, if_neg q5, rdb (n := i) rfl (by omega) (by omega), st_e e (by omega) (by omega), n1]
    obtain ⟨V', g1, g2, g3, g4, g5, g6⟩ := ih m (u2 V (12 + 1) (5 * n + i) (V k1 i)) (by omega) (by omega) (by rw [u2_ne (by omega)]; exact hV)
    rw [show 5 - d = i + 1 by omega] at g1 g5
    refine ⟨V', g1, g2, by rw [g3, u2_ne (by omega)], by rw [g4, u2_ne (by omega)], fun j => ?_, fun c h1 h2 h3 => by rw [g6 c h1 h2 h3, u2_ne (by omega)]⟩
    rw [g5, u2_ne (show k1 ≠ 12 + 1 by omega), show (13 : Nat) = 12 + 1 from rfl, u2_at]
    by_cases h1 : 5 * n + (i + 1) ≤ j ∧ j < 5 * n + 5
    · have h2 : 5 * n + i ≤ j ∧ j < 5 * n + 5 := by omega
      rw [if_pos h1, if_pos h2]
    · rw [if_neg h1]
      by_cases h3 : j = 5 * n + i
      · have h2 : 5 * n + i ≤ j ∧ j < 5 * n + 5 := by omega
        rw [if_pos h2, h3, pk_us, show 5 * n + i - 5 * n = i by omega]
      · have h2 : ¬(5 * n + i ≤ j ∧ j < 5 * n + 5) := by omega
        rw [if_neg h2, pk_un h3]
/-- the row that a new entry of the log takes, of n entries -/
def nl (n : Nat) : Nat := if n = 8 then 7 else n
/-- a log of n entries after an entry with the words of g, l of them -/
def LA (V V' : Wd) (n : Nat) (l : Int32) (g : Nat → Int32) : Prop := V' 12 2 = nI (nl n + 1) ∧ V' 12 3 = V 12 3 + 1 ∧ (∀ m, m < 8 → V' 14 m = if m = nl n then l else if n = 8 then V 14 (m + 1) else V 14 m) ∧ (∀ m i, m < 8 → i < 5 → V' 13 (5 * m + i) = if m = nl n then g i else if n = 8 then V 13 (5 * (m + 1) + i) else V 13 (5 * m + i)) ∧ ∀ c, c ≠ 12 → c ≠ 13 → c ≠ 14 → V' c = V c
theorem cpx_at {V : Wd} {a s n j : Nat} (h : j < n) : cp2 V a a s 0 n a j = V a (s + j) := by
  unfold cp2
  rw [uf_at, pk_cpy_in (by omega) (by omega), Nat.sub_zero]
theorem c_logadd {V : Wd} {k1 n : Nat} (hk : k1 ≠ 12 ∧ k1 ≠ 13 ∧ k1 ≠ 14) (hn : n ≤ 8) (hV : V 12 2 = nI n) (l : Int32) : ∃ V', f_X4_add 12 k1 V l = some V' ∧ LA V V' n l (V k1) := by
  have hFU := FU_v
  unfold f_X4_add LA nl
  rw [hV, Z55]
  by_cases q8 : n = 8
  · subst q8
    rw [if_neg (by decide), lib_, lib_, lib_]
    obtain ⟨V4, h4⟩ : ∃ V4, u2 (cp2 (cp2 V (12 + 1) (12 + 1) 5 0 35) (12 + 2) (12 + 2) 1 0 7) 12 2 7 = V4 := ⟨_, rfl⟩
    rw [h4]
    have e2 : V4 12 2 = nI 7 := by rw [← h4, u2_s]; rfl
    have e3 : V4 12 3 = V 12 3 := by rw [← h4, u2_n (Or.inr (by omega))]; unfold cp2; rw [uf_ne (by omega), uf_ne (by omega)]
    have e13 : ∀ j, j < 35 → V4 13 j = V 13 (5 + j) := fun j hj => by
      rw [← h4, u2_ne (by omega)]
      have h1 : cp2 (cp2 V (12 + 1) (12 + 1) 5 0 35) (12 + 2) (12 + 2) 1 0 7 13 = cp2 V (12 + 1) (12 + 1) 5 0 35 13 := uf_ne (by omega)
      rw [h1]
      exact cpx_at (a := 12 + 1) hj
    have e14 : ∀ j, j < 7 → V4 14 j = V 14 (1 + j) := fun j hj => by
      rw [← h4, u2_ne (by omega)]
      have h1 := cpx_at (V := cp2 V (12 + 1) (12 + 1) 5 0 35) (a := 12 + 2) (s := 1) hj
      rw [show (14 : Nat) = 12 + 2 from rfl, h1]
      unfold cp2
      rw [uf_ne (by omega)]
    have eo : ∀ c, c ≠ 12 → c ≠ 13 → c ≠ 14 → V4 c = V c := fun c h1 h2 h3 => by
      rw [← h4, u2_ne h1]
      unfold cp2
      rw [uf_ne (by omega), uf_ne (by omega)]
    obtain ⟨V', g1, g2, g3, g4, g5, g6⟩ := c_add_l (l := 0) hk (show 7 < 8 by omega) l 5 FU_ V4 (by omega) (by omega) e2
    rw [e2, bl_y (n := 8) (x := 8) rfl (by omega) (by omega), if_neg (by decide)]
    refine ⟨V', g1, ?_, ?_, fun m hm => ?_, fun m i hm hi => ?_, fun c h1 h2 h3 => ?_⟩
    · rw [g2, if_pos rfl]
    · rw [g3, e3]
    · rw [g4, if_pos rfl, if_pos rfl]
      by_cases q : m = 7
      · rw [q, pk_us, if_pos rfl]
      · rw [pk_un q, if_neg q, e14 m (by omega), Nat.add_comm]
    · rw [g5, if_pos rfl, if_pos rfl]
      by_cases q : m = 7
      · subst q
        rw [if_pos ⟨by omega, by omega⟩, if_pos rfl, eo k1 hk.1 hk.2.1 hk.2.2]
        congr 1
        omega
      · rw [if_neg (by omega), if_neg q, e13 _ (by omega)]
        congr 1
        omega
    · rw [g6 c h1 h2 h3, eo c h1 h2 h3]
  · rw [if_pos (by rw [L8, nJ_lt (by omega) (by omega)]; omega), bl_y (n := 8) (x := 8) rfl (by omega) (by omega), if_neg (by decide)]
    obtain ⟨V', g1, g2, g3, g4, g5, g6⟩ := c_add_l (l := 0) hk (show n < 8 by omega) l 5 FU_ V (by omega) (by omega) hV
    refine ⟨V', g1, ?_, g3, fun m hm => ?_, fun m i hm hi => ?_, g6⟩
    · rw [g2, if_neg q8]
    · rw [g4, if_neg q8, if_neg q8]
      by_cases q : m = n
      · rw [q, pk_us, if_pos rfl]
      · rw [pk_un q, if_neg q]
    · rw [g5, if_neg q8, if_neg q8]
      by_cases q : m = n
      · subst q
        rw [if_pos ⟨by omega, by omega⟩, if_pos rfl]
        congr 1
        omega
      · rw [if_neg (by omega), if_neg q]
-- the model
theorem m_log80 {z : Nat → Int32} (hv : VR z) {n : Nat} (hn : n < 8) : ∀ (d m : Nat) (V : Wd), d ≤ 5 → d < m → SAME z (V 113) → ∃ V', f_X9_logs_80 m V (nI (87 + 6 * n)) (nI (5 - d)) = f_X9_logs_124 V' ∧ (∀ c, c ≠ 113 → V' c = V c) ∧ ∀ j, V' 113 j = if 88 + 6 * n + (5 - d) ≤ j ∧ j < 93 + 6 * n then (if j - (88 + 6 * n) < (ML (WM z (z 3)) (z 3)).length then (ML (WM z (z 3)) (z 3)).getD (j - (88 + 6 * n)) (-6) else 0) else V 113 j := by
  intro d
  induction d with
  | zero =>
    intro m V hd hm hV
    obtain ⟨m, rfl⟩ : ∃ k, m = k + 1 := ⟨m - 1, by omega⟩
    rw [f_X9_logs_80, if_pos (by decide)]
    exact ⟨V, rfl, fun _ _ => rfl, fun j => by rw [if_neg (by omega)]⟩
  | succ d ih =>
    intro m V hd hm hV
    obtain ⟨m, rfl⟩ : ∃ k, m = k + 1 := ⟨m - 1, by omega⟩
    obtain ⟨i, hi⟩ : ∃ i, i = 5 - (d + 1) := ⟨_, rfl⟩
    have hvV := VR_same hv hV
    have h5 := ML_len5 (WM z (z 3)) (z 3)
    have e : nI (87 + 6 * n) + 1 + nI i = nI (88 + 6 * n + i) := by rw [n1, nI_add]; congr 1; omega
    have e3 : V 113 3 = z 3 := hV 3 (by omega) (by omega) (by omega) (by omega)
    have hstep : ∀ x : Int32, ∃ V', f_X9_logs_80 m (u2 V 113 (88 + 6 * n + i) x) (nI (87 + 6 * n)) (nI (i + 1)) = f_X9_logs_124 V' ∧ (∀ c, c ≠ 113 → V' c = V c) ∧ ∀ j, V' 113 j = if j = 88 + 6 * n + i then x else if 88 + 6 * n + (i + 1) ≤ j ∧ j < 93 + 6 * n then (if j - (88 + 6 * n) < (ML (WM z (z 3)) (z 3)).length then (ML (WM z (z 3)) (z 3)).getD (j - (88 + 6 * n)) (-6) else 0) else V 113 j := by
      intro x
      obtain ⟨V', g1, g2, g3⟩ := ih m (u2 V 113 (88 + 6 * n + i) x) (by omega) (by omega) (fun j h1 h2 h3 h4 => by rw [u2_n (Or.inr (by omega))]; exact hV j h1 h2 h3 h4)
      rw [show 5 - d = i + 1 by omega] at g1 g3
      refine ⟨V', g1, fun c hc => by rw [g2 c hc, u2_ne hc], fun j => ?_⟩
      rw [g3, u2_at]
      by_cases h1 : j = 88 + 6 * n + i
      · have h2 : ¬(88 + 6 * n + (i + 1) ≤ j ∧ j < 93 + 6 * n) := by omega
        rw [if_neg h2, if_pos h1, h1, pk_us]
      · rw [if_neg h1, pk_un h1]
    rw [f_X9_logs_80, ← hi, if_neg (by rw [L5, nJ_le (by omega) (by omega)]; omega), m_hoistsL hvV (z 3), obs, ML_same hv hV, n1 i]
    by_cases q : (ML (WM z (z 3)) (z 3)).length ≤ i
    · rw [if_pos (by rw [nJ_le (by omega) (by omega)]; exact q), st_e e (by omega) (by omega)]
      obtain ⟨V', g1, g2, g3⟩ := hstep 0
      refine ⟨V', g1, g2, fun j => ?_⟩
      rw [g3]
      by_cases h1 : j = 88 + 6 * n + i
      · have h2 : 88 + 6 * n + i ≤ j ∧ j < 93 + 6 * n := by omega
        rw [if_pos h1, if_pos h2, if_neg (by omega)]
      · rw [if_neg h1]
        by_cases h2 : 88 + 6 * n + (i + 1) ≤ j ∧ j < 93 + 6 * n
        · have h3 : 88 + 6 * n + i ≤ j ∧ j < 93 + 6 * n := by omega
          rw [if_pos h2, if_pos h3]
        · have h3 : ¬(88 + 6 * n + i ≤ j ∧ j < 93 + 6 * n) := by omega
          rw [if_neg h2, if_neg h3]
    · rw [if_neg (by rw [nJ_le (by omega) (by omega)]; exact q), zr3, e3, m_wordAt hvV (z 3) (show i < 1000 by omega), obs, ML_same hv hV, st_e e (by omega) (by omega)]
      obtain ⟨V', g1, g2, g3⟩ := hstep ((ML (WM z (z 3)) (z 3)).getD i (-6))
      refine ⟨V', g1, g2, fun j => ?_⟩
      rw [g3]
      by_cases h1 : j = 88 + 6 * n + i
      · have h2 : 88 + 6 * n + i ≤ j ∧ j < 93 + 6 * n := by omega
        rw [if_pos h1, if_pos h2, if_pos (by omega), show j - (88 + 6 * n) = i by omega]
      · rw [if_neg h1]
        by_cases h2 : 88 + 6 * n + (i + 1) ≤ j ∧ j < 93 + 6 * n
        · have h3 : 88 + 6 * n + i ≤ j ∧ j < 93 + 6 * n := by omega
          rw [if_pos h2, if_pos h3]
        · have h3 : ¬(88 + 6 * n + i ≤ j ∧ j < 93 + 6 * n) := by omega
          rw [if_neg h2, if_neg h3]
theorem m_log15 : ∀ (d m : Nat) (V : Wd), d ≤ 42 → d < m → ∃ V', f_X9_logs_15 m V (nI (129 - d)) = f_X9_logs_43 V' ∧ (∀ c, c ≠ 113 → V' c = V c) ∧ ∀ j, V' 113 j = if 129 - d ≤ j ∧ j < 129 then V 113 (j + 6) else V 113 j := by
  intro d
  induction d with
  | zero =>
    intro m V hd hm
    obtain ⟨m, rfl⟩ : ∃ k, m = k + 1 := ⟨m - 1, by omega⟩
    rw [f_X9_logs_15, if_pos (by decide)]
    exact ⟨V, rfl, fun _ _ => rfl, fun j => by rw [if_neg (by omega)]⟩
  | succ d ih =>
    intro m V hd hm
    obtain ⟨m, rfl⟩ : ∃ k, m = k + 1 := ⟨m - 1, by omega⟩
    obtain ⟨i, hi⟩ : ∃ i, i = 129 - (d + 1) := ⟨_, rfl⟩
    have e : nI i + 6 = nI (i + 6) := by rw [L6, nI_add]
    rw [f_X9_logs_15, ← hi, if_neg (by rw [show (129 : Int32) = nI 129 from rfl, nJ_le (by omega) (by omega)]; omega), rdb e (by omega) (by omega), st_n (by omega) (by omega), n1]
    obtain ⟨V', g1, g2, g3⟩ := ih m (u2 V 113 i (V 113 (i + 6))) (by omega) (by omega)
    rw [show 129 - d = i + 1 by omega] at g1 g3
    refine ⟨V', g1, fun c hc => by rw [g2 c hc, u2_ne hc], fun j => ?_⟩
    rw [g3, u2_at]
    by_cases h1 : i + 1 ≤ j ∧ j < 129
    · have h2 : i ≤ j ∧ j < 129 := by omega
      rw [if_pos h1, if_pos h2, pk_un (by omega)]
    · rw [if_neg h1]
      by_cases h3 : j = i
      · have h2 : i ≤ j ∧ j < 129 := by omega
        rw [if_pos h2, h3, pk_us]
      · have h2 : ¬(i ≤ j ∧ j < 129) := by omega
        rw [if_neg h2, pk_un h3]
theorem m_log54 {z : Nat → Int32} (hv : VR z) {n : Nat} (hn : n < 8) {V : Wd} (hV : SAME z (V 113)) (h6 : V 113 6 = nI n) : ∃ V', f_X9_logs_54 V = some V' ∧ (∀ c, c ≠ 113 → V' c = V c) ∧ V' 113 6 = nI (n + 1) ∧ V' 113 7 = V 113 7 + 1 ∧ V' 113 (87 + 6 * n) = nI (ML (WM z (z 3)) (z 3)).length ∧ (∀ i, i < (ML (WM z (z 3)) (z 3)).length → V' 113 (88 + 6 * n + i) = (ML (WM z (z 3)) (z 3)).getD i (-6)) ∧ ∀ j, j ≠ 6 → j ≠ 7 → j < 87 + 6 * n ∨ 93 + 6 * n ≤ j → V' 113 j = V 113 j := by
  have hFU := FU_v
  have h5 := ML_len5 (WM z (z 3)) (z 3)
  have ea : (87 : Int32) + 6 * nI n = nI (87 + 6 * n) := by simp only [L87, L6, pk_mul, nI_add]
  obtain ⟨V1, a1, a2, a3⟩ := m_log80 hv hn 5 FU_ (u2 V 113 (87 + 6 * n) (nI (ML (WM z (z 3)) (z 3)).length)) (by omega) (by omega) (fun j h1 h2 h3 h4 => by rw [u2_n (Or.inr (by omega))]; exact hV j h1 h2 h3 h4)
  unfold f_X9_logs_54
  rw [zr6, h6, lib_, ea, m_hoistsL (VR_same hv hV) (z 3), obs, ML_same hv hV, st_n (by omega) (by omega), Z55, a1]
  unfold f_X9_logs_124
  have z6 : V1 113 6 = nI n := by rw [a3, if_neg (by omega), u2_n (Or.inr (by omega))]; exact h6
  have z7 : V1 113 7 = V 113 7 := by rw [a3, if_neg (by omega), u2_n (Or.inr (by omega))]
  rw [zr6, z6, n1, zs6, zr7, zs7, u2_n (Or.inr (by omega)), z7]
  have zo : ∀ j, j ≠ 6 → j ≠ 7 → u2 (u2 V1 113 6 (nI (n + 1))) 113 7 (V 113 7 + 1) 113 j = V1 113 j := fun j h1 h2 => by rw [u2_n (Or.inr h2), u2_n (Or.inr h1)]
  refine ⟨_, rfl, fun c hc => by rw [u2_ne hc, u2_ne hc, a2 c hc, u2_ne hc], ?_, ?_, ?_, fun i hi => ?_, fun j h1 h2 h3 => ?_⟩
  · rw [u2_n (Or.inr (by omega)), u2_s]
  · rw [u2_s]
  · rw [zo _ (by omega) (by omega), a3, if_neg (by omega), u2_s]
  · rw [zo _ (by omega) (by omega), a3, if_pos ⟨by omega, by omega⟩, if_pos (by omega), show 88 + 6 * n + i - (88 + 6 * n) = i by omega]
  · rw [zo _ h1 h2, a3, if_neg (by omega), u2_n (Or.inr (by omega))]
theorem Z87 : (87 : Int32) = nI (129 - 42) := rfl
theorem m_logs {V : Wd} (hv : VR (V 113)) {n : Nat} (hn : n ≤ 8) (h6 : V 113 6 = nI n) : ∃ V', f_X9_logs V = some V' ∧ (∀ c, c ≠ 113 → V' c = V c) ∧ V' 113 6 = nI (nl n + 1) ∧ V' 113 7 = V 113 7 + 1 ∧ V' 113 (87 + 6 * nl n) = nI (ML (WM (V 113) (V 113 3)) (V 113 3)).length ∧ (∀ i, i < (ML (WM (V 113) (V 113 3)) (V 113 3)).length → V' 113 (88 + 6 * nl n + i) = (ML (WM (V 113) (V 113 3)) (V 113 3)).getD i (-6)) ∧ (∀ j, j < 87 → j ≠ 6 → j ≠ 7 → V' 113 j = V 113 j) ∧ ∀ m i, m < nl n → i < 6 → V' 113 (87 + 6 * m + i) = if n = 8 then V 113 (87 + 6 * (m + 1) + i) else V 113 (87 + 6 * m + i) := by
  have hFU := FU_v
  unfold f_X9_logs nl
  rw [zr6, h6]
  by_cases q8 : n = 8
  · subst q8
    obtain ⟨V1, a1, a2, a3⟩ := m_log15 42 FU_ V (by omega) (by omega)
    have b6 : V1 113 6 = nI 8 := by rw [a3, if_neg (by omega)]; exact h6
    have bo : ∀ j, j < 87 → j ≠ 6 → u2 V1 113 6 (nI 7) 113 j = V 113 j := fun j h1 h2 => by rw [u2_n (Or.inr h2), a3, if_neg (by omega)]
    obtain ⟨V2, g1, g2, g3, g4, g5, g6, g7⟩ := m_log54 hv (show 7 < 8 by omega) (V := u2 V1 113 6 (nI 7)) (fun j h1 h2 h3 h4 => bo j h1 h3) (by rw [u2_s])
    rw [if_pos (show nI 8 = 8 from rfl), Z87, a1]
    unfold f_X9_logs_43
    rw [zr6, b6, show nI 8 - 1 = nI 7 from ns1 7, zs6]
    refine ⟨V2, g1, fun c hc => by rw [g2 c hc, u2_ne hc, a2 c hc], by rw [g3, if_pos rfl], by rw [g4, bo 7 (by omega) (by omega)], by rw [if_pos rfl]; exact g5, fun i hi => by rw [if_pos rfl]; exact g6 i hi, fun j h1 h2 h3 => by rw [g7 j h2 h3 (by omega), bo j h1 h2], fun m i hm hi => ?_⟩
    rw [if_pos rfl] at hm
    rw [g7 _ (by omega) (by omega) (by omega), u2_n (Or.inr (by omega)), a3, if_pos ⟨by omega, by omega⟩, if_pos rfl, show 87 + 6 * m + i + 6 = 87 + 6 * (m + 1) + i by omega]
  · obtain ⟨V2, g1, g2, g3, g4, g5, g6, g7⟩ := m_log54 hv (show n < 8 by omega) (V := V) (fun j _ _ _ _ => rfl) h6
    rw [if_neg (by rw [L8, nJ_eq (by omega) (by omega)]; exact q8)]
    refine ⟨V2, g1, g2, by rw [g3, if_neg q8], g4, by rw [if_neg q8]; exact g5, fun i hi => by rw [if_neg q8]; exact g6 i hi, fun j h1 h2 h3 => g7 j h2 h3 (by omega), fun m i hm hi => ?_⟩
    rw [if_neg q8] at hm
    rw [g7 _ (by omega) (by omega) (by omega), if_neg q8]
theorem m_empty_l : ∀ (d n : Nat) (V : Wd), d ≤ 5 → d < n → (∀ h, h < 5 - d → V 113 (38 + 5 * h) = 0) → ∃ V', f_X9_makeEmpty_2 n V (nI (5 - d)) = some V' ∧ (∀ c, c ≠ 113 → V' c = V c) ∧ (∀ h, h < 5 → V' 113 (38 + 5 * h) = 0) ∧ ∀ j, (∀ h, h < 5 → j ≠ 38 + 5 * h) → V' 113 j = V 113 j := by
  intro d
  induction d with
  | zero =>
    intro n V hd hn hV
    obtain ⟨n, rfl⟩ : ∃ k, n = k + 1 := ⟨n - 1, by omega⟩
    rw [f_X9_makeEmpty_2, if_pos (by decide)]
    exact ⟨V, rfl, fun _ _ => rfl, hV, fun _ _ => rfl⟩
  | succ d ih =>
    intro n V hd hn hV
    obtain ⟨n, rfl⟩ : ∃ k, n = k + 1 := ⟨n - 1, by omega⟩
    have e : (38 : Int32) + 5 * nI (5 - (d + 1)) = nI (38 + 5 * (5 - (d + 1))) := by simp only [L38, L5, pk_mul, nI_add]
    rw [f_X9_makeEmpty_2, if_neg (by rw [L5, nJ_le (by omega) (by omega)]; omega), st_e e (by omega) (by omega), n1, show 5 - (d + 1) + 1 = 5 - d by omega]
    obtain ⟨V', g1, g2, g3, g4⟩ := ih n (u2 V 113 (38 + 5 * (5 - (d + 1))) 0) (by omega) (by omega) (fun h hh => by
      by_cases q : h = 5 - (d + 1)
      · rw [q, u2_s]
      · rw [u2_n (Or.inr (by omega))]; exact hV h (by omega))
    exact ⟨V', g1, fun c hc => by rw [g2 c hc, u2_ne hc], g3, fun j hj => by rw [g4 j hj, u2_n (Or.inr (hj _ (by omega)))]⟩
theorem m_empty (V : Wd) : ∃ V', f_X9_makeEmpty V = some V' ∧ (∀ c, c ≠ 113 → V' c = V c) ∧ (∀ h, h < 5 → V' 113 (38 + 5 * h) = 0) ∧ ∀ j, (∀ h, h < 5 → j ≠ 38 + 5 * h) → V' 113 j = V 113 j := by
  have hFU := FU_v
  obtain ⟨V', g1, g2⟩ := m_empty_l 5 FU_ V (by omega) (by omega) (fun h hh => absurd hh (by omega))
  unfold f_X9_makeEmpty
  rw [Z55]
  exact ⟨V', g1, g2⟩
theorem Inv_low {V V0 V1 V2 W V3 : Wd} {s nx : Nat} (hI : Inv V) (hx : HX V s nx) (hc : CRec V V0 s nx (V 113)) (h1 : ∀ c, c ≠ 1 → V1 c = V0 c) (g3 : RS V1 1 (upd (V 113) 4 0)) (he : ∀ c, c ≠ 8 → c ≠ 12 → c ≠ 13 → c ≠ 14 → (c < 106 ∨ 111 < c) → V2 c = V1 c) (h6 : V2 106 0 = V1 106 0) (h9 : V2 109 0 = V1 109 0) (h8 : ∀ h, h < 5 → V2 8 h = 0) (hm : MRec V2 W s (V 113)) (hf : ∀ c, c ≠ 113 → V3 c = W c) (z4 : V3 113 4 = 0) (zs : ∀ h, h < 5 → V3 113 (38 + 5 * h) = 0) (zo : ∀ j, j < 87 → j ≠ 4 → j ≠ 6 → j ≠ 7 → (∀ h, h < 5 → j ≠ 38 + 5 * h) → V3 113 j = V 113 j) (hL : LGS V2 12 (V3 113)) (hl : Vl (V3 113)) : Iv V V2 V3 := by
  have hv := hI.2.1
  obtain ⟨i, pF, pH, pB, pL⟩ := g3
  have zu : ∀ j, j < 87 → j ≠ 6 → j ≠ 7 → (∀ h, h < 5 → j ≠ 38 + 5 * h) → V3 113 j = upd (V 113) 4 0 j := fun j h1 h2 h3 h4 => by
    by_cases q : j = 4
    · rw [q, pk_us]; exact z4
    · rw [pk_un q]; exact zo j h1 q h2 h3 h4
  have hS0 : ∀ h, h < 5 → zS (V3 113) h = nI 0 := fun h hh => zs h hh
  refine Iv_rec hI hx hc (V2 := V2) (z' := V3 113) (fun c h2 h3 => by rw [he c (by omega) (by omega) (by omega) (by omega) h3, h1 c (by omega)]) (by rw [h6, h1 106 (by omega)]) (by rw [h9, h1 109 (by omega)]) ⟨?_, FS_z (fun j h1 h2 => zu j (by omega) (by omega) (by omega) (fun h hh => by omega)) (FS_fr (he _ (by omega) (by omega) (by omega) (by omega) (by omega)) (he _ (by omega) (by omega) (by omega) (by omega) (by omega)) (he _ (by omega) (by omega) (by omega) (by omega) (by omega)) pF), fun h hh => ⟨?_, fun p hp hq => ?_⟩, BS_z (zu 5 (by omega) (by omega) (by omega) (fun h hh => by omega)) (fun j h1 h2 => zu j (by omega) (by omega) (by omega) (fun h hh => by omega)) (BS_fr (by rw [he _ (by omega) (by omega) (by omega) (by omega) (by omega)]) (he _ (by omega) (by omega) (by omega) (by omega) (by omega)) (he _ (by omega) (by omega) (by omega) (by omega) (by omega)) pB), hL⟩ hm hf rfl (VZ_mk ?_ z4 (Vb_z (zo 5 (by omega) (by omega) (by omega) (by omega) (fun h hh => by omega)) (fun j h1 h2 => zo j (by omega) (by omega) (by omega) (by omega) (fun h hh => by omega)) hv.b) hl (fun h hh => ⟨0, by omega, hS0 h hh, fun p hp => absurd hp (by omega)⟩) (fun x hx => ?_))
  · rw [zu 0 (by omega) (by omega) (by omega) (fun h hh => by omega), zu 1 (by omega) (by omega) (by omega) (fun h hh => by omega), zu 2 (by omega) (by omega) (by omega) (fun h hh => by omega), zu 3 (by omega) (by omega) (by omega) (fun h hh => by omega), zu 4 (by omega) (by omega) (by omega) (fun h hh => by omega), he 1 (by omega) (by omega) (by omega) (by omega) (by omega)]
    exact i
  · rw [hS0 h hh]; exact (h8 h hh).symm
  · rw [hS0 h hh, nJ_lt (by omega) (by omega)] at hq
    omega
  · rw [zo 3 (by omega) (by omega) (by omega) (by omega) (fun h hh => by omega)]; exact hv.1
  · have e0 : ∀ n, n ≤ 5 → cnA (V3 113) (nI x) n = 0 := by
      intro n
      induction n with
      | zero => intro _; rfl
      | succ n ih =>
        intro hn
        rw [cnA, ih (by omega), hS0 n (by omega), nI_clamp (by omega)]
        rfl
    rw [e0 5 (by omega), zo 0 (by omega) (by omega) (by omega) (by omega) (fun h hh => by omega)]
    have h1 := hv.c 0 (by omega)
    have h2 := cnA_le hv.vr.sz (nI 0) 5 (by omega)
    rw [I_le, nJ_tI (by omega)] at h1 ⊢
    omega
theorem st_lower : S_lower := by
  intro V hI
  have hv := hI.2.1
  have e4 := hI.e.2.2.2.2
  obtain ⟨n, hn, e6, hlw⟩ := hv.l
  have hlg : LGS V 12 (V 113) := hI.1.2.2.2.2
  unfold f_X8_lower f_X8_lower_16
  obtain ⟨s, nx, V0, V1, hx, hc, g1, g2, g3⟩ := c_step hI
  obtain ⟨i0, i1, i2, i3, i4⟩ := g3.1
  have gL : LGS V1 12 (upd (V 113) 4 0) := g3.2.2.2.2
  rw [← e4, g1, obs, obs, if00, if10]
  by_cases q2 : V 113 4 = 2
  · rw [if_pos q2]
    have hsame : SAME (V 113) (upd (V 113) 4 0) := fun j h1 h2 h3 h4 => pk_un h2
    obtain ⟨sd_, hsd, es⟩ : ∃ j, j < 2 ∧ V 113 3 = nI j := by
      rcases hv.1 with h | h
      · exact ⟨0, by omega, h⟩
      · exact ⟨1, by omega, h⟩
    have es' : V1 1 7 = nI sd_ := by rw [← i3, pk_un (by omega)]; exact es
    obtain ⟨h6, h9⟩ := hI.sides
    obtain ⟨r, V', hr, hk, a1, a2, a4⟩ := c_readR g3 (VR_same hv.vr hsame) (by rw [g2 106 (by omega), hc.1 106 (by omega)]; exact h6) (by rw [g2 109 (by omega), hc.1 109 (by omega)]; exact h9) hsd
    rw [ML_same hv.vr hsame, ← es] at a2
    obtain ⟨b1, b2, b3⟩ := a2
    obtain ⟨L, hL⟩ : ∃ L, ML (WM (V 113) (V 113 3)) (V 113 3) = L := ⟨_, rfl⟩
    rw [hL] at b1 b2 b3
    have e12 : V' 12 = V1 12 := a4.1 12 (by omega) (by omega) (by omega)
    have v122 : V' 12 2 = nI n := by rw [e12, ← gL.1, pk_un (by omega)]; exact e6
    obtain ⟨V7, c1, c2, c3, c4, c5, c6⟩ := c_logadd (V := V') (k1 := r + 2) (n := n) (by omega) hn v122 (nI L.length)
    obtain ⟨V2, d1, d2, d3⟩ := c_clear 6 V7
    rw [es', a1, obs]
    dsimp only
    unfold f_X5_size
    rw [if_pos hk, lib_, b1, c1, obs, d1, obs]
    refine mk3 ?_
    have he : ∀ c, c ≠ 8 → c ≠ 12 → c ≠ 13 → c ≠ 14 → (c < 106 ∨ 111 < c) → V2 c = V1 c := fun c h1 h2 h3 h4 h5 => by
      rw [d3 c (by omega), c6 c h2 h3 h4, a4.1 c (by omega) (by omega) (by omega)]
    obtain ⟨W, m1, m2, m3⟩ := m_stepR hx hc (V2 := V2) (fun c hc => by
      by_cases qc : c < 106 ∨ 111 < c
      · rw [he c (by omega) (by omega) (by omega) (by omega) qc, g2 c (by omega)]
      · omega)
    obtain ⟨h, hh, hne⟩ := hv.2.1.2 (by rw [q2]; decide)
    have hpos := (hc_pos hv.vr.sz 5 (by omega)).mpr ⟨h, hh, hne⟩
    have hcl := hc_le (V 113) 5
    have eLh : L.length = hc_ (V 113) 5 := by rw [← hL, ML_len]; exact hc_len hv.vr _ _
    obtain ⟨W1, k1, k2, k3, k4, k5, k6, k7, k8⟩ := m_logs (V := W) (by rw [m3]; exact hv.vr) hn (by rw [m3]; exact e6)
    rw [m3] at k4 k5 k6 k7 k8
    rw [hL] at k5 k6
    obtain ⟨W2, l1, l2, l3, l4⟩ := m_empty W1
    unfold f_X9_lower
    rw [m1, obs, zr4, m3, if_pos q2, m_hoists W, obs, m3, if_neg (by rw [L0, nJ_le (by omega) (by omega)]; omega), k1, obs, l1, obs, zs4, eLh]
    refine ⟨_, rfl, ?_⟩
    obtain ⟨V3, hV3⟩ : ∃ V3, u2 W2 113 4 0 = V3 := ⟨_, rfl⟩
    rw [hV3]
    have z4 : V3 113 4 = 0 := by rw [← hV3, u2_s]
    have zx : ∀ j, j ≠ 4 → (∀ h, h < 5 → j ≠ 38 + 5 * h) → V3 113 j = W1 113 j := fun j h1 h2 => by rw [← hV3, u2_n (Or.inr h1), l4 j h2]
    have zx6 : V3 113 6 = nI (nl n + 1) := by rw [zx 6 (by omega) (fun h hh => by omega)]; exact k3
    have hnl : nl n < 8 := by unfold nl; split <;> omega
    have hnn : ∀ m, m < nl n → (n = 8 → m + 1 < n) ∧ (n ≠ 8 → m < n) := fun m hm => by
      unfold nl at hm
      by_cases q8 : n = 8
      · rw [if_pos q8] at hm; omega
      · rw [if_neg q8] at hm; omega
    have zu : ∀ j, 87 ≤ j → upd (V 113) 4 0 j = V 113 j := fun j hj => pk_un (by omega)
    refine Inv_low hI hx hc g2 g3 he ?_ ?_ (fun h hh => d2 h hh) m2 (fun c hc => by rw [← hV3, u2_ne hc, l2 c hc, k2 c hc]) z4 (fun h hh => by rw [← hV3, u2_n (Or.inr (by omega))]; exact l3 h hh) (fun j h1 h2 h3 h4 h5 => by rw [zx j h2 h5]; exact k7 j h1 h3 h4) ⟨?_, ?_, fun m hm hq => ?_⟩ ⟨nl n + 1, by omega, zx6, fun m hm => ?_⟩
    · rw [d3 106 (by omega), c6 106 (by omega) (by omega) (by omega)]
      rcases hr with rfl | rfl
      · exact a4.2 0 (by omega)
      · rw [a4.1 106 (by omega) (by omega) (by omega)]
    · rw [d3 109 (by omega), c6 109 (by omega) (by omega) (by omega)]
      rcases hr with rfl | rfl
      · rw [a4.1 109 (by omega) (by omega) (by omega)]
      · exact a4.2 0 (by omega)
    · rw [zx6, d3 12 (by omega), c2]
    · rw [zx 7 (by omega) (fun h hh => by omega), k4, d3 12 (by omega), c3, e12, ← gL.2.1, pk_un (by omega)]
    · rw [zx6, nJ_lt (by omega) (by omega)] at hq
      rw [show V2 (12 + 2) = V2 14 from rfl, show V2 (12 + 1) = V2 13 from rfl, d3 14 (by omega), d3 13 (by omega), c4 m hm, zx _ (by omega) (fun h hh => by omega)]
      by_cases qm : m = nl n
      · subst qm
        rw [if_pos rfl, k5]
        refine ⟨rfl, fun i hi hqi => ?_⟩
        rw [nJ_lt (by omega) (by omega)] at hqi
        have h1 := b3 i hqi
        rw [zx _ (by omega) (fun h hh => by omega), k6 i hqi, c5 _ i hm hi, if_pos rfl, List.getD_eq_getElem?_getD, h1]
        rfl
      · rw [if_neg qm]
        have hml : m < nl n := by omega
        obtain ⟨w1, w2⟩ := hnn m hml
        have k80 := k8 m 0 hml (by omega)
        rw [Nat.add_zero, Nat.add_zero] at k80
        rw [k80]
        have e14 : V' 14 = V1 14 := a4.1 14 (by omega) (by omega) (by omega)
        have e13 : V' 13 = V1 13 := a4.1 13 (by omega) (by omega) (by omega)
        by_cases q8 : n = 8
        · have h3 := gL.2.2 (m + 1) (by omega) (by rw [pk_un (by omega), e6, nJ_lt (by omega) (by omega)]; exact w1 q8)
          rw [zu _ (by omega)] at h3
          rw [if_pos q8, if_pos q8, e14]
          refine ⟨h3.1, fun i hi hqi => ?_⟩
          have k8i := k8 m (i + 1) hml (by omega)
          rw [zx _ (by omega) (fun h hh => by omega), show 88 + 6 * m + i = 87 + 6 * m + (i + 1) by omega, k8i, if_pos q8, c5 m i hm hi, if_neg qm, if_pos q8, e13]
          have h4 := h3.2 i hi hqi
          rw [zu _ (by omega)] at h4
          rw [show 87 + 6 * (m + 1) + (i + 1) = 88 + 6 * (m + 1) + i by omega]
          exact h4
        · have h3 := gL.2.2 m (by omega) (by rw [pk_un (by omega), e6, nJ_lt (by omega) (by omega)]; exact w2 q8)
          rw [zu _ (by omega)] at h3
          rw [if_neg q8, if_neg q8, e14]
          refine ⟨h3.1, fun i hi hqi => ?_⟩
          have k8i := k8 m (i + 1) hml (by omega)
          rw [zx _ (by omega) (fun h hh => by omega), show 88 + 6 * m + i = 87 + 6 * m + (i + 1) by omega, k8i, if_neg q8, c5 m i hm hi, if_neg qm, if_neg q8, e13]
          have h4 := h3.2 i hi hqi
          rw [zu _ (by omega)] at h4
          rw [show 87 + 6 * m + (i + 1) = 88 + 6 * m + i by omega]
          exact h4
    · rw [zx _ (by omega) (fun h hh => by omega)]
      by_cases qm : m = nl n
      · subst qm
        exact ⟨L.length, b2, k5⟩
      · have hml : m < nl n := by omega
        obtain ⟨w1, w2⟩ := hnn m hml
        have k80 := k8 m 0 hml (by omega)
        rw [Nat.add_zero, Nat.add_zero] at k80
        rw [k80]
        by_cases q8 : n = 8
        · rw [if_pos q8]; exact hlw (m + 1) (w1 q8)
        · rw [if_neg q8]; exact hlw m (w2 q8)
  · rw [if_neg q2]
    obtain ⟨V2, d1, d2, d3⟩ := c_clear 6 V1
    rw [d1, obs]
    refine mk3 ?_
    obtain ⟨W, m1, m2, m3⟩ := m_stepR hx hc (V2 := V2) (fun c hc => by rw [d3 c (by omega), g2 c (by omega)])
    obtain ⟨W2, l1, l2, l3, l4⟩ := m_empty W
    unfold f_X9_lower
    rw [m1, obs, zr4, m3, if_neg q2, if_pos (by decide), l1, obs, zs4]
    refine ⟨_, rfl, ?_⟩
    obtain ⟨V3, hV3⟩ : ∃ V3, u2 W2 113 4 0 = V3 := ⟨_, rfl⟩
    rw [hV3]
    have z4 : V3 113 4 = 0 := by rw [← hV3, u2_s]
    have zx : ∀ j, j ≠ 4 → (∀ h, h < 5 → j ≠ 38 + 5 * h) → V3 113 j = V 113 j := fun j h1 h2 => by rw [← hV3, u2_n (Or.inr h1), l4 j h2, m3]
    refine Inv_low hI hx hc g2 g3 (fun c h1 h2 h3 h4 h5 => d3 c h1) (by rw [d3 106 (by omega)]) (by rw [d3 109 (by omega)]) (fun h hh => d2 h hh) m2 (fun c hc => by rw [← hV3, u2_ne hc, l2 c hc]) z4 (fun h hh => by rw [← hV3, u2_n (Or.inr (by omega))]; exact l3 h hh) (fun j h1 h2 h3 h4 h5 => zx j h2 h5) ?_ (Vl_z (zx 6 (by omega) (fun h hh => by omega)) (fun j hj => zx j (by omega) (fun h hh => by omega)) hv.l)
    exact LGS_z (z := upd (V 113) 4 0) (by rw [zx 6 (by omega) (fun h hh => by omega), pk_un (by omega)]) (by rw [zx 7 (by omega) (fun h hh => by omega), pk_un (by omega)]) (fun j hj => by rw [zx j (by omega) (fun h hh => by omega), pk_un (by omega)]) (LGS_fr (by rw [d3 12 (by omega)]) (by rw [d3 12 (by omega)]) (d3 _ (by omega)) (d3 _ (by omega)) gL)

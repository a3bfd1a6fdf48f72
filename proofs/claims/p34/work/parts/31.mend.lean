/-! Pure: swaps, mendingExchange. -/
/-- the z row with the hoists of two halyards exchanged -/
def bk (j : Nat) : Nat := (j - 38) / 5
def swz (z : Nat → Int32) (a b : Nat) : Nat → Int32 := fun j =>
  if 38 ≤ j ∧ j < 63 then z (38 + 5 * sw a b (bk j) + (j - 38) % 5) else z j
theorem swz_in (z : Nat → Int32) (a b : Nat) {h i : Nat} (hh : h < 5) (hi : i < 5) : swz z a b (38 + 5 * h + i) = z (38 + 5 * sw a b h + i) := by
  unfold swz bk
  rw [if_pos ⟨by omega, by omega⟩, show (38 + 5 * h + i - 38) / 5 = h by omega, show (38 + 5 * h + i - 38) % 5 = i by omega]
theorem swz_out (z : Nat → Int32) (a b : Nat) {j : Nat} (h : j < 38 ∨ 63 ≤ j) : swz z a b j = z j := by
  unfold swz
  rw [if_neg (by omega)]
theorem sw_sw {a b x : Nat} : sw a b (sw a b x) = x := by
  unfold sw
  split
  · next h => split
              · next h2 => omega
              · rw [if_pos rfl]; exact h.symm
  · next h => split
              · next h2 => rw [if_pos rfl]; exact h2.symm
              · next h2 => rfl
theorem swz_swz (z : Nat → Int32) {a b : Nat} (ha : a < 5) (hb : b < 5) : swz (swz z a b) a b = z := by
  funext j
  by_cases h : 38 ≤ j ∧ j < 63
  · obtain ⟨k, i, hk, hi, rfl⟩ : ∃ k i, k < 5 ∧ i < 5 ∧ j = 38 + 5 * k + i := ⟨(j - 38) / 5, (j - 38) % 5, by omega, by omega, by omega⟩
    rw [swz_in _ _ _ hk hi, swz_in _ _ _ (sw_lt ha hb hk) hi, sw_sw]
  · rw [swz_out _ _ _ (by omega), swz_out _ _ _ (by omega)]
/-- the first n places exchanged -/
def swn (z : Nat → Int32) (a b n : Nat) : Nat → Int32 := fun j =>
  if 38 + 5 * a ≤ j ∧ j < 38 + 5 * a + n then z (38 + 5 * b + (j - (38 + 5 * a))) else if 38 + 5 * b ≤ j ∧ j < 38 + 5 * b + n then z (38 + 5 * a + (j - (38 + 5 * b))) else z j
theorem swn_z (z : Nat → Int32) {a b : Nat} (ha : a < 5) (hb : b < 5) (hab : a ≠ b) : swn z a b 5 = swz z a b := by
  funext j
  by_cases h : 38 ≤ j ∧ j < 63
  · obtain ⟨k, i, hk, hi, rfl⟩ : ∃ k i, k < 5 ∧ i < 5 ∧ j = 38 + 5 * k + i := ⟨(j - 38) / 5, (j - 38) % 5, by omega, by omega, by omega⟩
    rw [swz_in _ _ _ hk hi]
    unfold swn sw
    by_cases h1 : k = a
    · subst h1
      rw [if_pos ⟨by omega, by omega⟩, if_pos rfl]
      congr 1
      omega
    · rw [if_neg (by omega), if_neg h1]
      by_cases h2 : k = b
      · subst h2
        rw [if_pos ⟨by omega, by omega⟩, if_pos rfl]
        congr 1
        omega
      · rw [if_neg (by omega), if_neg h2]
  · rw [swz_out _ _ _ (by omega)]
    unfold swn
    rw [if_neg (by omega), if_neg (by omega)]
theorem m_swaps_l {a b : Nat} (ha : a < 5) (hb : b < 5) (hab : a ≠ b) (z : Nat → Int32) : ∀ (d n : Nat) (V : Wd), d ≤ 5 → d < n → V 113 = swn z a b (5 - d) → ∃ V', f_X9_swaps_2 (nI a) (nI b) n V (nI (5 - d)) = some V' ∧ V' 113 = swz z a b ∧ ∀ c, c ≠ 113 → V' c = V c := by
  intro d
  induction d with
  | zero =>
    intro n V hd hn hV
    obtain ⟨n, rfl⟩ : ∃ k, n = k + 1 := ⟨n - 1, by omega⟩
    refine ⟨V, ?_, ?_, fun _ _ => rfl⟩
    · rw [f_X9_swaps_2, if_pos (by decide)]
    · rw [hV]; exact swn_z z ha hb hab
  | succ d ih =>
    intro n V hd hn hV
    obtain ⟨n, rfl⟩ : ∃ k, n = k + 1 := ⟨n - 1, by omega⟩
    obtain ⟨i, hi⟩ : ∃ i, i = 5 - (d + 1) := ⟨_, rfl⟩
    rw [f_X9_swaps_2, ← hi, if_neg (by rw [L5, nJ_le (by omega) (by omega)]; omega)]
    have ea : (38 : Int32) + 5 * nI a + nI i = nI (38 + 5 * a + i) := by simp only [L38, L5, pk_mul, nI_add]
    have eb : (38 : Int32) + 5 * nI b + nI i = nI (38 + 5 * b + i) := by simp only [L38, L5, pk_mul, nI_add]
    rw [ea, eb, rdb (n := 38 + 5 * a + i) rfl (by omega) (by decide), rdb (n := 38 + 5 * b + i) rfl (by omega) (by decide), st_n (by omega) (by decide), st_n (by omega) (by decide), n1, show i + 1 = 5 - d by omega]
    obtain ⟨V', g1, g2, g3⟩ := ih n (u2 (u2 V 113 (38 + 5 * a + i) (V 113 (38 + 5 * b + i))) 113 (38 + 5 * b + i) (V 113 (38 + 5 * a + i))) (by omega) (by omega) (by
      rw [u2_at, u2_at, hV, ← hi, show 5 - d = i + 1 by omega]
      funext j
      unfold upd swn
      by_cases h1 : j = 38 + 5 * b + i
      · subst h1
        rw [if_pos rfl, if_neg (by omega), if_neg (by omega), if_neg (by omega), if_pos ⟨by omega, by omega⟩]
        congr 1
        omega
      · rw [if_neg h1]
        by_cases h2 : j = 38 + 5 * a + i
        · subst h2
          rw [if_pos rfl, if_neg (by omega), if_neg (by omega), if_pos ⟨by omega, by omega⟩]
          congr 1
          omega
        · rw [if_neg h2]
          by_cases h3 : 38 + 5 * a ≤ j ∧ j < 38 + 5 * a + i
          · rw [if_pos h3, if_pos ⟨h3.1, by omega⟩]
          · have n3 : ¬(38 + 5 * a ≤ j ∧ j < 38 + 5 * a + (i + 1)) := by omega
            rw [if_neg h3, if_neg n3]
            by_cases h4 : 38 + 5 * b ≤ j ∧ j < 38 + 5 * b + i
            · have h5 : 38 + 5 * b ≤ j ∧ j < 38 + 5 * b + (i + 1) := by omega
              rw [if_pos h4, if_pos h5]
            · have h5 : ¬(38 + 5 * b ≤ j ∧ j < 38 + 5 * b + (i + 1)) := by omega
              rw [if_neg h4, if_neg h5])
    exact ⟨V', g1, g2, fun c hc => by rw [g3 c hc, u2_ne hc, u2_ne hc]⟩
theorem m_swaps {a b : Nat} (ha : a < 5) (hb : b < 5) (hab : a ≠ b) (V : Wd) : ∃ V', f_X9_swaps V (nI a) (nI b) = some V' ∧ V' 113 = swz (V 113) a b ∧ ∀ c, c ≠ 113 → V' c = V c := by
  unfold f_X9_swaps
  refine m_swaps_l ha hb hab (V 113) 5 FU_ V (by decide) (by decide) ?_
  funext j
  unfold swn
  rw [if_neg (by omega), if_neg (by omega)]
theorem swz_S (z : Nat → Int32) (a b : Nat) {h : Nat} (hh : h < 5) : zS (swz z a b) h = zS z (sw a b h) := swz_in z a b hh (i := 0) (by decide)
theorem swz_G (z : Nat → Int32) (a b : Nat) {h p : Nat} (hh : h < 5) (hp : p < 4) : zG (swz z a b) h p = zG z (sw a b h) p := by
  have h1 := swz_in z a b hh (i := p + 1) (by omega)
  unfold zG
  rw [show 39 + 5 * h + p = 38 + 5 * h + (p + 1) by omega, show 39 + 5 * sw a b h + p = 38 + 5 * sw a b h + (p + 1) by omega]
  exact h1
theorem VR_swz {z : Nat → Int32} (hv : VR z) {a b : Nat} (ha : a < 5) (hb : b < 5) : VR (swz z a b) := by
  obtain ⟨⟨n, hn, e, hs⟩, hg⟩ := hv
  refine ⟨⟨n, hn, by rw [swz_out _ _ _ (by omega)]; exact e, fun k hk => ?_⟩, fun k hk => ?_⟩
  · rw [swz_out _ _ _ (show 63 + 2 * k < 38 ∨ 63 ≤ 63 + 2 * k by omega), swz_out _ _ _ (show 64 + 2 * k < 38 ∨ 63 ≤ 64 + 2 * k by omega)]
    exact hs k hk
  · obtain ⟨m, hm, e2, hs2⟩ := hg (sw a b k) (sw_lt ha hb hk)
    refine ⟨m, hm, by rw [swz_S z a b hk]; exact e2, fun p hp => ?_⟩
    rw [swz_G z a b hk (by omega)]
    exact hs2 p hp
theorem WM_swz {z : Nat → Int32} (hv : VR z) {a b : Nat} (ha : a < 5) (hb : b < 5) (side : Int32) {h : Nat} (hh : h < 5) : WM (swz z a b) side h = WM z side (sw a b h) := by
  show WR (swz z a b) (fst_ (swz z a b) side) (swz z a b 1) h = WR z (fst_ z side) (z 1) (sw a b h)
  rw [show fst_ (swz z a b) side = fst_ z side by unfold fst_; rw [swz_out _ _ _ (by omega)], swz_out _ _ _ (by omega)]
  exact WR_cong hv (sw_lt ha hb hh) (swz_S z a b hh) (fun p hp => swz_G z a b hh hp) (swz_out _ _ _ (by omega)) (fun f hf => ⟨swz_out _ _ _ (by omega), swz_out _ _ _ (by omega), swz_out _ _ _ (by omega)⟩) (fun e he => ⟨swz_out _ _ _ (by omega), swz_out _ _ _ (by omega)⟩) _ _
/-- whether both sides agree with the hoists of a and b exchanged -/
def PQ (z : Nat → Int32) (a b : Nat) : Int32 := ag (ML (fun h => WM z 0 (sw a b h)) 0) (ML (fun h => WM z 1 (sw a b h)) 1)
def fi_ (P : Nat → Int32) (a : Nat) (rest : Int32) : Nat → Int32
  | 0 => rest
  | d + 1 => if P (5 - (d + 1)) = 0 then fi_ P a rest d else nI (10 * a + (5 - (d + 1)))
def fo_ (P : Nat → Nat → Int32) : Nat → Int32
  | 0 => -6
  | d + 1 => fi_ (P (5 - (d + 1))) (5 - (d + 1)) (fo_ P d) d
theorem m_isSame_sw {z : Nat → Int32} (hv : VR z) {a b : Nat} (ha : a < 5) (hb : b < 5) {V : Wd} (hV : V 113 = swz z a b) : f_X9_isSame V = some (PQ z a b) := by
  rw [m_isSame (by rw [hV]; exact VR_swz hv ha hb), hV]
  unfold PQ
  rw [ML_congr 0 (fun h hh => WM_swz hv ha hb 0 hh), ML_congr 1 (fun h hh => WM_swz hv ha hb 1 hh)]
theorem PQ_B (z : Nat → Int32) (a b : Nat) : isB (PQ z a b) := ag_B _ _
theorem x10 (a b : Nat) : (10 : Int32) * nI a + nI b = nI (10 * a + b) := by simp only [L10, pk_mul, nI_add]
-- the model: others from 4 down to a + 1
theorem m_in_l {z : Nat → Int32} (hv : VR z) {a : Nat} (ha : a < 5) (rest : Int32) (K : Wd → Int32 → Int32 → Option (Int32 × Wd)) : ∀ (k n : Nat) (V : Wd) (x : Int32), a + k < 5 → k < n → V 113 = z → x = fi_ (PQ z a) a rest (4 - (a + k)) → ∃ V', V' 113 = z ∧ (∀ c, c ≠ 113 → V' c = V c) ∧ f_X9_mendingExchange_21 K n V x (nI a) (nI (a + k)) = K V' (fi_ (PQ z a) a rest (4 - a)) (nI a + (-1)) := by
  intro k
  induction k with
  | zero =>
    intro n V x hk hn hV hx
    obtain ⟨n, rfl⟩ : ∃ j, n = j + 1 := ⟨n - 1, by omega⟩
    refine ⟨V, hV, fun _ _ => rfl, ?_⟩
    rw [f_X9_mendingExchange_21, if_pos (by rw [nJ_le (by omega) (by omega)]; omega), hx]
    rfl
  | succ k ih =>
    intro n V x hk hn hV hx
    obtain ⟨n, rfl⟩ : ∃ j, n = j + 1 := ⟨n - 1, by omega⟩
    obtain ⟨V4, g1, g2, g3⟩ := m_swaps (a := a) (b := a + (k + 1)) ha (by omega) (by omega) V
    rw [hV] at g2
    obtain ⟨V6, k1, k2, k3⟩ := m_swaps (a := a) (b := a + (k + 1)) ha (by omega) (by omega) V4
    rw [g2, swz_swz z ha (by omega)] at k2
    rw [f_X9_mendingExchange_21, if_neg (by rw [nJ_le (by omega) (by omega)]; omega), g1, obs, m_isSame_sw hv ha (by omega) g2, obs, k1, obs, x10, lib_, obs, show nI (a + (k + 1)) + (-1) = nI (a + k) from nm (a + k)]
    have e : fi_ (PQ z a) a rest (4 - (a + k)) = if PQ z a (a + (k + 1)) = 0 then fi_ (PQ z a) a rest (4 - (a + (k + 1))) else nI (10 * a + (a + (k + 1))) := by
      rw [show 4 - (a + k) = (4 - (a + (k + 1))) + 1 by omega, fi_, show 5 - (4 - (a + (k + 1)) + 1) = a + (k + 1) by omega]
    rcases PQ_B z a (a + (k + 1)) with e0 | e0
    · rw [e0, if_neg (by decide)]
      obtain ⟨V', w1, w2, w3⟩ := ih n V6 x (by omega) (by omega) k2 (by rw [e, e0, if_pos t00]; exact hx)
      exact ⟨V', w1, fun c hc => by rw [w2 c hc, k3 c hc, g3 c hc], w3⟩
    · rw [e0, if_pos rfl]
      obtain ⟨V', w1, w2, w3⟩ := ih n V6 (nI (10 * a + (a + (k + 1)))) (by omega) (by omega) k2 (by rw [e, e0, if_neg t10])
      exact ⟨V', w1, fun c hc => by rw [w2 c hc, k3 c hc, g3 c hc], w3⟩
theorem m_out_l {z : Nat → Int32} (hv : VR z) : ∀ (a n : Nat) (V : Wd) (x : Int32), a < 5 → a + 2 ≤ n → V 113 = z → x = fo_ (PQ z) (4 - a) → ∃ V', V' 113 = z ∧ (∀ c, c ≠ 113 → V' c = V c) ∧ f_X9_mendingExchange_15 n V x (nI a) = some (fo_ (PQ z) 5, V') := by
  have e : ∀ a, a < 5 → fi_ (PQ z a) a (fo_ (PQ z) (4 - a)) (4 - a) = fo_ (PQ z) (5 - a) := by
    intro a ha
    rw [show 5 - a = (4 - a) + 1 by omega, fo_, show 5 - (4 - a + 1) = a by omega]
  intro a
  induction a with
  | zero =>
    intro n V x ha hn hV hx
    obtain ⟨n, rfl⟩ : ∃ j, n = j + 2 := ⟨n - 2, by omega⟩
    rw [f_X9_mendingExchange_15, if_neg (nI_pos (by omega))]
    obtain ⟨V', w1, w2, w3⟩ := m_in_l hv (a := 0) (by decide) (fo_ (PQ z) (4 - 0)) (fun V1 a1 a2 => f_X9_mendingExchange_15 (n + 1) V1 a1 a2) 4 FU_ V x (by decide) (by decide) hV (by rw [hx]; rfl)
    refine ⟨V', w1, w2, w3.trans ?_⟩
    show f_X9_mendingExchange_15 (n + 1) V' _ (nI 0 + -1) = _
    rw [f_X9_mendingExchange_15, if_pos (by decide), e 0 (by decide)]
  | succ a ih =>
    intro n V x ha hn hV hx
    obtain ⟨n, rfl⟩ : ∃ j, n = j + 1 := ⟨n - 1, by omega⟩
    rw [f_X9_mendingExchange_15, if_neg (nI_pos (by omega))]
    obtain ⟨V', w1, w2, w3⟩ := m_in_l hv (a := a + 1) (by omega) (fo_ (PQ z) (4 - (a + 1))) (fun V1 a1 a2 => f_X9_mendingExchange_15 n V1 a1 a2) (4 - (a + 1)) FU_ V x (by omega) (by unfold FU_; omega) hV (by rw [hx, show 4 - (a + 1 + (4 - (a + 1))) = 0 by omega]; rfl)
    rw [show a + 1 + (4 - (a + 1)) = 4 by omega] at w3
    obtain ⟨V2, y1, y2, y3⟩ := ih n V' (fo_ (PQ z) (5 - (a + 1))) (by omega) (by omega) w1 (by rw [show 5 - (a + 1) = 4 - a by omega])
    refine ⟨V2, y1, fun c hc => by rw [y2 c hc, w2 c hc], w3.trans ?_⟩
    show f_X9_mendingExchange_15 n V' _ (nI (a + 1) + -1) = _
    rw [nm, e (a + 1) ha]
    exact y3
-- the class
def F2 (V V' : Wd) : Prop := (∀ c, c < 106 ∨ 111 < c → V' c = V c) ∧ V' 106 0 = V 106 0 ∧ V' 109 0 = V 109 0 ∧ V' 107 = V 107 ∧ V' 110 = V 110
theorem F2.tr {V V1 V2 : Wd} (h : F2 V V1) (g : F2 V1 V2) : F2 V V2 := ⟨fun c hc => (g.1 c hc).trans (h.1 c hc), g.2.1.trans h.2.1, g.2.2.1.trans h.2.2.1, g.2.2.2.1.trans h.2.2.2.1, g.2.2.2.2.trans h.2.2.2.2⟩
theorem c_pair {z : Nat → Int32} {V : Wd} (h6 : V 106 0 = 0) (h9 : V 109 0 = 1) (w0 : ∀ h, h < 5 → V 107 h = WM z 0 h) (w1 : ∀ h, h < 5 → V 110 h = WM z 1 h) {a b : Nat} (ha : a < 5) (hb : b < 5) : ∃ V1 V2, f_X5_arrange 106 V (nI a) (nI b) = some V1 ∧ f_X5_arrange 109 V1 (nI a) (nI b) = some V2 ∧ f_X5_agreesWith 106 109 V2 = some (PQ z a b) ∧ F2 V V2 := by
  obtain ⟨V1, g1, g2, g3, g4⟩ := c_arrange (r := 106) (V := V) (f := WM z 0) ha hb w0 h6
  have e9 : V1 109 = V 109 := g4.1 109 (by omega) (by omega) (by omega)
  have e110 : V1 110 = V 110 := g4.1 110 (by omega) (by omega) (by omega)
  obtain ⟨V2, k1, k2, k3, k4⟩ := c_arrange (r := 109) (V := V1) (f := WM z 1) ha hb (fun h hh => by rw [show V1 (109 + 1) = V 110 from e110]; exact w1 h hh) (by rw [e9])
  rw [h9] at k2
  have hM : MG V2 106 (ML (fun h => WM z 0 (sw a b h)) 0) := by
    unfold MG at g2 ⊢
    rw [k4.1 106 (by omega) (by omega) (by omega), k4.1 (106 + 2) (by omega) (by omega) (by omega)]
    exact g2
  refine ⟨V1, V2, g1, k1, c_agrees hM k2, fun c hc => ?_, ?_, ?_, ?_, ?_⟩
  · rw [k4.1 c (by omega) (by omega) (by omega), g4.1 c (by omega) (by omega) (by omega)]
  · rw [k4.1 106 (by omega) (by omega) (by omega), g4.2 0 (by decide)]
  · rw [k4.2 0 (by decide), e9]
  · rw [k4.1 107 (by omega) (by omega) (by omega)]; exact g3
  · rw [show V2 110 = V1 110 from k3, e110]
theorem c_in_l {z : Nat → Int32} {a : Nat} (ha : a < 5) (rest : Int32) (K : Wd → Int32 → Option (Int32 × Wd)) {VV : Wd} (hK : ∀ V, F2 VV V → ∃ V', K V (nI (a + 1)) = some (rest, V') ∧ F2 V V') (h6 : VV 106 0 = 0) (h9 : VV 109 0 = 1) (w0 : ∀ h, h < 5 → VV 107 h = WM z 0 h) (w1 : ∀ h, h < 5 → VV 110 h = WM z 1 h) : ∀ (d n : Nat) (V : Wd), d ≤ 5 → d < n → F2 VV V → ∃ V', f_X8_mendingExchange_29 K n V (nI a) (nI (5 - d)) = some (fi_ (PQ z a) a rest d, V') ∧ F2 V V' := by
  intro d
  induction d with
  | zero =>
    intro n V hd hn hF
    obtain ⟨n, rfl⟩ : ∃ j, n = j + 1 := ⟨n - 1, by omega⟩
    rw [f_X8_mendingExchange_29, if_pos (by decide), n1]
    exact hK V hF
  | succ d ih =>
    intro n V hd hn hF
    obtain ⟨n, rfl⟩ : ∃ j, n = j + 1 := ⟨n - 1, by omega⟩
    obtain ⟨V1, V2, g1, g2, g3, g4⟩ := c_pair (z := z) (V := V) (by rw [hF.2.1]; exact h6) (by rw [hF.2.2.1]; exact h9) (fun h hh => by rw [hF.2.2.2.1]; exact w0 h hh) (fun h hh => by rw [hF.2.2.2.2]; exact w1 h hh) ha (show 5 - (d + 1) < 5 by omega)
    rw [f_X8_mendingExchange_29, if_neg (by rw [L5, nJ_le (by omega) (by omega)]; omega), g1, obs, g2, obs, g3, obs, n1, x10, fi_, show 5 - (d + 1) + 1 = 5 - d by omega]
    rcases PQ_B z a (5 - (d + 1)) with e0 | e0
    · rw [e0, if_pos t00, if_pos t00]
      obtain ⟨V', k1, k2⟩ := ih n V2 (by omega) (by omega) (hF.tr g4)
      exact ⟨V', k1, g4.tr k2⟩
    · rw [e0, if_neg t10, if_neg t10]
      exact ⟨V2, rfl, g4⟩
theorem F2.rf (V : Wd) : F2 V V := ⟨fun _ _ => rfl, rfl, rfl, rfl, rfl⟩
theorem c_out_l {z : Nat → Int32} {VV : Wd} (h6 : VV 106 0 = 0) (h9 : VV 109 0 = 1) (w0 : ∀ h, h < 5 → VV 107 h = WM z 0 h) (w1 : ∀ h, h < 5 → VV 110 h = WM z 1 h) : ∀ (d n : Nat) (V : Wd), d ≤ 5 → d < n → F2 VV V → ∃ V', f_X8_mendingExchange_20 n V (nI (5 - d)) = some (fo_ (PQ z) d, V') ∧ F2 V V' := by
  intro d
  induction d with
  | zero =>
    intro n V hd hn hF
    obtain ⟨n, rfl⟩ : ∃ j, n = j + 1 := ⟨n - 1, by omega⟩
    rw [f_X8_mendingExchange_20, if_pos (by decide)]
    exact ⟨V, rfl, F2.rf V⟩
  | succ d ih =>
    intro n V hd hn hF
    obtain ⟨n, rfl⟩ : ∃ j, n = j + 1 := ⟨n - 1, by omega⟩
    rw [f_X8_mendingExchange_20, if_neg (by rw [L5, nJ_le (by omega) (by omega)]; omega), lib_, n1, show 5 - (d + 1) + 1 = 5 - d by omega, fo_]
    exact c_in_l (a := 5 - (d + 1)) (by omega) (fo_ (PQ z) d) _ (fun V2 hF2 => by
      rw [show 5 - (d + 1) + 1 = 5 - d by omega]
      exact ih n V2 (by omega) (by omega) hF2) h6 h9 w0 w1 d FU_ V (by omega) (by unfold FU_; omega) hF
theorem c_mending {V : Wd} (hI : Inv V) : ∃ V', f_X8_mendingExchange V = some (if ag (ML (WM (V 113) 0) 0) (ML (WM (V 113) 1) 1) = 0 then fo_ (PQ (V 113)) 5 else 0, V') ∧ Ir V V' := by
  obtain ⟨V1, V2, g1, g2, g3, g4, w0, w1, hI2, e3⟩ := c_read2 hI
  unfold f_X8_mendingExchange
  rw [g1, obs]
  dsimp only
  rw [if_pos (show kd 106 = 8 from rfl), g2, obs]
  dsimp only
  rw [if_pos (show kd 109 = 8 from rfl), c_agrees g3 g4, obs]
  obtain ⟨h6, h9⟩ := hI2.1.sides
  rcases ag_B (ML (WM (V 113) 0) 0) (ML (WM (V 113) 1) 1) with e | e
  · rw [e, if_pos t00, if_pos t00]
    obtain ⟨V3, k1, k2⟩ := c_out_l (z := V 113) h6 h9 w0 w1 5 FU_ V2 (by decide) (by decide) (F2.rf V2)
    have hI3 : Inv V3 := Inv_fr hI2.1 (fun c hc => k2.1 c (by omega)) (by rw [k2.1 101 (by omega)]) k2.2.1 k2.2.2.1 (by rw [k2.1 112 (by omega)]) (by rw [k2.1 112 (by omega)]) (by rw [k2.1 112 (by omega)])
    exact ⟨V3, k1, hI3, fun c hc => (k2.1 c (by omega)).trans (hI2.2 c hc)⟩
  · rw [e, if_neg t10, if_neg t10]
    exact ⟨V2, rfl, hI2⟩

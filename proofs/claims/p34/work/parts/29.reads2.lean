/-! Pure: logged, total, bestEntry. -/
theorem lib_ {α β : Type} {a : α} {f : α → β} : li_ a f = f a := rfl
theorem in_k {n : Nat} (hn : n < 100000) (x : Int32) : (∃ j, j ≤ n ∧ x = nI j ∧ ¬ x < 0 ∧ x ≤ nI n ∧ f_X9_in x 0 (nI n) = 1) ∨ (f_X9_in x 0 (nI n) = 0 ∧ (x < 0 ∨ (¬ x < 0 ∧ ¬ x ≤ nI n))) := by
  by_cases h1 : x < 0
  · exact Or.inr ⟨in_no (Or.inl h1), Or.inl h1⟩
  · by_cases h2 : x ≤ nI n
    · have e1 := nJ_tI (n := n) (by omega)
      have h1' := h1
      have h2' := h2
      rw [I_lt] at h1'
      rw [I_le] at h2'
      have h3 : (0 : Int32).toInt = 0 := rfl
      obtain ⟨j, hj, e⟩ := vp_in_of (x := x) (n := n + 1) (vp_in_iff.mpr ⟨by omega, by omega⟩) (by omega)
      exact Or.inl ⟨j, by omega, e, h1, h2, in_yes (nlt_le.mp h1) h2⟩
    · exact Or.inr ⟨in_no (Or.inr (nle_lt.mp h2)), Or.inr ⟨h1, h2⟩⟩
theorem st_logged : S_logged := by
  intro V hI a1 a2
  obtain ⟨⟨-, -, -, -, ⟨e6, e7, hL⟩⟩, hv, -⟩ := id hI
  obtain ⟨ln, l8, el, hl⟩ := hv.2.2.2.1
  unfold f_X8_logged f_X9_logged f_X4_size
  have e6' : V 113 6 = V 12 2 := e6
  rw [← e6', zr6, el]
  rcases in_m (n := ln) (by omega) a1 with ⟨m, hm, rfl, h1, h2⟩ | ⟨h1, h2⟩
  · rw [h1, h2, if_neg t10, if_neg t10]
    obtain ⟨g1, g2⟩ := hL m (by omega) (by rw [el, nJ_lt (by omega) (by omega)]; exact hm)
    obtain ⟨l, hl5, elz⟩ := hl m hm
    rcases in_k (n := 5) (by decide) a2 with ⟨j, hj, rfl, k1, k2, k3⟩ | ⟨k3, k1 | ⟨k1, k2⟩⟩
    · rw [show f_X9_in (nI j) 0 5 = 1 from k3, if_neg t10, if_neg k1, if_pos (show nI j ≤ 5 from k2)]
      unfold f_X4_wordsOf li_
      dsimp only
      rw [bl_y (n := 8) (x := 8) rfl (by omega) (by decide), if_neg t10, rdb (n := m) rfl (by omega) (by decide), obs]
      rw [rdb (n := 87 + 6 * m) (by simp only [L87, L6, pk_mul, nI_add]) (by omega) (by decide)]
      rw [rdb (n := 87 + 6 * m + j) (by simp only [L87, L6, pk_mul, nI_add]) (by omega) (by decide), obs]
      rw [show V (12 + 2) m = V 113 (87 + 6 * m) from g1.symm]
      by_cases q : nI j ≤ V 113 (87 + 6 * m)
      · rw [if_pos q, if_pos q]
        rcases Nat.eq_zero_or_pos j with rfl | hp
        · rw [if_pos (show nI 0 = 0 from rfl)]
          exact ⟨_, rfl, rfl⟩
        · obtain ⟨i, rfl⟩ : ∃ i, j = i + 1 := ⟨j - 1, by omega⟩
          rw [if_neg (by rw [L0, nJ_eq (by omega) (by omega)]; omega), ns1]
          unfold f_X4_wordAt
          rw [bl_y (n := 5) (x := 5) rfl (by omega) (by decide), if_neg t10, bl_y (n := 8) (x := 8) rfl (by omega) (by decide), if_neg t10]
          rw [rdb (n := 5 * m + i) (by simp only [L5, pk_mul, nI_add]; congr 1; omega) (by omega) (by decide), obs]
          have g3 := g2 i (by omega) (by rw [elz, nJ_lt (by omega) (by omega)]; rw [elz, nJ_le (by omega) (by omega)] at q; omega)
          refine ⟨_, rfl, congrArg some ?_⟩
          rw [show 87 + 6 * m + (i + 1) = 88 + 6 * m + i by omega]
          exact g3
      · rw [if_neg q, if_neg q]
        exact ⟨_, rfl, rfl⟩
    · rw [show f_X9_in a2 0 5 = 0 from k3, if_pos t00, if_pos k1]
      exact ⟨_, rfl, rfl⟩
    · rw [show f_X9_in a2 0 5 = 0 from k3, if_pos t00, if_neg k1, if_neg (show ¬ a2 ≤ 5 from k2)]
      exact ⟨_, rfl, rfl⟩
  · rw [h1, h2, if_pos t00, if_pos t00]
    exact ⟨_, rfl, rfl⟩
theorem st_total : S_total := by
  intro V hI a1
  obtain ⟨⟨⟨e0, e1, e2, e3, e4⟩, -, hH, hB, ⟨e6, e7, -⟩⟩, hv, -⟩ := id hI
  have e5 := hB.1
  unfold f_X8_total f_X9_total f_X0_size f_X4_size f_X4_countAll
  by_cases q0 : a1 = 0
  · rw [if_pos q0, if_pos q0, zr1]; exact ⟨_, rfl, congrArg some e1⟩
  rw [if_neg q0, if_neg q0]
  by_cases q1 : a1 = 1
  · rw [if_pos q1, if_pos q1, zr2]; exact ⟨_, rfl, congrArg some e2⟩
  rw [if_neg q1, if_neg q1]
  by_cases q2 : a1 = 2
  · rw [if_pos q2, if_pos q2, zr0]; exact ⟨_, rfl, congrArg some e0⟩
  rw [if_neg q2, if_neg q2]
  by_cases q3 : a1 = 3
  · rw [if_pos q3, if_pos q3, c_all (K := 6) hH, m_all]; simp only [obs]; exact ⟨_, rfl, rfl⟩
  rw [if_neg q3, if_neg q3]
  by_cases q4 : a1 = 4
  · rw [if_pos q4, if_pos q4, c_hoists (K := 6) hH, m_hoists]; simp only [obs]; exact ⟨_, rfl, rfl⟩
  rw [if_neg q4, if_neg q4]
  by_cases q5 : a1 = 5
  · rw [if_pos q5, if_pos q5, zr5]; exact ⟨_, rfl, congrArg some e5⟩
  rw [if_neg q5, if_neg q5]
  by_cases q6 : a1 = 6
  · rw [if_pos q6, if_pos q6, zr3]; exact ⟨_, rfl, congrArg some e3⟩
  rw [if_neg q6, if_neg q6]
  by_cases q7 : a1 = 7
  · rw [if_pos q7, if_pos q7, zr4]; exact ⟨_, rfl, congrArg some e4⟩
  rw [if_neg q7, if_neg q7]
  by_cases q8 : a1 = 8
  · rw [if_pos q8, if_pos q8, zr6]; exact ⟨_, rfl, congrArg some e6⟩
  rw [if_neg q8, if_neg q8]
  by_cases q9 : a1 = 9
  · rw [if_pos q9, if_pos q9, zr7]; exact ⟨_, rfl, congrArg some e7⟩
  rw [if_neg q9, if_neg q9]
  exact ⟨_, rfl, rfl⟩
/-- a number of l digits behind a leading 1 -/
def LD (n l : Nat) : Prop := 10 ^ l ≤ n ∧ n < 2 * 10 ^ l
theorem LD_s {n l : Nat} (h : LD n (l + 1)) : LD (n / 10) l ∧ 10 ≤ n := by
  obtain ⟨h1, h2⟩ := h
  rw [Nat.pow_succ] at h1 h2
  have h3 : 1 ≤ 10 ^ l := Nat.one_le_pow _ _ (by decide)
  exact ⟨⟨by omega, by omega⟩, by omega⟩
theorem LD_0 {n : Nat} (h : LD n 0) : n = 1 := by
  obtain ⟨h1, h2⟩ := h
  rw [Nat.pow_zero] at h1 h2
  omega
theorem LD_lt {n l : Nat} (hl : l ≤ 4) (h : LD n l) : n < 20000 := by
  obtain ⟨h1, h2⟩ := h
  have : 10 ^ l ≤ 10 ^ 4 := Nat.pow_le_pow_right (by decide) hl
  omega
theorem CD_LD {c : Int32} (h : CD c) : ∃ n l, c = nI n ∧ 1 ≤ l ∧ l ≤ 4 ∧ LD n l := by
  obtain ⟨n, e, h1 | h1 | h1 | h1⟩ := h
  · exact ⟨n, 1, e, by decide, by decide, by unfold LD; omega⟩
  · exact ⟨n, 2, e, by decide, by decide, by unfold LD; omega⟩
  · exact ⟨n, 3, e, by decide, by decide, by unfold LD; omega⟩
  · exact ⟨n, 4, e, by decide, by decide, by unfold LD; omega⟩
theorem m_lengthOf {n l : Nat} (h1 : 1 ≤ l) (h4 : l ≤ 4) (h : LD n l) : f_X9_lengthOf (nI n) = nI l := by
  have hn := LD_lt h4 h
  unfold f_X9_lengthOf
  obtain ⟨g1, g2⟩ := h
  rw [show (100 : Int32) = nI 100 from rfl, show (1000 : Int32) = nI 1000 from rfl, show (10000 : Int32) = nI 10000 from rfl]
  rcases (show l = 1 ∨ l = 2 ∨ l = 3 ∨ l = 4 by omega) with rfl | rfl | rfl | rfl
  · rw [if_neg (by rw [nJ_le (by omega) (by omega)]; omega)]; rfl
  · rw [if_pos (by rw [nJ_le (by omega) (by omega)]; omega), if_neg (by rw [nJ_le (by omega) (by omega)]; omega)]; rfl
  · rw [if_pos (by rw [nJ_le (by omega) (by omega)]; omega), if_pos (by rw [nJ_le (by omega) (by omega)]; omega), if_neg (by rw [nJ_le (by omega) (by omega)]; omega)]; rfl
  · rw [if_pos (by rw [nJ_le (by omega) (by omega)]; omega), if_pos (by rw [nJ_le (by omega) (by omega)]; omega), if_pos (by rw [nJ_le (by omega) (by omega)]; omega)]; rfl
theorem dv10 {n : Nat} (h : n < 100000) : nI n / 10 = nI (n / 10) := pk_div (d := 10) (by omega) (by decide) (by decide)
theorem rm10 {n : Nat} (h : n < 100000) : nI n - nI n / 10 * 10 = nI (n % 10) := pk_rem (d := 10) (by omega) (by decide) (by decide)
theorem c_len_l (x0 : Int32) : ∀ (l k m n : Nat), k + l ≤ 4 → l < m → LD n l → f_X8_lengthOf_4 x0 m (nI k) (nI n) = some (nI (k + l)) := by
  intro l
  induction l with
  | zero =>
    intro k m n hk hm hn
    obtain ⟨m, rfl⟩ : ∃ j, m = j + 1 := ⟨m - 1, by omega⟩
    obtain rfl := LD_0 hn
    rw [f_X8_lengthOf_4, if_pos (show nI 1 < 10 by decide)]
    split <;> rfl
  | succ l ih =>
    intro k m n hk hm hn
    obtain ⟨m, rfl⟩ : ∃ j, m = j + 1 := ⟨m - 1, by omega⟩
    have hlt := LD_lt (by omega) hn
    obtain ⟨h1, h2⟩ := LD_s hn
    rw [f_X8_lengthOf_4, if_neg (by rw [L4, nJ_le (by omega) (by omega)]; omega), if_neg (by rw [L10, nJ_lt (by omega) (by omega)]; omega)]
    rw [lib_, dv10 (by omega), n1, ih (k + 1) m (n / 10) (by omega) (by omega) h1]
    congr 2
    omega
theorem c_lengthOf {n l : Nat} (h4 : l ≤ 4) (h : LD n l) : f_X8_lengthOf (nI n) = some (nI l) := by
  have h1 := c_len_l (nI n) l 0 FU_ n (by omega) (by unfold FU_; omega) h
  rw [Nat.zero_add] at h1
  exact h1
/-- whether all flags of a number are taken for themselves -/
def kz (t : Nat → Int32) : Nat → Nat → Int32
  | 0, _ => 1
  | l + 1, n => if t (n % 10) = nI (n % 10) then kz t l (n / 10) else 0
theorem kz_B (t : Nat → Int32) : ∀ l n, isB (kz t l n)
  | 0, _ => Or.inr rfl
  | l + 1, n => by
    rw [kz]
    split
    · exact kz_B t l _
    · exact Or.inl rfl
theorem c_kn_l {V : Wd} (x1 first : Int32) : ∀ (l k m n : Nat), k + l ≤ 4 → l < m → LD n l → f_X8_isKnownAsItself_17 V x1 m first (nI n) (nI k) = some (kz (tk (V 3) (V 4) (V 5) first (V 1 5)) l n) := by
  intro l
  induction l with
  | zero =>
    intro k m n hk hm hn
    obtain ⟨m, rfl⟩ : ∃ j, m = j + 1 := ⟨m - 1, by omega⟩
    obtain rfl := LD_0 hn
    rw [f_X8_isKnownAsItself_17, if_pos (show nI 1 < 10 by decide)]
    split <;> rfl
  | succ l ih =>
    intro k m n hk hm hn
    obtain ⟨m, rfl⟩ : ∃ j, m = j + 1 := ⟨m - 1, by omega⟩
    have hlt := LD_lt (by omega) hn
    obtain ⟨h1, h2⟩ := LD_s hn
    rw [f_X8_isKnownAsItself_17, if_neg (by rw [L4, nJ_le (by omega) (by omega)]; omega), if_neg (by rw [L10, nJ_lt (by omega) (by omega)]; omega)]
    rw [lib_, lib_, rm10 (by omega), dv10 (by omega), n1, c_takenFor 2 V (Nat.mod_lt _ (by decide)), obs, kz]
    show (if tk (V 3) (V 4) (V 5) first (V 1 5) (n % 10) = nI (n % 10) then _ else _) = _
    by_cases q : tk (V 3) (V 4) (V 5) first (V 1 5) (n % 10) = nI (n % 10)
    · rw [if_pos q, if_pos q]
      exact ih (k + 1) m (n / 10) (by omega) (by omega) h1
    · rw [if_neg q, if_neg q]
theorem m_kn_l {V : Wd} {e : Nat} (he : e < 12) {N L : Nat} (hL1 : 1 ≤ L) (hL4 : L ≤ 4) (hN : LD N L) (hc : zC (V 113) e = nI N) : ∀ (l k m n : Nat) (x : Int32), k + l = L → l < m → LD n l → isB x → f_X9_isKnownAs_11 V (nI e) m x (nI n) (nI k) = some (if x = 0 then 0 else kz (tk (zH (V 113)) (zF (V 113)) (zW (V 113)) (fst_ (V 113) 0) (V 113 1)) l n) := by
  intro l
  induction l with
  | zero =>
    intro k m n x hk hm hn hx
    obtain ⟨m, rfl⟩ : ∃ j, m = j + 1 := ⟨m - 1, by omega⟩
    rw [f_X9_isKnownAs_11, m_codeOf V he, obs, hc, m_lengthOf hL1 hL4 hN, if_pos (by rw [nJ_le (by omega) (by omega)]; omega), if_pos hx]
    rcases hx with rfl | rfl
    · rfl
    · rfl
  | succ l ih =>
    intro k m n x hk hm hn hx
    obtain ⟨m, rfl⟩ : ∃ j, m = j + 1 := ⟨m - 1, by omega⟩
    have hlt := LD_lt (by omega) hn
    obtain ⟨h1, h2⟩ := LD_s hn
    rw [f_X9_isKnownAs_11, m_codeOf V he, obs, hc, m_lengthOf hL1 hL4 hN, if_neg (by rw [nJ_le (by omega) (by omega)]; omega)]
    unfold li_
    rw [rm10 (by omega), dv10 (by omega), n1]
    have i0 := ih (k + 1) m (n / 10) 0 (by omega) (by omega) h1 (Or.inl rfl)
    have i1 := ih (k + 1) m (n / 10) 1 (by omega) (by omega) h1 (Or.inr rfl)
    rw [if_pos t00] at i0
    rw [if_neg t10] at i1
    rcases hx with rfl | rfl
    · rw [if_pos t00, if_pos t00]
      exact i0
    · rw [if_neg t10, if_neg t10, m_taken V (by omega), obs, kz]
      show (if tk (zH (V 113)) (zF (V 113)) (zW (V 113)) (fst_ (V 113) 0) (V 113 1) (n % 10) = nI (n % 10) then _ else _) = _
      by_cases q : tk (zH (V 113)) (zF (V 113)) (zW (V 113)) (fst_ (V 113) 0) (V 113 1) (n % 10) = nI (n % 10)
      · rw [if_pos q, if_pos q]
        exact i1
      · rw [if_neg q, if_neg q]
        exact i0
theorem kz_congr {t t' : Nat → Int32} (h : ∀ f, f < 10 → t f = t' f) : ∀ l n, kz t l n = kz t' l n
  | 0, _ => rfl
  | l + 1, n => by rw [kz, kz, h _ (Nat.mod_lt _ (by decide)), kz_congr h l]
/-- the model's best so far and the class's: entry and length -/
def BB (z : Nat → Int32) (E : Nat) (b f : Int32) : Prop := (b = -6 ∧ f = 5) ∨ ∃ e n l, e < E ∧ b = nI e ∧ zC z e = nI n ∧ LD n l ∧ 1 ≤ l ∧ l ≤ 4 ∧ f = nI l
theorem best_l {V : Wd} (hF : FS V 2 (V 113)) (hB : BS V 9 (V 113)) (hv : VR (V 113)) (e1 : V 113 1 = V 1 5) (e2 : V 113 2 = V 1 6) (x : Int32) : ∀ (d n : Nat) (b f : Int32), d ≤ en (V 113) → d < n → BB (V 113) (en (V 113) - d) b f → ∃ r, f_X8_bestEntry_20 V x n b f (nI (en (V 113) - d)) = some r ∧ f_X9_bestEntry_18 V x n b (nI (en (V 113) - d)) = some r := by
  obtain ⟨e5, h12, hs⟩ := hv.en
  intro d
  induction d with
  | zero =>
    intro n b f hd hn hb
    obtain ⟨n, rfl⟩ : ∃ k, n = k + 1 := ⟨n - 1, by omega⟩
    refine ⟨b, ?_, ?_⟩
    · rw [f_X8_bestEntry_20, f_X0_size, ← hB.1, e5, if_pos (by rw [nJ_le (by omega) (by omega)]; omega)]
    · rw [f_X9_bestEntry_18, zr5, e5, if_pos (by rw [nJ_le (by omega) (by omega)]; omega)]
  | succ d ih =>
    intro n b f hd hn hb
    obtain ⟨n, rfl⟩ : ∃ k, n = k + 1 := ⟨n - 1, by omega⟩
    obtain ⟨e, he⟩ : ∃ e, e = en (V 113) - (d + 1) := ⟨_, rfl⟩
    have he2 : e < en (V 113) := by omega
    obtain ⟨hcd, -⟩ := hs e he2
    obtain ⟨N, l, hN, hl1, hl4, hLD⟩ := CD_LD hcd
    obtain ⟨b1, b2⟩ := hB.2 e (by omega) (by rw [e5, nJ_lt (by omega) (by omega)]; exact he2)
    have b1' : zC (V 113) e = V 10 e := b1
    have b2' : zO (V 113) e = V 11 e := b2
    have next : ∀ b f, BB (V 113) (e + 1) b f → ∃ r, f_X8_bestEntry_20 V x n b f (nI (e + 1)) = some r ∧ f_X9_bestEntry_18 V x n b (nI (e + 1)) = some r := by
      intro b f hbb
      have h := ih n b f (by omega) (by omega) (by rw [show en (V 113) - d = e + 1 by omega]; exact hbb)
      rw [show en (V 113) - d = e + 1 by omega] at h
      exact h
    have keep : BB (V 113) (e + 1) b f := by
      rw [← he] at hb
      rcases hb with h | ⟨e', n', l', h1, h2⟩
      · exact Or.inl h
      · exact Or.inr ⟨e', n', l', by omega, h2⟩
    have new : BB (V 113) (e + 1) (nI e) (nI l) := Or.inr ⟨e, N, l, by omega, rfl, hN, hLD, hl1, hl4, rfl⟩
    have hkc : f_X8_isKnownAsItself V (nI N) = some (kz (tk (zH (V 113)) (zF (V 113)) (zW (V 113)) (fst_ (V 113) 0) (V 113 1)) l N) := by
      unfold f_X8_isKnownAsItself li_ f_X8_isHoistFirst
      rw [← e2]
      refine (c_kn_l (nI N) _ l 0 FU_ N (by omega) (by unfold FU_; omega) hLD).trans (congrArg some (kz_congr (fun f hf => ?_) l N))
      rw [e1]
      exact (tk_congr hf (fun f hf => hF f hf)).symm
    have hkm : f_X9_isKnownAs V (nI e) = some (kz (tk (zH (V 113)) (zF (V 113)) (zW (V 113)) (fst_ (V 113) 0) (V 113 1)) l N) := by
      unfold f_X9_isKnownAs
      rw [m_codeOf V (by omega), obs, hN]
      refine (m_kn_l (by omega) hl1 hl4 hLD hN l 0 FU_ N 1 (by omega) (by unfold FU_; omega) hLD (Or.inr rfl)).trans ?_
      rw [if_neg t10]
    obtain ⟨kv, hkv⟩ : ∃ kv, kv = kz (tk (zH (V 113)) (zF (V 113)) (zW (V 113)) (fst_ (V 113) 0) (V 113 1)) l N := ⟨_, rfl⟩
    have hkB : isB kv := by rw [hkv]; exact kz_B _ _ _
    rw [← hkv] at hkc hkm
    rw [← he, f_X8_bestEntry_20, f_X9_bestEntry_18, f_X0_size, ← hB.1, zr5, e5, if_neg (by rw [nJ_le (by omega) (by omega)]; omega), if_neg (by rw [nJ_le (by omega) (by omega)]; omega), m_wordOf V (by omega), obs]
    unfold f_X0_flagsAt f_X0_wordAt
    rw [bl_y (n := 12) (x := 12) rfl (by omega) (by decide), if_neg t10, if_neg t10, rdb (n := e) rfl (by omega) (by decide), obs, rdb (n := e) rfl (by omega) (by decide), n1]
    rw [show V (9 + 1) e = nI N from b1'.symm.trans hN, c_lengthOf hl4 hLD, obs, obs, hkc, show V (9 + 2) e = zO (V 113) e from b2'.symm, hkm]
    by_cases q : zO (V 113) e = x
    · rw [if_pos q, if_pos q, obs, obs]
      unfold f_X9_bestEntry_49 f_X9_bestEntry_50
      rw [if_pos t00, if_neg t10, n1]
      rw [← he] at hb
      rcases hb with ⟨hb1, hf1⟩ | ⟨e', n', l', h1, h2, h3, h4, h5, h6, h7⟩
      · rw [if_neg (by rw [hf1, L5, nJ_le (by omega) (by omega)]; omega), if_pos hb1]
        rcases hkB with e0 | e0
        · rw [e0, if_pos t00, if_pos t00]
          exact next b f keep
        · rw [e0, if_neg t10, if_neg t10]
          exact next _ _ new
      · rw [if_neg (show ¬ b = -6 by rw [h2]; exact nI_ne6 (by omega)), h2, m_codeOf V (by omega), m_codeOf V (by omega), obs, obs, h3, hN, m_lengthOf h5 h6 h4, m_lengthOf hl1 hl4 hLD, ← h2, ← h7]
        by_cases q2 : f ≤ nI l
        · rw [if_pos q2, if_pos q2]
          have := next b f keep
          split
          · exact this
          · exact this
        · rw [if_neg q2, if_neg q2]
          rcases hkB with e0 | e0
          · rw [e0, if_pos t00, if_pos t00]
            exact next b f keep
          · rw [e0, if_neg t10, if_neg t10]
            exact next _ _ new
    · rw [if_neg q, if_neg q]
      unfold f_X9_bestEntry_49 f_X9_bestEntry_50
      rw [if_pos t00, n1]
      exact next b f keep
theorem st_bestEntry : S_bestEntry := by
  intro V hI a1
  obtain ⟨⟨⟨e0, e1, e2, e3, e4⟩, hF, hH, hB, -⟩, hv, -⟩ := id hI
  unfold f_X8_bestEntry f_X9_bestEntry
  rcases in_n (n := 100) (by decide) a1 (by decide) with ⟨s, hs, rfl, h1, h2⟩ | ⟨h1, h2, -⟩
  · rw [show f_X8_isBelow (nI s) 100 = 1 from h1, show f_X9_in (nI s) 0 99 = 1 from h2, if_neg t10, if_neg t10]
    have h := best_l hF hB hv.vr e1 e2 (nI s) (en (V 113)) FU_ (-6) 5 (Nat.le_refl _) (by have := hv.vr.en.2.1; unfold FU_; omega) (Or.inl ⟨rfl, rfl⟩)
    rw [Nat.sub_self] at h
    exact h
  · rw [show f_X8_isBelow a1 100 = 0 from h1, show f_X9_in a1 0 99 = 0 from h2, if_pos t00, if_pos t00]
    exact ⟨_, rfl, rfl⟩

/-! Pure: the law's count of a sign's pieces, its exchange of two hoists. -/
theorem l_used_l (V : Wd) (x : Int32) : ∀ (d n : Nat), d ≤ 20 → d < n → f_L_used_4 V x n (nI (cw (fun k => V 119 k = x) (20 - d))) (nI (20 - d)) = some (nI (cw (fun k => V 119 k = x) 20)) := by
  intro d
  induction d with
  | zero =>
    intro n hd hn
    obtain ⟨n, rfl⟩ : ∃ k, n = k + 1 := ⟨n - 1, by omega⟩
    rw [f_L_used_4, if_pos (by decide)]
  | succ d ih =>
    intro n hd hn
    obtain ⟨n, rfl⟩ : ∃ k, n = k + 1 := ⟨n - 1, by omega⟩
    obtain ⟨i, hi⟩ : ∃ i, i = 20 - (d + 1) := ⟨_, rfl⟩
    have h3 := ih n (by omega) (by omega)
    rw [show 20 - d = i + 1 by omega, cw] at h3
    rw [f_L_used_4, ← hi, if_neg (by rw [L20, nJ_le (by omega) (by omega)]; omega), rdb (n := i) rfl (by omega) (by omega), n1 i]
    by_cases q : V 119 i = x
    · rw [if_pos q] at h3 ⊢
      rw [lib_, n1]
      exact h3
    · rw [if_neg q] at h3 ⊢
      rw [lib_, add0]
      exact h3
theorem cw_4 (Q : Nat → Prop) [DecidablePred Q] {n : Nat} (hn : n ≤ 4) : cw Q n = (if 0 < n ∧ Q 0 then 1 else 0) + (if 1 < n ∧ Q 1 then 1 else 0) + (if 2 < n ∧ Q 2 then 1 else 0) + (if 3 < n ∧ Q 3 then 1 else 0) := by
  rcases (show n = 0 ∨ n = 1 ∨ n = 2 ∨ n = 3 ∨ n = 4 by omega) with rfl | rfl | rfl | rfl | rfl <;> simp [cw] <;> (repeat' split) <;> omega
theorem cw_cnA {V : Wd} {z : Nat → Int32} (hR : RR V z) {x : Nat} (hx : x ≤ 13) : ∀ h, h ≤ 5 → cw (fun k => V 119 k = nI x) (4 * h) = cnA z (nI x) h
  | 0, _ => rfl
  | h + 1, hh => by
    have h4 := (hR.1.sn (h := h) (by omega)).2.1
    have hp : ∀ p, p < 4 → (V 119 (4 * h + p) = nI x ↔ p < sn z h ∧ zG z h p = nI x) := fun p hp => by
      rw [hR.2.2.2.1 h p (by omega) hp]
      by_cases q : p < sn z h
      · rw [if_pos q]
        exact ⟨fun e => ⟨q, e⟩, fun e => e.2⟩
      · rw [if_neg q]
        exact ⟨fun e => absurd e.symm (nI_nm1 (by omega)), fun e => absurd e.1 q⟩
    have h0 := hp 0 (by omega)
    rw [Nat.add_zero] at h0
    rw [show 4 * (h + 1) = 4 * h + 1 + 1 + 1 + 1 by omega, cw_s, cw_s, cw_s, cw_s, cw_cnA hR hx h (by omega), cnA, show (zS z h).toNatClampNeg = sn z h from rfl, cnH, cw_4 _ h4]
    simp only [h0, hp 1 (by omega), show 4 * h + 1 + 1 = 4 * h + 2 by omega, hp 2 (by omega), show 4 * h + 2 + 1 = 4 * h + 3 by omega, hp 3 (by omega)]
    omega
theorem l_used {V : Wd} {z : Nat → Int32} (hR : RR V z) {x : Nat} (hx : x ≤ 13) : f_L_used V (nI x) = some (nI (cnA z (nI x) 5)) := by
  have hF := FU_v
  have h1 := l_used_l V (nI x) 20 FU_ (by omega) (by omega)
  rw [← cw_cnA hR hx 5 (by omega)]
  exact h1
theorem l_sw_l {a b : Nat} (ha : a < 5) (hb : b < 5) (hab : a ≠ b) (f : Nat → Int32) : ∀ (d n : Nat) (V : Wd), d ≤ 4 → d < n → V 119 = sq f a b (4 - d) → ∃ V', f_L_swap_2 (nI a) (nI b) n V (nI (4 - d)) = some V' ∧ V' 119 = sq f a b 4 ∧ ∀ c, c ≠ 119 → V' c = V c := by
  intro d
  induction d with
  | zero =>
    intro n V hd hn hV
    obtain ⟨n, rfl⟩ : ∃ k, n = k + 1 := ⟨n - 1, by omega⟩
    rw [f_L_swap_2, if_pos (by decide)]
    exact ⟨V, rfl, hV, fun _ _ => rfl⟩
  | succ d ih =>
    intro n V hd hn hV
    obtain ⟨n, rfl⟩ : ∃ k, n = k + 1 := ⟨n - 1, by omega⟩
    obtain ⟨i, hi⟩ : ∃ i, i = 4 - (d + 1) := ⟨_, rfl⟩
    rw [f_L_swap_2, ← hi, if_neg (by rw [L4, nJ_le (by omega) (by omega)]; omega)]
    rw [i4, i4, rdb (n := 4 * a + i) rfl (by omega) (by omega), rdb (n := 4 * b + i) rfl (by omega) (by omega), st_n (by omega) (by omega), st_n (by omega) (by omega), n1, show i + 1 = 4 - d by omega]
    obtain ⟨V', g1, g2, g4⟩ := ih n (u2 (u2 V 119 (4 * a + i) (V 119 (4 * b + i))) 119 (4 * b + i) (V 119 (4 * a + i))) (by omega) (by omega) (by
      rw [u2_at, u2_at, hV, ← hi, show 4 - d = i + 1 by omega]
      funext j
      unfold upd sq
      by_cases h1 : j = 4 * b + i
      · subst h1
        rw [if_pos rfl, if_neg (by omega), if_neg (by omega), if_neg (by omega), if_pos ⟨by omega, by omega⟩]
        congr 1
        omega
      · rw [if_neg h1]
        by_cases h2 : j = 4 * a + i
        · subst h2
          rw [if_pos rfl, if_neg (by omega), if_neg (by omega), if_pos ⟨by omega, by omega⟩]
          congr 1
          omega
        · rw [if_neg h2]
          by_cases h3 : 4 * a ≤ j ∧ j < 4 * a + i
          · rw [if_pos h3, if_pos ⟨h3.1, by omega⟩]
          · have n3 : ¬(4 * a ≤ j ∧ j < 4 * a + (i + 1)) := by omega
            rw [if_neg h3, if_neg n3]
            by_cases h4 : 4 * b ≤ j ∧ j < 4 * b + i
            · have h5 : 4 * b ≤ j ∧ j < 4 * b + (i + 1) := by omega
              rw [if_pos h4, if_pos h5]
            · have h5 : ¬(4 * b ≤ j ∧ j < 4 * b + (i + 1)) := by omega
              rw [if_neg h4, if_neg h5])
    exact ⟨V', g1, g2, fun c h1 => by rw [g4 c h1, u2_ne h1, u2_ne h1]⟩
theorem RM_sw {V V' : Wd} {z : Nat → Int32} {a b : Nat} (ha : a < 5) (hb : b < 5) (hM : RM V z) (h : V' 119 = sq (V 119) a b 4) : RM V' (swz z a b) := by
  intro k p hk hp
  have e : sn (swz z a b) k = sn z (sw a b k) := by unfold sn; rw [swz_S z a b hk]
  rw [h, sq_at _ ha hb hk hp, hM _ p (sw_lt ha hb hk) hp, e, swz_G z a b hk hp]
theorem VCo_z {z z' : Nat → Int32} (h : ∀ j, j < 38 → z' j = z j) (hc : VCo z) : VCo z' := by
  refine ⟨fun f hf => ?_, by rw [h 2 (by omega)]; exact hc.2⟩
  obtain ⟨a, b, w, h1, h2, h3, e1, e2, e3⟩ := hc.1 f hf
  exact ⟨a, b, w, h1, h2, h3, (h _ (by omega)).trans e1, (h _ (by omega)).trans e2, (h _ (by omega)).trans e3⟩
theorem RR_sw {V V' : Wd} {z : Nat → Int32} {a b : Nat} (ha : a < 5) (hb : b < 5) (hR : RR V z) (h : V' 119 = sq (V 119) a b 4) (hf : ∀ c, c ≠ 119 → V' c = V c) : RR V' (swz z a b) := by
  obtain ⟨hv, hc, hC, hM, hB, hT⟩ := hR
  have ho : ∀ j, j < 38 ∨ 63 ≤ j → swz z a b j = z j := fun j hj => swz_out z a b hj
  refine ⟨VR_swz hv ha hb, VCo_z (fun j hj => ho j (by omega)) hc, fun j hj => ?_, RM_sw ha hb hM h, fun e he => ?_, ?_, ?_, ?_⟩
  · rw [hf 118 (by omega), hC j hj, ho _ (by omega)]
  · have e5 : en (swz z a b) = en z := by unfold en; rw [ho 5 (by omega)]
    rw [e5] at he
    rw [hf 120 (by omega)]
    refine ⟨(hB e he).1.trans (ho _ (by omega)).symm, (hB e he).2.trans (ho _ (by omega)).symm⟩
  · rw [hf 122 (by omega), hT.1, ho 1 (by omega)]
  · rw [hf 122 (by omega), hT.2.1, ho 2 (by omega)]
  · rw [hf 122 (by omega), hT.2.2, ho 5 (by omega)]
theorem l_swap (V : Wd) {a b : Nat} (ha : a < 5) (hb : b < 5) (hab : a ≠ b) : ∃ V', f_L_swap V (nI a) (nI b) = some V' ∧ V' 119 = sq (V 119) a b 4 ∧ ∀ c, c ≠ 119 → V' c = V c := by
  have hF := FU_v
  unfold f_L_swap
  rw [Z44]
  exact l_sw_l ha hb hab (V 119) 4 FU_ V (by omega) (by omega) (by
    funext j
    unfold sq
    rw [if_neg (by omega), if_neg (by omega)])
/-! What the class answers, in the words of the z-row. -/
theorem q_flag {V : Wd} (hI : Inv V) {f : Nat} (hf : f < 10) : f_X8_flag V (nI f) 0 = some (zH (V 113) f) ∧ f_X8_flag V (nI f) 1 = some (zF (V 113) f) ∧ f_X8_flag V (nI f) 2 = some (zW (V 113) f) ∧ f_X8_flag V (nI f) 3 = some (V 113 0 - nI (cnA (V 113) (nI f) 5)) ∧ f_X8_flag V (nI f) 4 = some (fw (zH (V 113)) (zF (V 113)) (zF (V 113) f) (zH (V 113) f) 10) := by
  have hv := hI.2.1.vr
  have hi : f_X9_isFlag (nI f) = 1 := in_yes (nI_pos' (by omega)) (by rw [L9, nJ_le (by omega) (by omega)]; omega)
  refine ⟨?_, ?_, ?_, ?_, ?_⟩
  · obtain ⟨r, h1, h2⟩ := st_flag V hI (nI f) 0
    unfold f_X9_flag at h2
    rw [hi, if_neg t10, if_pos rfl, m_of0 V hf, obs] at h2
    rw [h1, ← h2]; rfl
  · obtain ⟨r, h1, h2⟩ := st_flag V hI (nI f) 1
    unfold f_X9_flag at h2
    rw [hi, if_neg t10, if_neg t10, if_pos rfl, m_of1 V hf, obs] at h2
    rw [h1, ← h2]; rfl
  · obtain ⟨r, h1, h2⟩ := st_flag V hI (nI f) 2
    unfold f_X9_flag at h2
    rw [hi, if_neg t10, if_neg (by decide), if_neg (by decide), if_pos rfl, m_of2 V hf, obs] at h2
    rw [h1, ← h2]; rfl
  · obtain ⟨r, h1, h2⟩ := st_flag V hI (nI f) 3
    unfold f_X9_flag at h2
    rw [hi, if_neg t10, if_neg (by decide), if_neg (by decide), if_neg (by decide), if_pos rfl, zr0, m_used hv.sz, obs] at h2
    rw [h1, ← h2]
  · obtain ⟨r, h1, h2⟩ := st_flag V hI (nI f) 4
    unfold f_X9_flag at h2
    rw [hi, if_neg t10, if_neg (by decide), if_neg (by decide), if_neg (by decide), if_neg (by decide), if_pos rfl, m_of1 V hf, obs, m_of0 V hf, obs, m_flagWith, obs] at h2
    rw [h1, ← h2]; rfl
theorem q_place {V : Wd} (hI : Inv V) {h p : Nat} (hh : h < 5) (hp : p ≤ sn (V 113) h) : f_X9_isPlace V (nI h) (nI (p + 1)) = some (if p < sn (V 113) h then 1 else 0) := by
  obtain ⟨e1, h4, -⟩ := hI.2.1.vr.sn hh
  rw [m_isPlace hh e1]
  by_cases q : p < sn (V 113) h
  · rw [if_pos q, in_yes (by rw [L1, nJ_le (by omega) (by omega)]; omega) (by rw [nJ_le (by omega) (by omega)]; omega), if_neg t10]
  · rw [if_neg q, in_no (Or.inr (by rw [nJ_lt (by omega) (by omega)]; omega)), if_pos t00]
theorem q_sign {V : Wd} (hI : Inv V) {h p : Nat} (hh : h < 5) (hp : p < sn (V 113) h) : f_X8_sign V (nI h) (nI (p + 1)) 0 = some (zG (V 113) h p) ∧ f_X8_sign V (nI h) (nI (p + 1)) 1 = some (nI (FN (V 113) h p)) ∧ f_X8_sign V (nI h) (nI (p + 1)) 2 = some (if zW (V 113) (FN (V 113) h p) ≤ V 113 1 then 0 else 1) := by
  have hv := hI.2.1.vr
  have hq := q_place hI hh (Nat.le_of_lt hp)
  have h4 := (hv.sn hh).2.1
  rw [if_pos hp] at hq
  refine ⟨?_, ?_, ?_⟩
  · obtain ⟨r, h1, h2⟩ := st_sign V hI (nI h) (nI (p + 1)) 0
    unfold f_X9_sign at h2
    rw [hq, obs, if_neg t10, if_pos rfl, m_signOn V hh (by omega), obs] at h2
    rw [h1, ← h2]
  · obtain ⟨r, h1, h2⟩ := st_sign V hI (nI h) (nI (p + 1)) 1
    unfold f_X9_sign at h2
    rw [hq, obs, if_neg t10, if_neg t10, if_pos rfl, m_flagOn hv hh hp, obs] at h2
    rw [h1, ← h2]
  · obtain ⟨r, h1, h2⟩ := st_sign V hI (nI h) (nI (p + 1)) 2
    unfold f_X9_sign at h2
    rw [hq, obs, if_neg t10, if_neg (by decide), if_neg (by decide), if_pos rfl, m_flagOn hv hh hp, obs, m_droops V (FL_ok hv hh hp).2, obs] at h2
    rw [h1, ← h2]
    by_cases q : V 113 (10 + 3 * FN (V 113) h p) ≤ V 113 1
    · rw [if_pos q, if_pos t00, if_pos (show zW (V 113) (FN (V 113) h p) ≤ V 113 1 from q)]
    · rw [if_neg q, if_neg t10, if_neg (show ¬ zW (V 113) (FN (V 113) h p) ≤ V 113 1 from q)]
theorem q_sign_no {V : Wd} (hI : Inv V) {h : Nat} (hh : h < 5) : f_X8_sign V (nI h) (nI (sn (V 113) h + 1)) 0 = some (-1) := by
  have hq := q_place hI hh (Nat.le_refl _)
  rw [if_neg (Nat.lt_irrefl _)] at hq
  obtain ⟨r, h1, h2⟩ := st_sign V hI (nI h) (nI (sn (V 113) h + 1)) 0
  unfold f_X9_sign at h2
  rw [hq, obs, if_pos t00] at h2
  rw [h1, ← h2]
theorem q_side {s : Nat} (hs : s < 2) : f_X9_isSide (nI s) = 1 := in_yes (nI_pos' (by omega)) (by rw [L1, nJ_le (by omega) (by omega)]; omega)
theorem q_seen {V : Wd} (hI : Inv V) {s h p : Nat} (hs : s < 2) (hh : h < 5) (hp : p < sn (V 113) h) : f_X8_seen V (nI s) (nI h) (nI (p + 1)) = some (tk (zH (V 113)) (zF (V 113)) (zW (V 113)) (fst_ (V 113) (nI s)) (V 113 1) (FN (V 113) h p)) := by
  have hv := hI.2.1.vr
  have hq := q_place hI hh (Nat.le_of_lt hp)
  rw [if_pos hp] at hq
  obtain ⟨r, h1, h2⟩ := st_seen V hI (nI s) (nI h) (nI (p + 1))
  unfold f_X9_seen at h2
  rw [q_side hs, if_neg t10, hq, obs, if_neg t10, m_flagOn hv hh hp, obs, m_taken V (FL_ok hv hh hp).2, obs] at h2
  rw [h1, ← h2]
  rfl
theorem q_seen_no {V : Wd} (hI : Inv V) {s h : Nat} (hs : s < 2) (hh : h < 5) : f_X8_seen V (nI s) (nI h) (nI (sn (V 113) h + 1)) = some (-1) := by
  have hq := q_place hI hh (Nat.le_refl _)
  rw [if_neg (Nat.lt_irrefl _)] at hq
  obtain ⟨r, h1, h2⟩ := st_seen V hI (nI s) (nI h) (nI (sn (V 113) h + 1))
  unfold f_X9_seen at h2
  rw [q_side hs, if_neg t10, hq, obs, if_pos t00] at h2
  rw [h1, ← h2]
theorem q_isE {V : Wd} (hI : Inv V) {e : Nat} (he : e ≤ en (V 113)) : f_X9_isEntry V (nI e) = some (if e < en (V 113) then 1 else 0) := by
  obtain ⟨e5, h12, -⟩ := hI.2.1.vr.en
  unfold f_X9_isEntry
  rw [zr5, e5]
  rcases in_m (n := en (V 113)) (by omega) (nI e) with ⟨j, hj, ej, h1, h2⟩ | ⟨h1, h2⟩
  · rw [nJ_eq (by omega) (by omega)] at ej
    rw [h2, if_pos (Or.inr rfl : isB (1 : Int32)), if_pos (by omega)]
  · rw [h2, if_pos (Or.inl rfl : isB (0 : Int32))]
    by_cases q : e < en (V 113)
    · rw [bl_yes q (by omega)] at h1
      exact absurd h1 t10
    · rw [if_neg q]
theorem q_entry {V : Wd} (hI : Inv V) {e : Nat} (he : e < en (V 113)) : f_X8_entry V (nI e) 0 = some (zC (V 113) e) ∧ f_X8_entry V (nI e) 1 = some (zO (V 113) e) := by
  obtain ⟨e5, h12, -⟩ := hI.2.1.vr.en
  have hq := q_isE hI (Nat.le_of_lt he)
  rw [if_pos he] at hq
  refine ⟨?_, ?_⟩
  · obtain ⟨r, h1, h2⟩ := st_entry V hI (nI e) 0
    unfold f_X9_entry at h2
    rw [hq, obs, if_neg t10, if_pos rfl, m_codeOf V (by omega), obs] at h2
    rw [h1, ← h2]
  · obtain ⟨r, h1, h2⟩ := st_entry V hI (nI e) 1
    unfold f_X9_entry at h2
    rw [hq, obs, if_neg t10, if_neg t10, if_pos rfl, m_wordOf V (by omega), obs] at h2
    rw [h1, ← h2]
theorem q_entry_no {V : Wd} (hI : Inv V) : f_X8_entry V (nI (en (V 113))) 0 = some (-1) := by
  have hq := q_isE hI (Nat.le_refl _)
  rw [if_neg (Nat.lt_irrefl _)] at hq
  obtain ⟨r, h1, h2⟩ := st_entry V hI (nI (en (V 113))) 0
  unfold f_X9_entry at h2
  rw [hq, obs, if_pos t00] at h2
  rw [h1, ← h2]
theorem q_total {V : Wd} (hI : Inv V) : f_X8_total V 0 = some (V 113 1) ∧ f_X8_total V 1 = some (V 113 2) ∧ f_X8_total V 2 = some (V 113 0) ∧ f_X8_total V 3 = some (al (V 113) 5) ∧ f_X8_total V 4 = some (nI (hc_ (V 113) 5)) ∧ f_X8_total V 5 = some (V 113 5) ∧ f_X8_total V 6 = some (V 113 3) ∧ f_X8_total V 7 = some (V 113 4) ∧ f_X8_total V 8 = some (V 113 6) ∧ f_X8_total V 9 = some (V 113 7) := by
  refine ⟨?_, ?_, ?_, ?_, ?_, ?_, ?_, ?_, ?_, ?_⟩
  · obtain ⟨r, h1, h2⟩ := st_total V hI 0
    unfold f_X9_total at h2
    rw [if_pos rfl, zr1] at h2
    rw [h1, ← h2]
  · obtain ⟨r, h1, h2⟩ := st_total V hI 1
    unfold f_X9_total at h2
    rw [if_neg (by decide), if_pos rfl, zr2] at h2
    rw [h1, ← h2]
  · obtain ⟨r, h1, h2⟩ := st_total V hI 2
    unfold f_X9_total at h2
    rw [if_neg (by decide), if_neg (by decide), if_pos rfl, zr0] at h2
    rw [h1, ← h2]
  · obtain ⟨r, h1, h2⟩ := st_total V hI 3
    unfold f_X9_total at h2
    rw [if_neg (by decide), if_neg (by decide), if_neg (by decide), if_pos rfl, m_all, obs] at h2
    rw [h1, ← h2]
  · obtain ⟨r, h1, h2⟩ := st_total V hI 4
    unfold f_X9_total at h2
    rw [if_neg (by decide), if_neg (by decide), if_neg (by decide), if_neg (by decide), if_pos rfl, m_hoists, obs] at h2
    rw [h1, ← h2]
  · obtain ⟨r, h1, h2⟩ := st_total V hI 5
    unfold f_X9_total at h2
    rw [if_neg (by decide), if_neg (by decide), if_neg (by decide), if_neg (by decide), if_neg (by decide), if_pos rfl, zr5] at h2
    rw [h1, ← h2]
  · obtain ⟨r, h1, h2⟩ := st_total V hI 6
    unfold f_X9_total at h2
    rw [if_neg (by decide), if_neg (by decide), if_neg (by decide), if_neg (by decide), if_neg (by decide), if_neg (by decide), if_pos rfl, zr3] at h2
    rw [h1, ← h2]
  · obtain ⟨r, h1, h2⟩ := st_total V hI 7
    unfold f_X9_total at h2
    rw [if_neg (by decide), if_neg (by decide), if_neg (by decide), if_neg (by decide), if_neg (by decide), if_neg (by decide), if_neg (by decide), if_pos rfl, zr4] at h2
    rw [h1, ← h2]
  · obtain ⟨r, h1, h2⟩ := st_total V hI 8
    unfold f_X9_total at h2
    rw [if_neg (by decide), if_neg (by decide), if_neg (by decide), if_neg (by decide), if_neg (by decide), if_neg (by decide), if_neg (by decide), if_neg (by decide), if_pos rfl, zr6] at h2
    rw [h1, ← h2]
  · obtain ⟨r, h1, h2⟩ := st_total V hI 9
    unfold f_X9_total at h2
    rw [if_neg (by decide), if_neg (by decide), if_neg (by decide), if_neg (by decide), if_neg (by decide), if_neg (by decide), if_neg (by decide), if_neg (by decide), if_neg (by decide), if_pos rfl, zr7] at h2
    rw [h1, ← h2]
theorem q_logged {V : Wd} (hI : Inv V) {n m l i : Nat} (hn : n ≤ 8) (h6 : V 113 6 = nI n) (hm : m < n) (hl : l ≤ 5) (el : V 113 (87 + 6 * m) = nI l) (hi : i ≤ l) : f_X8_logged V (nI m) (nI i) = some (V 113 (87 + 6 * m + i)) := by
  obtain ⟨r, h1, h2⟩ := st_logged V hI (nI m) (nI i)
  unfold f_X9_logged at h2
  have hq : f_X9_in (nI m) 0 (nI n - 1) = 1 := by
    rw [L1, pk_sub (by omega)]
    exact in_yes (nI_pos' (by omega)) (by rw [nJ_le (by omega) (by omega)]; omega)
  have hp : f_X9_in (nI i) 0 5 = 1 := in_yes (nI_pos' (by omega)) (by rw [L5, nJ_le (by omega) (by omega)]; omega)
  have ei : (87 : Int32) + 6 * nI m = nI (87 + 6 * m) := by simp only [L87, L6, pk_mul, nI_add]
  rw [zr6, h6, hq, if_neg t10, hp, if_neg t10, ei, lib_, rdb (n := 87 + 6 * m) rfl (by omega) (by omega), el, if_pos (by rw [nJ_le (by omega) (by omega)]; omega), rdb (n := 87 + 6 * m + i) (nI_add _ _) (by omega) (by omega)] at h2
  rw [h1, ← h2]
theorem q_logged_no {V : Wd} (hI : Inv V) {n : Nat} (hn : n ≤ 8) (h6 : V 113 6 = nI n) : f_X8_logged V (nI n) 0 = some (-1) := by
  obtain ⟨r, h1, h2⟩ := st_logged V hI (nI n) 0
  unfold f_X9_logged at h2
  have hq : f_X9_in (nI n) 0 (nI n - 1) = 0 := by
    rcases in_m (n := n) (by omega) (nI n) with ⟨j, hj, ej, g1, g2⟩ | ⟨g1, g2⟩
    · rw [nJ_eq (by omega) (by omega)] at ej
      omega
    · exact g2
  rw [zr6, h6, hq, if_pos t00] at h2
  rw [h1, ← h2]

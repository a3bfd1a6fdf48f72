/-! Pure: undo, save, restore, append, clearText. -/
theorem m_undo_l {s : Nat} (hs : s < 5) : ∀ (d n : Nat) (V : Wd), d ≤ 136 → d < n → V 112 2 = nI s → ∃ V', f_X9_undo_22 n V (nI (136 - d)) = some (nI s, V') ∧ (∀ j, V' 113 j = if 136 - d ≤ j ∧ j < 136 then V 114 (136 * s + j) else V 113 j) ∧ ∀ c, c ≠ 113 → V' c = V c := by
  intro d
  induction d with
  | zero =>
    intro n V hd hn hV
    obtain ⟨n, rfl⟩ : ∃ k, n = k + 1 := ⟨n - 1, by omega⟩
    rw [f_X9_undo_22, if_pos (by decide), hV]
    exact ⟨V, rfl, fun j => by rw [if_neg (by omega)], fun _ _ => rfl⟩
  | succ d ih =>
    intro n V hd hn hV
    obtain ⟨n, rfl⟩ : ∃ k, n = k + 1 := ⟨n - 1, by omega⟩
    obtain ⟨i, hi⟩ : ∃ i, i = 136 - (d + 1) := ⟨_, rfl⟩
    have e : V 112 2 * 136 + nI i = nI (136 * s + i) := by rw [hV, L136, pk_mul, nI_add, Nat.mul_comm]
    rw [f_X9_undo_22, ← hi, if_neg (by rw [L136, nJ_le (by omega) (by omega)]; omega), rdb e (by omega) (by omega), st_n (by omega) (by omega), n1]
    obtain ⟨V', g1, g2, g3⟩ := ih n (u2 V 113 i (V 114 (136 * s + i))) (by omega) (by omega) (by rw [u2_ne (by omega)]; exact hV)
    rw [show 136 - d = i + 1 by omega] at g1 g2
    refine ⟨V', g1, fun j => ?_, fun c hc => by rw [g3 c hc, u2_ne hc]⟩
    rw [g2, u2_at, u2_ne (by omega)]
    by_cases h1 : i + 1 ≤ j ∧ j < 136
    · have h2 : i ≤ j ∧ j < 136 := by omega
      rw [if_pos h1, if_pos h2]
    · rw [if_neg h1]
      by_cases h3 : j = i
      · have h2 : i ≤ j ∧ j < 136 := by omega
        rw [if_pos h2, h3, pk_us]
      · have h2 : ¬(i ≤ j ∧ j < 136) := by omega
        rw [if_neg h2, pk_un h3]
theorem m_save_l : ∀ (d n : Nat) (V : Wd), d ≤ 136 → d < n → ∃ V', f_X9_save_7 n V (nI (136 - d)) = some (al (V 113) 5, V') ∧ (∀ j, V' 115 j = if 136 - d ≤ j ∧ j < 136 then V 113 j else V 115 j) ∧ ∀ c, c ≠ 115 → V' c = V c := by
  intro d
  induction d with
  | zero =>
    intro n V hd hn
    obtain ⟨n, rfl⟩ : ∃ k, n = k + 1 := ⟨n - 1, by omega⟩
    rw [f_X9_save_7, if_pos (by decide), m_all, obs]
    exact ⟨V, rfl, fun j => by rw [if_neg (by omega)], fun _ _ => rfl⟩
  | succ d ih =>
    intro n V hd hn
    obtain ⟨n, rfl⟩ : ∃ k, n = k + 1 := ⟨n - 1, by omega⟩
    obtain ⟨i, hi⟩ : ∃ i, i = 136 - (d + 1) := ⟨_, rfl⟩
    rw [f_X9_save_7, ← hi, if_neg (by rw [L136, nJ_le (by omega) (by omega)]; omega), rdb (n := i) rfl (by omega) (by omega), st_n (by omega) (by omega), n1]
    obtain ⟨V', g1, g2, g3⟩ := ih n (u2 V 115 i (V 113 i)) (by omega) (by omega)
    rw [show 136 - d = i + 1 by omega] at g1 g2
    rw [u2_ne (show (113 : Nat) ≠ 115 by omega)] at g1
    refine ⟨V', g1, fun j => ?_, fun c hc => by rw [g3 c hc, u2_ne hc]⟩
    rw [g2, u2_at, u2_ne (by omega)]
    by_cases h1 : i + 1 ≤ j ∧ j < 136
    · have h2 : i ≤ j ∧ j < 136 := by omega
      rw [if_pos h1, if_pos h2]
    · rw [if_neg h1]
      by_cases h3 : j = i
      · have h2 : i ≤ j ∧ j < 136 := by omega
        rw [if_pos h2, h3, pk_us]
      · have h2 : ¬(i ≤ j ∧ j < 136) := by omega
        rw [if_neg h2, pk_un h3]
theorem m_rest_l : ∀ (d n : Nat) (V : Wd), d ≤ 136 → d < n → ∃ V', f_X9_restore_16 n V (nI (136 - d)) = some (al (V' 113) 5, V') ∧ (∀ j, V' 113 j = if 136 - d ≤ j ∧ j < 136 then V 115 j else V 113 j) ∧ ∀ c, c ≠ 113 → V' c = V c := by
  intro d
  induction d with
  | zero =>
    intro n V hd hn
    obtain ⟨n, rfl⟩ : ∃ k, n = k + 1 := ⟨n - 1, by omega⟩
    rw [f_X9_restore_16, if_pos (by decide), m_all, obs]
    exact ⟨V, rfl, fun j => by rw [if_neg (by omega)], fun _ _ => rfl⟩
  | succ d ih =>
    intro n V hd hn
    obtain ⟨n, rfl⟩ : ∃ k, n = k + 1 := ⟨n - 1, by omega⟩
    obtain ⟨i, hi⟩ : ∃ i, i = 136 - (d + 1) := ⟨_, rfl⟩
    rw [f_X9_restore_16, ← hi, if_neg (by rw [L136, nJ_le (by omega) (by omega)]; omega), rdb (n := i) rfl (by omega) (by omega), st_n (by omega) (by omega), n1]
    obtain ⟨V', g1, g2, g3⟩ := ih n (u2 V 113 i (V 115 i)) (by omega) (by omega)
    rw [show 136 - d = i + 1 by omega] at g1 g2
    refine ⟨V', g1, fun j => ?_, fun c hc => by rw [g3 c hc, u2_ne hc]⟩
    rw [g2, u2_at, u2_ne (by omega)]
    by_cases h1 : i + 1 ≤ j ∧ j < 136
    · have h2 : i ≤ j ∧ j < 136 := by omega
      rw [if_pos h1, if_pos h2]
    · rw [if_neg h1]
      by_cases h3 : j = i
      · have h2 : i ≤ j ∧ j < 136 := by omega
        rw [if_pos h2, h3, pk_us]
      · have h2 : ¬(i ≤ j ∧ j < 136) := by omega
        rw [if_neg h2, pk_un h3]
theorem if136 {α : Type} {j : Nat} {a b : α} (h : j < 136) : (if 136 - 136 ≤ j ∧ j < 136 then a else b) = a := if_pos ⟨by omega, h⟩
theorem k5 {n : Nat} (h : n < 5) : nI n + 5 - 1 - (nI n + 5 - 1) / 5 * 5 = nI ((n + 4) % 5) := by
  rcases (show n = 0 ∨ n = 1 ∨ n = 2 ∨ n = 3 ∨ n = 4 by omega) with rfl | rfl | rfl | rfl | rfl <;> decide
theorem Inv_cl {V V' : Wd} (hI : Inv V) (hR : RS V' 1 (V' 113)) (hz : VZ (V' 113)) (hH : HI V') (hc : ∀ c, c = 0 ∨ (14 < c ∧ c < 29) ∨ (100 < c ∧ c < 112) ∨ c = 115 ∨ c = 116 → V' c = V c) (h4 : V' 112 4 = V 112 4) (h6 : V' 112 6 = V 112 6) : Inv V' := by
  obtain ⟨g1, g2, g3, g4, ⟨t, t1, t2, t3, t4⟩, g6⟩ := hI
  refine ⟨hR, hz, ?_, hH, ⟨t, t1, ?_, ?_, ?_⟩, ?_⟩
  · rw [hc 0 (by omega), h4, hc 115 (by omega)]
    exact ⟨g3.1, g3.2.imp (fun x => x) (fun x => ⟨x.1, RS_frame (fun c h1 h2 => hc c (by omega)) x.2.1, x.2.2⟩)⟩
  · rw [hc 101 (by omega)]; exact t2
  · rw [h6]; exact t3
  · intro i hi
    rw [hc 102 (by omega), hc 116 (by omega)]
    exact t4 i hi
  · rw [hc 106 (by omega), hc 109 (by omega)]; exact g6
theorem st_undo : S_undo Inv := by
  intro V hI
  obtain ⟨s, nx, hs, hn, e1, e2, e3, hh⟩ := hI.2.2.2.1
  unfold f_X8_undo f_X9_undo f_X2_size
  rw [e1]
  by_cases q0 : nI s = 0
  · rw [if_pos q0]
    refine mk3 ?_
    rw [e2, if_pos q0]
    exact ⟨_, rfl, hI⟩
  · rw [if_neg q0]
    have q0' := q0
    rw [L0, nJ_eq (by omega) (by omega)] at q0'
    obtain ⟨t, rfl⟩ : ∃ t, s = t + 1 := ⟨s - 1, by omega⟩
    have hp : (nx + 4) % 5 < 5 := Nat.mod_lt _ (by omega)
    unfold f_X2_takeBack
    rw [e3, k5 hn, lib_, c_slot V hp, obs]
    dsimp only
    rw [if_pos (kd_slot hp), e1, if_neg (by rw [L0, nJ_le (by omega) (by omega)]; omega)]
    obtain ⟨V1, a1, a2, a3⟩ := c_cp6 (k := 1) (k1 := 31 + 14 * ((nx + 4) % 5)) (by omega) V
    rw [a1, obs, lib_, lib_, obs]
    have e29 : V1 29 = V 29 := a2 29 (by omega)
    obtain ⟨V2, hV2⟩ : ∃ V2, u2 (u2 V1 29 1 (nI ((nx + 4) % 5))) 29 2 (u2 V1 29 1 (nI ((nx + 4) % 5)) 29 2 - 1) = V2 := ⟨_, rfl⟩
    rw [hV2]
    have f2 : V2 29 2 = nI t := by rw [← hV2, u2_s, u2_n (Or.inr (by omega)), e29, e1, ns1]
    have f1 : V2 29 1 = nI ((nx + 4) % 5) := by rw [← hV2, u2_n (Or.inr (by omega)), u2_s]
    have hfr : ∀ c, c ≠ 29 → V2 c = V1 c := fun c hc => by rw [← hV2, u2_ne hc, u2_ne hc]
    rw [f2]
    refine mk3 ?_
    have e112 : V2 112 = V 112 := by rw [hfr 112 (by omega), a2 112 (by omega)]
    rw [e112, e2, if_neg q0, ns1, lib_, Z136]
    have hFU := FU_v
    obtain ⟨V3, d1, d2, d3⟩ := m_undo_l (s := t) (by omega) 136 FU_ (u2 V2 112 2 (nI t)) (by omega) (by omega) (by rw [u2_s])
    refine ⟨V3, d1, ?_⟩
    have hez : ∀ j, j < 136 → V3 113 j = (fun j => V 114 (136 * t + j)) j := fun j hj => by
      rw [d2, if136 hj, u2_ne (by omega), hfr 114 (by omega), a2 114 (by omega)]
    obtain ⟨r1, r2⟩ := hh t (by omega)
    have epos : (nx + 5 - (t + 1) + t) % 5 = (nx + 4) % 5 := by omega
    rw [epos] at r1
    have hcell : ∀ c, c ≠ 29 → c ≠ 112 → c ≠ 113 → (c = 0 ∨ 14 < c) → V3 c = V c := fun c h1 h2 h3 h4 => by rw [d3 c h3, u2_ne h2, hfr c h1, a2 c (by omega)]
    refine Inv_cl hI ?_ (VZ_zc hez r2) ⟨t, (nx + 4) % 5, by omega, hp, ?_, ?_, ?_, fun i hi => ?_⟩ (fun c hc => hcell c (by omega) (by omega) (by omega) (by omega)) ?_ ?_
    · exact RS_zc hez (RS_frame (fun c h1 h2 => by rw [d3 c (by omega), u2_ne (by omega), hfr c (by omega)]) (a3 _ r1))
    · rw [d3 29 (by omega), u2_ne (by omega)]; exact f2
    · rw [d3 112 (by omega), u2_s]
    · rw [d3 29 (by omega), u2_ne (by omega)]; exact f1
    · rw [show ((nx + 4) % 5 + 5 - t + i) % 5 = (nx + 5 - (t + 1) + i) % 5 by omega, hcell 114 (by omega) (by omega) (by omega) (by omega)]
      have h5 := hh i (by omega)
      have hpi : (nx + 5 - (t + 1) + i) % 5 < 5 := Nat.mod_lt _ (by omega)
      exact ⟨RS_frame (fun c h1 h2 => hcell c (by omega) (by omega) (by omega) (by omega)) h5.1, h5.2⟩
    · rw [d3 112 (by omega), u2_n (Or.inr (by omega)), e112]
    · rw [d3 112 (by omega), u2_n (Or.inr (by omega)), e112]
theorem al_zc {z z' : Nat → Int32} (h : ∀ j, j < 136 → z' j = z j) : ∀ n, n ≤ 5 → al z' n = al z n
  | 0, _ => rfl
  | n + 1, hn => by
    rw [al, al, al_zc h n (by omega), show zS z' n = zS z n from h _ (by omega)]
theorem st_save : S_save Inv := by
  intro V hI
  obtain ⟨g1, g2, g3, g4, ⟨t, t1, t2, t3, t4⟩, g6⟩ := id hI
  unfold f_X8_save f_X9_save
  obtain ⟨V1, a1, a2, a3⟩ := c_cp6 (k := 15) (k1 := 1) (by omega) V
  obtain ⟨V2, hV2⟩ : ∃ V2, u2 V1 0 2 1 = V2 := ⟨_, rfl⟩
  have hfr : ∀ c, c ≠ 0 → (c < 15 ∨ 29 ≤ c) → V2 c = V c := fun c h1 h2 => by rw [← hV2, u2_ne h1, a2 c (by omega)]
  have hH : HS V2 6 (V 113) := HS_fr (hfr _ (by omega) (by omega)) (hfr _ (by omega) (by omega)) g1.2.2.1
  rw [a1, obs, lib_, hV2, c_all (K := 6) hH, obs]
  refine mk3 ?_
  have hFU := FU_v
  obtain ⟨V3, d1, d2, d3⟩ := m_save_l 136 FU_ (u2 V2 112 4 1) (by omega) (by omega)
  rw [lib_, Z136]
  rw [u2_ne (show (113 : Nat) ≠ 112 by omega), hfr 113 (by omega) (by omega)] at d1
  refine ⟨V3, d1, ?_⟩
  have hcell : ∀ c, c ≠ 0 → c ≠ 112 → c ≠ 115 → (c < 15 ∨ 29 ≤ c) → V3 c = V c := fun c h1 h2 h3 h4 => by rw [d3 c h3, u2_ne h2, hfr c h1 h4]
  have h112 : ∀ j, j ≠ 4 → V3 112 j = V 112 j := fun j hj => by rw [d3 112 (by omega), u2_n (Or.inr hj), hfr 112 (by omega) (by omega)]
  have h4 : V3 112 4 = 1 := by rw [d3 112 (by omega), u2_s]
  have hez : ∀ j, j < 136 → V3 115 j = V 113 j := fun j hj => by rw [d2, if136 hj, u2_ne (by omega), hfr 113 (by omega) (by omega)]
  have e113 : V3 113 = V 113 := hcell 113 (by omega) (by omega) (by omega) (by omega)
  refine ⟨?_, by rw [e113]; exact g2, ⟨?_, Or.inr ⟨h4, ?_, VZ_zc hez g2⟩⟩, ?_, ⟨t, t1, ?_, ?_, ?_⟩, ?_⟩
  · rw [e113]; exact RS_frame (fun c h1 h2 => hcell c (by omega) (by omega) (by omega) (by omega)) g1
  · rw [h4, d3 0 (by omega), u2_ne (by omega), ← hV2, u2_s]
  · exact RS_zc hez (RS_frame (fun c h1 h2 => by rw [d3 c (by omega), u2_ne (by omega), ← hV2, u2_ne (by omega)]) (a3 _ g1))
  · obtain ⟨s, nx, hs, hn, e1, e2, e3, hh⟩ := g4
    refine ⟨s, nx, hs, hn, ?_, ?_, ?_, fun i hi => ?_⟩
    · rw [hcell 29 (by omega) (by omega) (by omega) (by omega)]; exact e1
    · rw [h112 2 (by omega)]; exact e2
    · rw [hcell 29 (by omega) (by omega) (by omega) (by omega)]; exact e3
    · rw [hcell 114 (by omega) (by omega) (by omega) (by omega)]
      have h5 := hh i hi
      have hpi : (nx + 5 - s + i) % 5 < 5 := Nat.mod_lt _ (by omega)
      exact ⟨RS_frame (fun c h1 h2 => hcell c (by omega) (by omega) (by omega) (by omega)) h5.1, h5.2⟩
  · rw [hcell 101 (by omega) (by omega) (by omega) (by omega)]; exact t2
  · rw [h112 6 (by omega)]; exact t3
  · intro i hi
    rw [hcell 102 (by omega) (by omega) (by omega) (by omega), hcell 116 (by omega) (by omega) (by omega) (by omega)]
    exact t4 i hi
  · rw [hcell 106 (by omega) (by omega) (by omega) (by omega), hcell 109 (by omega) (by omega) (by omega) (by omega)]; exact g6
theorem st_restore : S_restore Inv := by
  intro V hI
  obtain ⟨h04, hsv⟩ := hI.2.2.1
  unfold f_X8_restore f_X9_restore
  rcases hsv with h0 | ⟨h1, hR15, hz15⟩
  · rw [h04, if_pos h0]
    refine mk3 ?_
    rw [if_pos h0]
    exact ⟨_, rfl, hI⟩
  · have hn0 : ¬ V 112 4 = 0 := by rw [h1]; decide
    rw [h04, if_neg hn0]
    obtain ⟨s, nx, V0, hx, hc, g1, g3⟩ := c_stepR hI
    obtain ⟨V2, a1, a2, a3⟩ := c_cp6 (k := 1) (k1 := 15) (by omega) V0
    have hR2 : RS V2 1 (V 115) := a3 _ (RS_frame (fun c h1 h2 => hc.1 c (by omega)) hR15)
    rw [g1, obs, a1, obs, c_all (K := 6) hR2.2.2.1, obs]
    refine mk3 ?_
    obtain ⟨W, m1, m2, m3⟩ := m_stepR hx hc (V2 := V2) (fun c hc => a2 c (by omega))
    have e112 : V2 112 = V 112 := by rw [a2 112 (by omega), hc.1 112 (by omega)]
    have e115 : W 115 = V 115 := by rw [m2.1 115 (by omega) (by omega), a2 115 (by omega), hc.1 115 (by omega)]
    have hFU := FU_v
    obtain ⟨V3, d1, d2, d3⟩ := m_rest_l 136 FU_ W (by omega) (by omega)
    have hez : ∀ j, j < 136 → V3 113 j = V 115 j := fun j hj => by rw [d2, if136 hj, e115]
    rw [e112, if_neg hn0, m1, obs, Z136, d1]
    refine ⟨V3, by rw [al_zc hez 5 (by omega)], ?_⟩
    exact Inv_rec hI hx hc (V2 := V2) (z' := V3 113) (fun c hc _ => a2 c (by omega)) (by rw [a2 106 (by omega)]) (by rw [a2 109 (by omega)]) (RS_zc hez hR2) m2 (fun c hc => d3 c hc) rfl (VZ_zc hez hz15)
theorem Inv_bu {V V' : Wd} (hI : Inv V) (hc : ∀ c, c ≠ 101 → c ≠ 102 → c ≠ 103 → c ≠ 104 → c ≠ 105 → c ≠ 112 → c ≠ 116 → c ≠ 117 → V' c = V c) (h2 : V' 112 2 = V 112 2) (h4 : V' 112 4 = V 112 4) (hB : BU V') : Inv V' := by
  obtain ⟨g1, g2, g3, ⟨s, nx, hs, hn, e1, e2, e3, hh⟩, -, g6⟩ := hI
  have h : ∀ c, c < 101 ∨ (105 < c ∧ c < 112) ∨ (112 < c ∧ c < 116) → V' c = V c := fun c hh => hc c (by omega) (by omega) (by omega) (by omega) (by omega) (by omega) (by omega) (by omega)
  refine ⟨?_, by rw [h 113 (by omega)]; exact g2, ?_, ⟨s, nx, hs, hn, by rw [h 29 (by omega)]; exact e1, by rw [h2]; exact e2, by rw [h 29 (by omega)]; exact e3, fun i hi => ?_⟩, hB, by rw [h 106 (by omega), h 109 (by omega)]; exact g6⟩
  · rw [h 113 (by omega)]; exact RS_frame (fun c h1 h2 => h c (by omega)) g1
  · rw [h 0 (by omega), h4, h 115 (by omega)]
    exact ⟨g3.1, g3.2.imp (fun x => x) (fun x => ⟨x.1, RS_frame (fun c h1 h2 => h c (by omega)) x.2.1, x.2.2⟩)⟩
  · rw [h 114 (by omega)]
    have h5 := hh i hi
    have hpi : (nx + 5 - s + i) % 5 < 5 := Nat.mod_lt _ (by omega)
    exact ⟨RS_frame (fun c h1 h2 => h c (by omega)) h5.1, h5.2⟩
theorem nar_l : ∀ c, c < 127 → vp_nar .char (i2c (nI c)) = nI c := by decide +kernel
theorem st_append : S_append Inv := by
  intro V hI a1
  obtain ⟨t, t1, t2, t3, t4⟩ := id hI.2.2.2.2.1
  unfold f_X8_append f_X9_append f_X7_size
  by_cases q1 : a1 < 33
  · simp only [if_pos q1, in_no (Or.inl q1 : a1 < 33 ∨ 126 < a1), if00]
    exact ⟨_, _, _, rfl, rfl, hI⟩
  · by_cases q2 : a1 ≤ 126
    · simp only [if_neg q1, if_pos q2, in_yes (nlt_le.mp q1) q2, if10]
      rw [t2]
      by_cases q50 : t = 50
      · subst q50
        rw [if_neg (by decide)]
        refine mk3 ?_
        rw [t3, if_pos (show nI 50 = 50 from rfl)]
        exact ⟨_, rfl, hI⟩
      · obtain ⟨c, hc, c1, c2⟩ : ∃ c, a1 = nI c ∧ 33 ≤ c ∧ c ≤ 126 := in_nat (a := 33) (b := 126) (by omega) (by omega) (by rw [show nI 33 = 33 from rfl, show nI 126 = 126 from rfl, in_yes (nlt_le.mp q1) q2]; decide)
        have q50' : ¬ nI t = 50 := by rw [show (50 : Int32) = nI 50 from rfl, nJ_eq (by omega) (by omega)]; exact q50
        rw [if_pos (by rw [show (50 : Int32) = nI 50 from rfl, nJ_lt (by omega) (by omega)]; omega)]
        unfold f_X7_add
        rw [t2, bl_y (n := 50) (x := 50) rfl (by omega) (by omega), if10, st_n (by omega) (by omega), u2_ne (show (101 : Nat) ≠ 102 by omega), t2, n1, lib_, obs, u2_s]
        refine mk3 ?_
        obtain ⟨V2, hV2⟩ : ∃ V2, u2 (u2 V 102 t a1) 101 1 (nI (t + 1)) = V2 := ⟨_, rfl⟩
        rw [hV2]
        have e112 : V2 112 = V 112 := by rw [← hV2, u2_ne (by omega), u2_ne (by omega)]
        rw [e112, t3, if_neg q50', st_n (by omega) (by omega), u2_ne (show (112 : Nat) ≠ 116 by omega), e112, t3, n1, lib_, u2_s]
        refine ⟨_, rfl, Inv_bu hI (fun c h1 h2 h3 h4 h5 h6 h7 h8 => ?_) ?_ ?_ ⟨t + 1, by omega, ?_, ?_, fun i hi => ?_⟩⟩
        · rw [u2_ne h6, u2_ne h7, ← hV2, u2_ne h1, u2_ne h2]
        · rw [u2_n (Or.inr (by omega)), u2_ne (by omega), e112]
        · rw [u2_n (Or.inr (by omega)), u2_ne (by omega), e112]
        · rw [u2_ne (by omega), u2_ne (by omega), ← hV2, u2_s]
        · rw [u2_s]
        · rw [u2_ne (show (102 : Nat) ≠ 112 by omega), u2_ne (show (102 : Nat) ≠ 116 by omega), u2_ne (show (116 : Nat) ≠ 112 by omega)]
          have e102 : V2 102 = upd (V 102) t a1 := by rw [← hV2, u2_ne (by omega), u2_at]
          have e116 : V2 116 = V 116 := by rw [← hV2, u2_ne (by omega), u2_ne (by omega)]
          rw [u2_at, e102, e116]
          by_cases qi : i = t
          · subst qi
            rw [pk_us, pk_us, hc, nar_l c (by omega)]
            exact ⟨rfl, c, c1, c2, rfl⟩
          · rw [pk_un qi, pk_un qi]
            exact t4 i (by omega)
    · have q2' : 126 < a1 := nle_lt.mp q2
      simp only [if_neg q1, if_neg q2, in_no (Or.inr q2' : a1 < 33 ∨ 126 < a1), if00]
      exact ⟨_, _, _, rfl, rfl, hI⟩
theorem st_clearText : S_clearText Inv := by
  intro V hI
  obtain ⟨t, t1, t2, t3, t4⟩ := id hI.2.2.2.2.1
  unfold f_X8_clearText f_X9_clearText f_X7_size f_X7_clear
  rw [lib_, lib_, obs, t2]
  refine mk3 ?_
  rw [lib_, lib_, u2_ne (show (112 : Nat) ≠ 101 by omega), t3]
  refine ⟨_, rfl, Inv_bu hI (fun c h1 h2 h3 h4 h5 h6 h7 h8 => by rw [u2_ne h6, u2_ne h1]) ?_ ?_ ⟨0, by omega, ?_, ?_, fun i hi => absurd hi (by omega)⟩⟩
  · rw [u2_n (Or.inr (by omega)), u2_ne (by omega)]
  · rw [u2_n (Or.inr (by omega)), u2_ne (by omega)]
  · rw [u2_ne (by omega), u2_s]; rfl
  · rw [u2_s]; rfl

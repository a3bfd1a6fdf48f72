/-! Pure: the steps that only ask. -/
theorem t10 : ¬ (1 : Int32) = 0 := by decide
theorem t00 : (0 : Int32) = 0 := rfl
theorem Inv.sides {V : Wd} (h : Inv V) : V 106 0 = 0 ∧ V 109 0 = 1 := h.2.2.2.2.2
theorem Inv_fr {V V' : Wd} (h : Inv V) (hc : ∀ c, (c < 101 ∨ c = 102 ∨ (112 < c ∧ c < 117)) → V' c = V c) (h1 : V' 101 1 = V 101 1) (h6 : V' 106 0 = V 106 0) (h9 : V' 109 0 = V 109 0) (m2 : V' 112 2 = V 112 2) (m4 : V' 112 4 = V 112 4) (m6 : V' 112 6 = V 112 6) : Inv V' := by
  obtain ⟨g1, g2, g3, ⟨s, nx, k1, k2, k3, k4, k5, k6⟩, ⟨t, t1, t2, t3, t4⟩, g6⟩ := h
  have e113 := hc 113 (by omega)
  have e115 := hc 115 (by omega)
  have e114 := hc 114 (by omega)
  have e116 := hc 116 (by omega)
  have e102 := hc 102 (by omega)
  have e29 := hc 29 (by omega)
  have e0 := hc 0 (by omega)
  refine ⟨?_, ?_, ?_, ⟨s, nx, k1, k2, ?_, ?_, ?_, ?_⟩, ⟨t, t1, ?_, ?_, ?_⟩, ?_⟩
  · rw [e113]; exact RS_frame (fun c h1 h2 => hc c (by omega)) g1
  · rw [e113]; exact g2
  · rw [e0, m4, e115]
    refine ⟨g3.1, g3.2.imp (fun x => x) (fun x => ⟨x.1, RS_frame (fun c h1 h2 => hc c (by omega)) x.2.1, x.2.2⟩)⟩
  · rw [e29]; exact k3
  · rw [m2]; exact k4
  · rw [e29]; exact k5
  · intro i hi
    rw [e114]
    refine ⟨RS_frame (fun c h1 h2 => hc c (by omega)) (k6 i hi).1, (k6 i hi).2⟩
  · rw [h1]; exact t2
  · rw [m6]; exact t3
  · intro i hi
    rw [e102, e116]
    exact t4 i hi
  · rw [h6, h9]; exact g6
theorem Inv_FR {V V' : Wd} {r : Nat} (h : Inv V) (hr : r = 106 ∨ r = 109) (hf : FR r V V') : Inv V' :=
  Inv_fr h (fun c hc => hf.1 c (by omega) (by omega) (by omega)) (by rw [hf.1 101 (by omega) (by omega) (by omega)]) (by
    rcases hr with rfl | rfl
    · exact hf.2 0 (by decide)
    · rw [hf.1 106 (by omega) (by omega) (by omega)]) (by
    rcases hr with rfl | rfl
    · rw [hf.1 109 (by omega) (by omega) (by omega)]
    · exact hf.2 0 (by decide)) (by rw [hf.1 112 (by omega) (by omega) (by omega)]) (by rw [hf.1 112 (by omega) (by omega) (by omega)]) (by rw [hf.1 112 (by omega) (by omega) (by omega)])
theorem Ir_FR {V V' : Wd} {r : Nat} (h : Inv V) (hr : r = 106 ∨ r = 109) (hf : FR r V V') : Ir V V' := ⟨Inv_FR h hr hf, fun c hc => hf.1 c (by omega) (by omega) (by omega)⟩
theorem in_m {n : Nat} (hn : n < 100000) (x : Int32) : (∃ j, j < n ∧ x = nI j ∧ f_X8_isBelow x (nI n) = 1 ∧ f_X9_in x 0 (nI n - 1) = 1) ∨ (f_X8_isBelow x (nI n) = 0 ∧ f_X9_in x 0 (nI n - 1) = 0) := by
  rcases Nat.eq_zero_or_pos n with rfl | hp
  · refine Or.inr ⟨?_, ?_⟩
    · refine bl_no ?_
      by_cases h : x < 0
      · exact Or.inl h
      · exact Or.inr (nlt_le.mp h)
    · refine in_no ?_
      by_cases h : x < 0
      · exact Or.inl h
      · refine Or.inr ?_
        have e : (nI 0 - 1 : Int32).toInt = -1 := by decide
        rw [I_lt] at h ⊢
        rw [e]
        have e0 : (0 : Int32).toInt = 0 := rfl
        omega
  · rcases in_n hn x hp with ⟨j, h1, h2, h3, h4⟩ | ⟨h1, h2, -⟩
    · refine Or.inl ⟨j, h1, h2, h3, ?_⟩
      rw [L1, pk_sub (by omega)]
      exact h4
    · refine Or.inr ⟨h1, ?_⟩
      rw [L1, pk_sub (by omega)]
      exact h2
theorem c_read {V : Wd} (h : Inv V) {s : Nat} (hs : s < 2) : ∃ r V', (r = 106 ∨ r = 109) ∧ kd r = 8 ∧ f_X8_read V (nI s) = some (r, V') ∧ MG V' r (ML (WM (V 113) (nI s)) (nI s)) ∧ (∀ h, h < 5 → V' (r + 1) h = WM (V 113) (nI s) h) ∧ FR r V V' := by
  obtain ⟨⟨⟨e0, e1, e2, e3, e4⟩, hF, hH, hB, -⟩, hv, -⟩ := id h
  obtain ⟨h6, h9⟩ := h.sides
  rcases (show s = 0 ∨ s = 1 by omega) with rfl | rfl
  · obtain ⟨V', g1, g2, g3, g4⟩ := c_look (r := 106) (by decide) hv.vr hF hH hB (V 1 5) (V 1 6) h6
    refine ⟨106, V', Or.inl rfl, rfl, ?_, ?_, ?_, g4⟩
    · unfold f_X8_read li_ f_X8_readingOf
      rw [if_pos (show nI 0 = 0 from rfl)]
      dsimp only
      rw [if_pos (show kd 106 = 8 from rfl), g1, obs]
    · rw [← e1, ← e2] at g2; exact g2
    · rw [← e1, ← e2] at g3; exact g3
  · obtain ⟨V', g1, g2, g3, g4⟩ := c_look (r := 109) (by decide) hv.vr hF hH hB (V 1 5) (V 1 6) h9
    refine ⟨109, V', Or.inr rfl, rfl, ?_, ?_, ?_, g4⟩
    · unfold f_X8_read li_ f_X8_readingOf
      rw [if_neg (show ¬ nI 1 = 0 by decide)]
      dsimp only
      rw [if_pos (show kd 109 = 8 from rfl), g1, obs]
    · rw [← e1, ← e2] at g2; exact g2
    · rw [← e1, ← e2] at g3; exact g3
theorem st_flag : S_flag := by
  intro V hI a1 a2
  obtain ⟨⟨⟨e0, e1, e2, e3, e4⟩, hF, hH, hB, -⟩, hv, -⟩ := id hI
  unfold f_X8_flag f_X9_flag f_X9_isFlag
  rcases in_n (n := 10) (by decide) a1 (by decide) with ⟨f, hf, rfl, h1, h2⟩ | ⟨h1, h2, -⟩
  · rw [show f_X8_isBelow (nI f) 10 = 1 from h1, show f_X9_in (nI f) 0 9 = 1 from h2, if_neg t10, if_neg t10]
    obtain ⟨f1, f2, f3⟩ := hF f hf
    by_cases q0 : a2 = 0
    · rw [if_pos q0, if_pos q0, q0, m_of0 V hf, c_atHoist 2 V hf, obs, obs]
      exact ⟨_, rfl, by rw [f1]⟩
    · rw [if_neg q0, if_neg q0]
      by_cases q1 : a2 = 1
      · rw [if_pos q1, if_pos q1, q1, m_of1 V hf, c_atFly 2 V hf, obs, obs]
        exact ⟨_, rfl, by rw [f2]⟩
      · rw [if_neg q1, if_neg q1]
        by_cases q2 : a2 = 2
        · rw [if_pos q2, if_pos q2, q2, m_of2 V hf, c_weightOf 2 V hf, obs, obs]
          exact ⟨_, rfl, by rw [f3]⟩
        · rw [if_neg q2, if_neg q2]
          by_cases q3 : a2 = 3
          · rw [if_pos q3, if_pos q3, c_countOf (K := 6) hH hv.vr.sz, obs, zr0, m_used hv.vr.sz, obs]
            exact ⟨_, rfl, by rw [e0]⟩
          · rw [if_neg q3, if_neg q3]
            by_cases q4 : a2 = 4
            · rw [if_pos q4, if_pos q4, c_atFly 2 V hf, c_atHoist 2 V hf, obs, obs, c_firstWith, obs, m_of1 V hf, m_of0 V hf, obs, obs, m_flagWith, obs]
              refine ⟨_, rfl, ?_⟩
              rw [f1, f2]
              exact congrArg some (fw_congr (fun f hf => ⟨(hF f hf).1, (hF f hf).2.1⟩) 10 (by decide))
            · rw [if_neg q4, if_neg q4]
              exact ⟨_, rfl, rfl⟩
  · rw [show f_X8_isBelow a1 10 = 0 from h1, show f_X9_in a1 0 9 = 0 from h2, if_pos t00, if_pos t00]
    exact ⟨_, rfl, rfl⟩
theorem st_sign : S_sign := by
  intro V hI a1 a2 a3
  obtain ⟨⟨⟨e0, e1, e2, e3, e4⟩, hF, hH, hB, -⟩, hv, -⟩ := id hI
  unfold f_X8_sign f_X9_sign
  rcases in_n (n := 5) (by decide) a1 (by decide) with ⟨h, hh, rfl, h1, h2⟩ | ⟨h1, h2, h3⟩
  · obtain ⟨es, h4, hs⟩ := hv.vr.sn hh
    rw [c_has (K := 6) hH hh es h4, m_isPlace hh es, obs, obs]
    rcases place_cases a2 h4 with ⟨p, hp, rfl, hq⟩ | hq
    · rw [hq, if_neg t10, if_neg t10, if_neg t10]
      rw [c_signAt (K := 6) hH hh es h4 hp, m_signOn V hh (by omega), c_flagAt (K := 6) hH hv.vr hh hp, m_flagOn hv.vr hh hp]
      have hf := (FL_ok hv.vr hh hp).2
      simp only [obs]
      rw [c_weightOf 2 V hf, m_droops V hf]
      simp only [obs]
      rw [(hF _ hf).2.2, e1]
      by_cases q0 : a3 = 0
      · rw [if_pos q0, if_pos q0]; exact ⟨_, rfl, rfl⟩
      · rw [if_neg q0, if_neg q0]
        by_cases q1 : a3 = 1
        · rw [if_pos q1, if_pos q1]; exact ⟨_, rfl, rfl⟩
        · rw [if_neg q1, if_neg q1]
          by_cases q2 : a3 = 2
          · rw [if_pos q2, if_pos q2]
            by_cases q : V (2 + 3) (FN (V 113) h p) ≤ V 1 5
            · rw [if_pos q, if_pos q, if_pos t00]; exact ⟨_, rfl, rfl⟩
            · rw [if_neg q, if_neg q, if_neg t10]; exact ⟨_, rfl, rfl⟩
          · rw [if_neg q2, if_neg q2]; exact ⟨_, rfl, rfl⟩
    · rw [hq, if_pos t00, if_pos t00, if_pos t00]
      exact ⟨_, rfl, rfl⟩
  · rw [c_has_no h3, m_isPlace_no h2, obs, obs, if_pos t00, if_pos t00]
    exact ⟨_, rfl, rfl⟩
theorem st_entry : S_entry := by
  intro V hI a1 a2
  obtain ⟨⟨⟨e0, e1, e2, e3, e4⟩, hF, hH, hB, -⟩, hv, -⟩ := id hI
  obtain ⟨e5, h12, -⟩ := hv.vr.en
  unfold f_X8_entry f_X9_entry f_X9_isEntry f_X0_size
  rw [← hB.1, zr5, e5]
  rcases in_m (n := en (V 113)) (by omega) a1 with ⟨e, he, rfl, h1, h2⟩ | ⟨h1, h2⟩
  · obtain ⟨b1, b2⟩ := hB.2 e (by omega) (by rw [e5, nJ_lt (by omega) (by omega)]; exact he)
    rw [h1, h2, if_neg t10, if_pos (Or.inr rfl), obs, if_neg t10, m_codeOf V (by omega), m_wordOf V (by omega), obs, obs]
    unfold f_X0_flagsAt f_X0_wordAt
    rw [bl_y (n := 12) (x := 12) rfl (by omega) (by decide), if_neg t10, if_neg t10, rdb (n := e) rfl (by omega) (by decide), rdb (n := e) rfl (by omega) (by decide), obs, obs]
    by_cases q0 : a2 = 0
    · rw [if_pos q0, if_pos q0]
      exact ⟨_, rfl, congrArg some b1⟩
    · rw [if_neg q0, if_neg q0]
      by_cases q1 : a2 = 1
      · rw [if_pos q1, if_pos q1]
        exact ⟨_, rfl, congrArg some b2⟩
      · rw [if_neg q1, if_neg q1]
        exact ⟨_, rfl, rfl⟩
  · rw [h1, h2, if_pos t00, if_pos (Or.inl rfl), obs, if_pos t00]
    exact ⟨_, rfl, rfl⟩
theorem st_seen : S_seen := by
  intro V hI a1 a2 a3
  obtain ⟨⟨⟨e0, e1, e2, e3, e4⟩, hF, hH, hB, -⟩, hv, -⟩ := id hI
  unfold f_X8_seen f_X9_seen f_X9_isSide
  rcases in_n (n := 2) (by decide) a1 (by decide) with ⟨s, hs, rfl, h1, h2⟩ | ⟨h1, h2, -⟩
  · rw [show f_X8_isBelow (nI s) 2 = 1 from h1, show f_X9_in (nI s) 0 1 = 1 from h2, if_neg t10, if_neg t10]
    rcases in_n (n := 5) (by decide) a2 (by decide) with ⟨h, hh, rfl, h1, h2⟩ | ⟨h1, h2, h3⟩
    · obtain ⟨es, h4, hsg⟩ := hv.vr.sn hh
      rw [c_has (K := 6) hH hh es h4, m_isPlace hh es, obs, obs]
      rcases place_cases a3 h4 with ⟨p, hp, rfl, hq⟩ | hq
      · rw [hq, if_neg t10, if_neg t10, if_neg t10]
        have hf := (FL_ok hv.vr hh hp).2
        rw [c_flagAt (K := 6) hH hv.vr hh hp, m_flagOn hv.vr hh hp, obs, obs, c_takenFor 2 V hf, m_taken V hf, obs, obs]
        refine ⟨_, rfl, congrArg some ?_⟩
        unfold f_X8_isHoistFirst
        rw [← e1, ← e2]
        exact tk_congr hf (fun f hf => hF f hf)
      · rw [hq, if_pos t00, if_pos t00, if_pos t00]
        exact ⟨_, rfl, rfl⟩
    · rw [c_has_no h3, m_isPlace_no h2, obs, obs, if_pos t00, if_pos t00]
      exact ⟨_, rfl, rfl⟩
  · rw [show f_X8_isBelow a1 2 = 0 from h1, show f_X9_in a1 0 1 = 0 from h2, if_pos t00, if_pos t00]
    exact ⟨_, rfl, rfl⟩
/-- both readings, one behind the other -/
theorem c_read2 {V : Wd} (h : Inv V) : ∃ V1 V2, f_X8_read V 0 = some (106, V1) ∧ f_X8_read V1 1 = some (109, V2) ∧ MG V2 106 (ML (WM (V 113) 0) 0) ∧ MG V2 109 (ML (WM (V 113) 1) 1) ∧ (∀ h, h < 5 → V2 107 h = WM (V 113) 0 h) ∧ (∀ h, h < 5 → V2 110 h = WM (V 113) 1 h) ∧ Ir V V2 ∧ V2 113 = V 113 := by
  obtain ⟨r, V1, hr, hk, g1, g2, g3, g4⟩ := c_read h (s := 0) (by decide)
  have hI1 := Inv_FR h hr g4
  have er : r = 106 := by
    unfold f_X8_read li_ f_X8_readingOf at g1
    rw [if_pos (show nI 0 = 0 from rfl)] at g1
    dsimp only at g1
    rw [if_pos (show kd 106 = 8 from rfl)] at g1
    obtain ⟨y, -, h2⟩ := ob_ g1
    cases h2
    rfl
  subst er
  obtain ⟨r2, V2, hr2, hk2, k1, k2, k3, k4⟩ := c_read hI1 (s := 1) (by decide)
  have er2 : r2 = 109 := by
    unfold f_X8_read li_ f_X8_readingOf at k1
    rw [if_neg (show ¬ nI 1 = 0 by decide)] at k1
    dsimp only at k1
    rw [if_pos (show kd 109 = 8 from rfl)] at k1
    obtain ⟨y, -, h2⟩ := ob_ k1
    cases h2
    rfl
  subst er2
  have e1 : V1 113 = V 113 := g4.1 113 (by omega) (by omega) (by omega)
  rw [e1] at k2 k3
  refine ⟨V1, V2, g1, k1, ?_, k2, ?_, k3, (Ir_FR h hr g4).tr (Ir_FR hI1 hr2 k4), ?_⟩
  · unfold MG at g2 ⊢
    rw [k4.1 106 (by omega) (by omega) (by omega), k4.1 (106 + 2) (by omega) (by omega) (by omega)]
    exact g2
  · intro h hh
    rw [k4.1 107 (by omega) (by omega) (by omega)]
    exact g3 h hh
  · rw [k4.1 113 (by omega) (by omega) (by omega), e1]
theorem ag_B (l m : List Int32) : isB (ag l m) := by
  unfold ag
  split
  · exact Or.inr rfl
  · exact Or.inl rfl
theorem c_word {V : Wd} (hI : Inv V) {s : Nat} (hs : s < 2) (i : Nat) (hi : i < 1000) : ∃ V', f_X8_word V (nI s) (nI i) = some (if i < (ML (WM (V 113) (nI s)) (nI s)).length then (ML (WM (V 113) (nI s)) (nI s)).getD i (-6) else -1, V') ∧ Ir V V' := by
  unfold f_X8_word
  obtain ⟨r, V', hr, hk, g1, g2, -, g4⟩ := c_read hI hs
  have h5 := g2.2.1
  rw [show f_X8_isBelow (nI s) 2 = 1 from bl_y (n := 2) (x := 2) rfl hs (by decide), if_neg t10, g1, obs]
  have hI' := Ir_FR hI hr g4
  have hz : f_X5_size r V' = nI (ML (WM (V 113) (nI s)) (nI s)).length := g2.1
  show ∃ V1, (if kd r = 8 then (if f_X8_isBelow (nI i) (f_X5_size r V') = 0 then some (-1, V') else (f_X5_wordAt r V' (nI i)).bind fun y3 => some (y3, V')) else none) = some (_, V1) ∧ _
  rw [if_pos hk, hz]
  by_cases q : i < (ML (WM (V 113) (nI s)) (nI s)).length
  · rw [if_pos q, bl_yes q (by omega), if_neg t10]
    unfold f_X5_wordAt
    rw [bl_y (n := 5) (x := 5) rfl (by omega) (by decide), if_neg t10, rdb (n := i) rfl (by omega) (by decide), obs]
    refine ⟨V', ?_, hI'⟩
    rw [List.getD_eq_getElem?_getD, g2.2.2 i q]
    rfl
  · rw [if_neg q, bl_no (Or.inr (by rw [nJ_le (by omega) (by omega)]; omega)), if_pos t00]
    exact ⟨V', rfl, hI'⟩
theorem c_known {V : Wd} (hI : Inv V) {s : Nat} (hs : s < 2) : ∃ V', f_X8_known V (nI s) = some (nI (kn (ML (WM (V 113) (nI s)) (nI s))), V') ∧ Ir V V' := by
  unfold f_X8_known
  obtain ⟨r, V', hr, hk, g1, g2, -, g4⟩ := c_read hI hs
  rw [show f_X8_isBelow (nI s) 2 = 1 from bl_y (n := 2) (x := 2) rfl hs (by decide), if_neg t10, g1, obs]
  dsimp only
  rw [if_pos hk, c_countKnown g2, obs]
  exact ⟨V', rfl, Ir_FR hI hr g4⟩
theorem c_isSame {V : Wd} (hI : Inv V) : ∃ V', f_X8_isSame V = some (ag (ML (WM (V 113) 0) 0) (ML (WM (V 113) 1) 1), V') ∧ Ir V V' := by
  obtain ⟨V1, V2, g1, g2, g3, g4, -, -, hI2, e3⟩ := c_read2 hI
  unfold f_X8_isSame
  rw [g1, obs]
  dsimp only
  rw [if_pos (show kd 106 = 8 from rfl), g2, obs]
  dsimp only
  rw [if_pos (show kd 109 = 8 from rfl), c_agrees g3 g4, obs]
  refine ⟨V2, ?_, hI2⟩
  rcases ag_B (ML (WM (V 113) 0) 0) (ML (WM (V 113) 1) 1) with e | e
  · rw [e, if_pos t00]
  · rw [e, if_neg t10]

/-! Pure: bend, unbend, exchange. -/
theorem nI_nm1 {j : Nat} (h : j < 1000) : nI j ≠ -1 := fun e => by
  have h1 := nJ_tI (n := j) (by omega)
  rw [e] at h1
  have h2 : (-1 : Int32).toInt = -1 := by decide
  omega
theorem cnA_add {z z' : Nat → Int32} {x2 : Int32} {h n : Nat} (hz : SZ z) (e : zS z h = nI n) (hn : n < 4) (e' : zS z' h = nI (n + 1)) (eg : zG z' h n = x2) (egs : ∀ p, p < n → zG z' h p = zG z h p) (hS : ∀ k, k < 5 → k ≠ h → zS z' k = zS z k) (hG : ∀ k p, k < 5 → k ≠ h → p < 4 → zG z' k p = zG z k p) (x : Int32) : ∀ m, m ≤ 5 → cnA z' x m = cnA z x m + (if h < m ∧ x2 = x then 1 else 0)
  | 0, _ => by rw [if_neg (by omega)]; rfl
  | m + 1, hm => by
    have ih := cnA_add hz e hn e' eg egs hS hG x m (by omega)
    rw [cnA, cnA, ih]
    by_cases q : m = h
    · subst q
      have e1 : cnH (zG z' m) x (n + 1) = if zG z' m n = x then cnH (zG z' m) x n + 1 else cnH (zG z' m) x n := rfl
      have e2 : cnH (zG z' m) x n = cnH (zG z m) x n := cw_congr (fun p hp => by rw [egs p hp])
      rw [e', e, nI_clamp (by omega), nI_clamp (by omega), e1, e2, eg]
      by_cases q2 : x2 = x
      · have a1 : ¬(m < m ∧ x2 = x) := fun h => absurd h.1 (by omega)
        have a2 : m < m + 1 ∧ x2 = x := ⟨by omega, q2⟩
        rw [if_pos q2, if_neg a1, if_pos a2]
        omega
      · have a1 : ¬(m < m ∧ x2 = x) := fun h => q2 h.2
        have a2 : ¬(m < m + 1 ∧ x2 = x) := fun h => q2 h.2
        rw [if_neg q2, if_neg a1, if_neg a2]
        rfl
    · have hs := (hz m (by omega)).2
      have e2 : cnH (zG z' m) x (sn z m) = cnH (zG z m) x (sn z m) := cw_congr (fun p hp => by rw [hG m p (by omega) q (by omega)])
      rw [hS m (by omega) q]
      unfold sn at e2
      rw [e2]
      by_cases q3 : h < m ∧ x2 = x
      · have a2 : h < m + 1 ∧ x2 = x := ⟨by omega, q3.2⟩
        rw [if_pos q3, if_pos a2]
        omega
      · have a2 : ¬(h < m + 1 ∧ x2 = x) := fun h => q3 ⟨by omega, h.2⟩
        rw [if_neg q3, if_neg a2]
        rfl
theorem sign_cases (x : Int32) : (∃ s, x = nI s ∧ (s < 10 ∨ (11 ≤ s ∧ s ≤ 13)) ∧ f_X8_isSign x = 1 ∧ f_X9_isSign x = 1) ∨ (f_X8_isSign x = 0 ∧ f_X9_isSign x = 0) := by
  rcases tri x (n := 14) (by omega) with ⟨j, hj, rfl⟩ | h
  · rcases (show j < 10 ∨ j = 10 ∨ j = 11 ∨ j = 12 ∨ j = 13 by omega) with q | rfl | rfl | rfl | rfl
    · refine Or.inl ⟨j, rfl, Or.inl q, ?_, ?_⟩
      · unfold f_X8_isSign
        rw [bl_y (n := 10) (x := 10) rfl q (by omega), if10]
      · unfold f_X9_isSign f_X9_isFlag
        rw [in_yes (nI_pos' (by omega)) (by rw [show (9 : Int32) = nI 9 from rfl, nJ_le (by omega) (by omega)]; omega), if10]
    · exact Or.inr ⟨by decide, by decide⟩
    · exact Or.inl ⟨11, rfl, Or.inr ⟨by omega, by omega⟩, by decide, by decide⟩
    · exact Or.inl ⟨12, rfl, Or.inr ⟨by omega, by omega⟩, by decide, by decide⟩
    · exact Or.inl ⟨13, rfl, Or.inr ⟨by omega, by omega⟩, by decide, by decide⟩
  · have hl : x < 0 ∨ (13 : Int32) < x := by
      rcases h with h | h
      · exact Or.inl h
      · refine Or.inr ?_
        have h1 := nJ_tI (n := 14) (by omega)
        rw [I_le, h1] at h
        rw [I_lt, show (13 : Int32).toInt = 13 from rfl]
        omega
    have i0 : (0 : Int32).toInt = 0 := rfl
    have i9 : (9 : Int32).toInt = 9 := rfl
    have i10 : (10 : Int32).toInt = 10 := rfl
    have i11 : (11 : Int32).toInt = 11 := rfl
    have i13 : (13 : Int32).toInt = 13 := rfl
    refine Or.inr ⟨?_, ?_⟩
    · unfold f_X8_isSign
      have hb : f_X8_isBelow x 10 = 0 := bl_no (n := 10) (by
        have h1 := nJ_tI (n := 10) (by omega)
        rw [I_lt, I_le, h1]
        rw [I_lt, I_lt] at hl
        omega)
      rw [hb, if00]
      by_cases q : x ≤ 10
      · rw [if_pos q]
      · rw [if_neg q, if_pos]
        rw [I_le] at q
        rw [I_lt, I_lt] at hl
        rw [I_lt]
        omega
    · unfold f_X9_isSign f_X9_isFlag
      rw [in_no (show x < 0 ∨ (9 : Int32) < x by rw [I_lt, I_lt] at hl ⊢; omega), if00, in_no (show x < 11 ∨ (13 : Int32) < x by rw [I_lt, I_lt] at hl ⊢; omega), if00]
theorem st_bd {V : Wd} (hI : Inv V) {h n s : Nat} (hh : h < 5) (e : zS (V 113) h = nI n) (hn : n ≤ 4) (hs : s ≤ 13) (hsg : SG (nI s) n) : ∃ r V1 V2, f_X8_bend_46 (nI h) (nI s) V (nI n) = some (r, V1) ∧ f_X9_bend_37 (nI h) (nI s) V1 = some (r, V2) ∧ Iv V V1 V2 ∧ V1 113 = V 113 := by
  have hv := hI.2.1
  have hsz := hv.vr.sz
  have e0 := hI.e.1
  have hH : HS V 6 (V 113) := hI.1.2.2.1
  unfold f_X8_bend_46
  by_cases q4 : n = 4
  · subst q4
    rw [if_pos (by decide)]
    refine ⟨_, V, V, rfl, ?_, Iv.rf hI, rfl⟩
    unfold f_X9_bend_37
    rw [m_many V hh, obs, e, if_pos (show nI 4 = 4 from rfl)]
  · have q4' : ¬ (4 : Int32) ≤ nI n := by rw [L4, nJ_le (by omega) (by omega)]; omega
    have q4n : ¬ nI n = 4 := by rw [L4, nJ_eq (by omega) (by omega)]; exact q4
    rw [if_neg q4', c_countOf (K := 6) hH hsz, obs, ← e0]
    have hcn := hv.c s hs
    have hc20 := cnA_le hsz (nI s) 5 (by omega)
    by_cases qc : nI (cnA (V 113) (nI s) 5) = V 113 0
    · rw [if_neg (by rw [qc, I_lt]; omega)]
      refine ⟨_, V, V, rfl, ?_, Iv.rf hI, rfl⟩
      unfold f_X9_bend_37
      rw [m_many V hh, obs, e, if_neg q4n, m_used hsz, obs, zr0, if_pos qc]
    · have hlt : nI (cnA (V 113) (nI s) 5) < V 113 0 := by
        rw [I_lt]
        rw [I_le] at hcn
        by_cases q : (nI (cnA (V 113) (nI s) 5)).toInt < (V 113 0).toInt
        · exact q
        · exact absurd (Int32.toInt_inj.mp (by omega)) qc
      rw [if_pos hlt]
      obtain ⟨s', nx, V0, V1, hx, hc, g1, g2, g3⟩ := c_step hI
      have eS : zS (upd (V 113) 4 0) h = nI n := by
        show upd (V 113) 4 0 (38 + 5 * h) = nI n
        rw [pk_un (by omega)]
        exact e
      have gH : HS V1 6 (upd (V 113) 4 0) := g3.2.2.1
      have e8 : V1 8 h = nI n := by rw [← eS]; exact (gH h hh).1.symm
      have ei : nI h * 4 + nI n = nI (4 * h + n) := by simp only [L4, pk_mul, nI_add, Nat.mul_comm]
      rw [g1, obs]
      unfold f_X3_add
      rw [bl_y (n := 5) (x := 5) rfl hh (by omega), if10, rdb (n := h) rfl hh (by omega), show V1 (6 + 2) h = nI n from e8, bl_y (n := 4) (x := 4) rfl (by omega) (by omega), if10, rdb (n := h) rfl hh (by omega), show V1 (6 + 2) h = nI n from e8, st_e ei (by omega) (by omega), rdb (n := h) rfl hh (by omega), u2_ne (show 6 + 2 ≠ 6 + 1 by omega), show V1 (6 + 2) h = nI n from e8, n1, st_n hh (by omega), obs]
      obtain ⟨V2, hV2⟩ : ∃ V2, u2 (u2 V1 (6 + 1) (4 * h + n) (nI s)) (6 + 2) h (nI (n + 1)) = V2 := ⟨_, rfl⟩
      rw [hV2]
      have hfr : ∀ c, c ≠ 7 → c ≠ 8 → V2 c = V1 c := fun c h1 h2 => by rw [← hV2, u2_ne h2, u2_ne h1]
      obtain ⟨W0, W, m1, m2, m3, m4⟩ := m_step hx hc (V2 := V2) (fun c hc => by rw [hfr c (by omega) (by omega), g2 c (by omega)])
      have e113 : V2 113 = V 113 := by rw [hfr 113 (by omega) (by omega), g2 113 (by omega), hc.1 113 (by omega)]
      have em : (38 : Int32) + 5 * nI h = nI (38 + 5 * h) := by simp only [L38, L5, pk_mul, nI_add]
      have em2 : nI (38 + 5 * h) + nI (n + 1) = nI (39 + 5 * h + n) := by rw [nI_add]; congr 1; omega
      obtain ⟨V3, hV3⟩ : ∃ V3, u2 (u2 W 113 (38 + 5 * h) (nI (n + 1))) 113 (39 + 5 * h + n) (nI s) = V3 := ⟨_, rfl⟩
      have hz3 : V3 113 = upd (upd (upd (V 113) 4 0) (38 + 5 * h) (nI (n + 1))) (39 + 5 * h + n) (nI s) := by rw [← hV3, u2_at, u2_at, m3]
      have hzo : ∀ j, j ≠ 4 → j ≠ 38 + 5 * h → j ≠ 39 + 5 * h + n → V3 113 j = V 113 j := fun j h1 h2 h3 => by rw [hz3, pk_un h3, pk_un h2, pk_un h1]
      have hzu : ∀ j, j ≠ 38 + 5 * h → j ≠ 39 + 5 * h + n → V3 113 j = upd (V 113) 4 0 j := fun j h2 h3 => by rw [hz3, pk_un h3, pk_un h2]
      have zSh : zS (V3 113) h = nI (n + 1) := by
        show V3 113 (38 + 5 * h) = _
        rw [hz3, pk_un (by omega), pk_us]
      have zGn : zG (V3 113) h n = nI s := by
        show V3 113 (39 + 5 * h + n) = _
        rw [hz3, pk_us]
      have zGp : ∀ p, p < n → zG (V3 113) h p = zG (V 113) h p := fun p hp => hzo _ (by omega) (by omega) (by omega)
      have zSk : ∀ k, k < 5 → k ≠ h → zS (V3 113) k = zS (V 113) k := fun k _ hk => hzo _ (by omega) (by omega) (by omega)
      have zGk : ∀ k p, k < 5 → k ≠ h → p < 4 → zG (V3 113) k p = zG (V 113) k p := fun k p _ hk hp => hzo _ (by omega) (by omega) (by omega)
      refine ⟨_, V2, V3, rfl, ?_, ?_, e113⟩
      · unfold f_X9_bend_37
        rw [m_many V2 hh, obs, e113, e, if_neg q4n, m_used (by rw [e113]; exact hsz), obs, e113, zr0, if_neg qc, m1, obs]
        unfold f_X9_putOn
        rw [em, rdb (n := 38 + 5 * h) rfl (by omega) (by omega), m3, show upd (V 113) 4 0 (38 + 5 * h) = nI n from eS, n1, st_n (by omega) (by omega), m_many _ hh, obs]
        have e5 : zS (u2 W 113 (38 + 5 * h) (nI (n + 1)) 113) h = nI (n + 1) := by
          show u2 W 113 (38 + 5 * h) (nI (n + 1)) 113 (38 + 5 * h) = _
          rw [u2_s]
        rw [e5, em2, st_n (by omega) (by omega), obs, hV3, m_many V3 hh, obs, zSh]
      · obtain ⟨i, pF, pH, pB, pL⟩ := g3
        refine Inv_st hI hx hc g2 (V2 := V2) (z' := V3 113) (fun c hc => hfr c (by omega) (by omega)) ⟨?_, FS_z (fun j h1 _ => hzu j (by omega) (by omega)) (FS_fr (hfr _ (by omega) (by omega)) (hfr _ (by omega) (by omega)) (hfr _ (by omega) (by omega)) pF), fun k hk => ?_, BS_z (hzu 5 (by omega) (by omega)) (fun j h _ => hzu j (by omega) (by omega)) (BS_fr (by rw [hfr _ (by omega) (by omega)]) (hfr _ (by omega) (by omega)) (hfr _ (by omega) (by omega)) pB), LGS_z (hzu 6 (by omega) (by omega)) (hzu 7 (by omega) (by omega)) (fun j h => hzu j (by omega) (by omega)) (LGS_fr (by rw [hfr _ (by omega) (by omega)]) (by rw [hfr _ (by omega) (by omega)]) (hfr _ (by omega) (by omega)) (hfr _ (by omega) (by omega)) pL)⟩ m2 m4 (fun c hc => by rw [← hV3, u2_ne hc, u2_ne hc]) rfl (VZ_mk ?_ ?_ (Vb_z (hzo 5 (by omega) (by omega) (by omega)) (fun j h _ => hzo j (by omega) (by omega) (by omega)) hv.b) (Vl_z (hzo 6 (by omega) (by omega) (by omega)) (fun j h => hzo j (by omega) (by omega) (by omega)) hv.l) (fun k hk => ?_) (fun x hx => ?_))
        · rw [hzu 0 (by omega) (by omega), hzu 1 (by omega) (by omega), hzu 2 (by omega) (by omega), hzu 3 (by omega) (by omega), hzu 4 (by omega) (by omega), hfr 1 (by omega) (by omega)]
          exact i
        · rw [← hV2]
          by_cases qk : k = h
          · subst qk
            refine ⟨by rw [zSh, u2_s], fun p hp hq => ?_⟩
            rw [zSh, nJ_lt (by omega) (by omega)] at hq
            rw [u2_ne (by omega)]
            by_cases qp : p = n
            · subst qp
              rw [zGn, u2_s]
            · rw [zGp p (by omega), u2_n (Or.inr (by omega))]
              have h1 := (gH k hh).2 p hp (by rw [eS, nJ_lt (by omega) (by omega)]; omega)
              have h2 : zG (upd (V 113) 4 0) k p = zG (V 113) k p := pk_un (by omega)
              rw [← h2]
              exact h1
          · have h3 : zS (upd (V 113) 4 0) k = zS (V 113) k := pk_un (by omega)
            refine ⟨?_, fun p hp hq => ?_⟩
            · rw [zSk k hk qk, u2_n (Or.inr qk), u2_ne (by omega), ← h3]
              exact (gH k hk).1
            · rw [zSk k hk qk] at hq
              rw [zGk k p hk qk hp, u2_ne (by omega), u2_n (Or.inr (by omega))]
              have h2 : zG (upd (V 113) 4 0) k p = zG (V 113) k p := pk_un (by omega)
              rw [← h2]
              exact (gH k hk).2 p hp (by rw [h3]; exact hq)
        · rw [hzo 3 (by omega) (by omega) (by omega)]; exact hv.1
        · rw [hzu 4 (by omega) (by omega), pk_us]
        · by_cases qk : k = h
          · subst qk
            refine ⟨n + 1, by omega, zSh, fun p hp => ?_⟩
            by_cases qp : p = n
            · subst qp
              rw [zGn]; exact hsg
            · rw [zGp p (by omega)]
              obtain ⟨n', w1, w2, w3⟩ := hv.h k hk
              rw [e, nJ_eq (by omega) (by omega)] at w2
              exact w3 p (by omega)
          · obtain ⟨n', w1, w2, w3⟩ := hv.h k hk
            refine ⟨n', w1, by rw [zSk k hk qk]; exact w2, fun p hp => ?_⟩
            rw [zGk k p hk qk (by omega)]
            exact w3 p hp
        · rw [cnA_add hsz e (by omega) zSh zGn zGp zSk zGk (nI x) 5 (by omega), hzo 0 (by omega) (by omega) (by omega)]
          have hx1 := hv.c x hx
          by_cases qx : nI s = nI x
          · have a2 : h < 5 ∧ nI s = nI x := ⟨hh, qx⟩
            rw [if_pos a2]
            rw [← qx]
            rw [I_lt, nJ_tI (by omega)] at hlt
            rw [I_le, nJ_tI (by omega)]
            omega
          · have a2 : ¬(h < 5 ∧ nI s = nI x) := fun h => qx h.2
            rw [if_neg a2]
            exact hx1
theorem st_bend : S_bend := by
  intro V hI a1 a2
  unfold f_X8_bend f_X9_bend f_X9_isHalyard
  have hH : HS V 6 (V 113) := hI.1.2.2.1
  rcases in_n (n := 5) (by omega) a1 (by omega) with ⟨h, hh, rfl, h1, h2⟩ | ⟨h1, h2, -⟩
  · simp only [show f_X8_isBelow (nI h) 5 = 1 from h1, show f_X9_in (nI h) 0 4 = 1 from h2, if10]
    rcases sign_cases a2 with ⟨s, rfl, hs, k1, k2⟩ | ⟨k1, k2⟩
    · simp only [k1, k2, if10]
      obtain ⟨n, hn, e, hsg⟩ := hI.2.1.h h hh
      rw [c_sizeOf (K := 6) hH hh, obs, e]
      by_cases q10 : nI s ≤ 10
      · simp only [if_pos q10]
        rw [L10, nJ_le (by omega) (by omega)] at q10
        obtain ⟨r, V1, V2, b1, b2, b3, -⟩ := st_bd hI hh e hn (s := s) (by omega) (Or.inl ⟨s, by omega, rfl⟩)
        exact ⟨r, V1, V2, b1, b2, b3⟩
      · simp only [if_neg q10]
        rw [L10, nJ_le (by omega) (by omega)] at q10
        have e10 : nI s - 10 = nI (s - 10) := by rw [L10, pk_sub (by omega)]
        simp only [e10]
        by_cases qn : nI (s - 10) ≤ nI n
        · rw [if_pos qn]
          have qn' := qn
          rw [nJ_le (by omega) (by omega)] at qn'
          obtain ⟨r, V1, V2, b1, b2, b3, b4⟩ := st_bd hI hh e hn (s := s) (by omega) (Or.inr ⟨s - 10, by omega, by omega, by omega, by congr 1; omega⟩)
          rw [b1]
          refine mk3 ?_
          rw [m_many V1 hh, obs, b4, e, if_pos qn]
          exact ⟨V2, b2, b3⟩
        · rw [if_neg qn]
          refine mk3 ?_
          rw [m_many V hh, obs, e, if_neg qn]
          exact ⟨_, rfl, Iv.rf hI⟩
    · simp only [k1, k2, if00]
      exact ⟨_, _, _, rfl, rfl, Iv.rf hI⟩
  · simp only [show f_X8_isBelow a1 5 = 0 from h1, show f_X9_in a1 0 4 = 0 from h2, if00]
    exact ⟨_, _, _, rfl, rfl, Iv.rf hI⟩
theorem st_unbend : S_unbend := by
  intro V hI a1
  unfold f_X8_unbend f_X9_unbend f_X9_isHalyard
  have hv := hI.2.1
  have hsz := hv.vr.sz
  have hH : HS V 6 (V 113) := hI.1.2.2.1
  rcases in_n (n := 5) (by omega) a1 (by omega) with ⟨h, hh, rfl, h1, h2⟩ | ⟨h1, h2, -⟩
  · simp only [show f_X8_isBelow (nI h) 5 = 1 from h1, show f_X9_in (nI h) 0 4 = 1 from h2, if10]
    obtain ⟨n, hn, e, hsg⟩ := hv.h h hh
    rw [c_sizeOf (K := 6) hH hh, obs, e]
    by_cases q0 : nI n = 0
    · rw [if_pos q0]
      refine mk3 ?_
      rw [m_many V hh, obs, e, if_pos q0]
      exact ⟨_, rfl, Iv.rf hI⟩
    · rw [if_neg q0]
      have q0' := q0
      rw [L0, nJ_eq (by omega) (by omega)] at q0'
      obtain ⟨m, rfl⟩ : ∃ m, n = m + 1 := ⟨n - 1, by omega⟩
      obtain ⟨s', nx, V0, V1, hx, hc, g1, g2, g3⟩ := c_step hI
      have eS : zS (upd (V 113) 4 0) h = nI (m + 1) := by
        show upd (V 113) 4 0 (38 + 5 * h) = nI (m + 1)
        rw [pk_un (by omega)]
        exact e
      have gH : HS V1 6 (upd (V 113) 4 0) := g3.2.2.1
      have e8 : V1 8 h = nI (m + 1) := by rw [← eS]; exact (gH h hh).1.symm
      have eG : zG (upd (V 113) 4 0) h m = zG (V 113) h m := pk_un (by omega)
      have hne : zG (V 113) h m ≠ -1 := by
        rcases hsg m (by omega) with ⟨f, hf, e⟩ | ⟨q, w1, w2, w3, e⟩ <;> rw [e] <;> exact nI_nm1 (by omega)
      rw [g1, obs]
      unfold f_X3_removeLowest
      have hin : f_X9_in (nI (m + 1)) 1 (nI (m + 1)) = 1 := in_yes (by rw [L1, nJ_le (by omega) (by omega)]; omega) (by rw [nJ_le (by omega) (by omega)]; omega)
      have e20 : nI h * 4 + nI (m + 1) - 1 = nI (4 * h + m) := by rw [L4, pk_mul, nI_add, show h * 4 + (m + 1) = (4 * h + m) + 1 by omega, ns1]
      have eV : V1 (6 + 1) (4 * h + m) = zG (V 113) h m := by rw [← eG]; exact ((gH h hh).2 m (by omega) (by rw [eS, nJ_lt (by omega) (by omega)]; omega)).symm
      rw [c_sizeOf (K := 6) gH hh, obs, eS, c_has (K := 6) gH hh eS hn, obs, hin, if_neg t10, if_neg t10, rdb (n := h) rfl hh (by omega), show V1 (6 + 2) h = nI (m + 1) from e8, ns1, st_n hh (by omega), e20, rdb (n := 4 * h + m) rfl (by omega) (by omega), u2_ne (show (6 + 1 : Nat) ≠ 6 + 2 by omega), eV, obs]
      refine mk3 ?_
      dsimp only
      obtain ⟨V2, hV2⟩ : ∃ V2, u2 V1 (6 + 2) h (nI m) = V2 := ⟨_, rfl⟩
      rw [hV2]
      have hfr : ∀ c, c ≠ 8 → V2 c = V1 c := fun c h2 => by rw [← hV2, u2_ne h2]
      obtain ⟨W0, W, m1, m2, m3, m4⟩ := m_step hx hc (V2 := V2) (fun c hc => by rw [hfr c (by omega), g2 c (by omega)])
      have e113 : V2 113 = V 113 := by rw [hfr 113 (by omega), g2 113 (by omega), hc.1 113 (by omega)]
      have em : (38 : Int32) + 5 * nI h = nI (38 + 5 * h) := by simp only [L38, L5, pk_mul, nI_add]
      obtain ⟨V3, hV3⟩ : ∃ V3, u2 W 113 (38 + 5 * h) (nI m) = V3 := ⟨_, rfl⟩
      have hz3 : V3 113 = upd (upd (V 113) 4 0) (38 + 5 * h) (nI m) := by rw [← hV3, u2_at, m3]
      have hzo : ∀ j, j ≠ 4 → j ≠ 38 + 5 * h → V3 113 j = V 113 j := fun j h1 h2 => by rw [hz3, pk_un h2, pk_un h1]
      have hzu : ∀ j, j ≠ 38 + 5 * h → V3 113 j = upd (V 113) 4 0 j := fun j h2 => by rw [hz3, pk_un h2]
      have zSh : zS (V3 113) h = nI m := by
        show V3 113 (38 + 5 * h) = _
        rw [hz3, pk_us]
      have zGa : ∀ k p, k < 5 → p < 4 → zG (V3 113) k p = zG (V 113) k p := fun k p _ hp => hzo _ (by omega) (by omega)
      have zSk : ∀ k, k < 5 → k ≠ h → zS (V3 113) k = zS (V 113) k := fun k _ hk => hzo _ (by omega) (by omega)
      have hsz3 : SZ (V3 113) := fun k hk => by
        by_cases qk : k = h
        · subst qk
          have e1 : sn (V3 113) k = m := by unfold sn; rw [zSh, nI_clamp (by omega)]
          rw [e1]
          exact ⟨zSh, by omega⟩
        · have e1 : sn (V3 113) k = sn (V 113) k := by unfold sn; rw [zSk k hk qk]
          rw [e1, zSk k hk qk]
          exact hsz k hk
      rw [m_many V2 hh, obs, e113, e, if_neg q0, m1, obs, em, rdb (n := 38 + 5 * h) rfl (by omega) (by omega), m3, show upd (V 113) 4 0 (38 + 5 * h) = nI (m + 1) from eS, ns1, st_n (by omega) (by omega), hV3, m_many V3 hh, obs, zSh, n1, m_signOn V3 hh (by omega), obs, zGa h m hh (by omega)]
      refine ⟨V3, rfl, ?_⟩
      obtain ⟨i, pF, pH, pB, pL⟩ := g3
      refine Inv_st hI hx hc g2 (V2 := V2) (z' := V3 113) (fun c hc => hfr c (by omega)) ⟨?_, FS_z (fun j h1 _ => hzu j (by omega)) (FS_fr (hfr _ (by omega)) (hfr _ (by omega)) (hfr _ (by omega)) pF), fun k hk => ?_, BS_z (hzu 5 (by omega)) (fun j h _ => hzu j (by omega)) (BS_fr (by rw [hfr _ (by omega)]) (hfr _ (by omega)) (hfr _ (by omega)) pB), LGS_z (hzu 6 (by omega)) (hzu 7 (by omega)) (fun j h => hzu j (by omega)) (LGS_fr (by rw [hfr _ (by omega)]) (by rw [hfr _ (by omega)]) (hfr _ (by omega)) (hfr _ (by omega)) pL)⟩ m2 m4 (fun c hc => by rw [← hV3, u2_ne hc]) rfl (VZ_mk ?_ ?_ (Vb_z (hzo 5 (by omega) (by omega)) (fun j h _ => hzo j (by omega) (by omega)) hv.b) (Vl_z (hzo 6 (by omega) (by omega)) (fun j h => hzo j (by omega) (by omega)) hv.l) (fun k hk => ?_) (fun x hx => ?_))
      · rw [hzu 0 (by omega), hzu 1 (by omega), hzu 2 (by omega), hzu 3 (by omega), hzu 4 (by omega), hfr 1 (by omega)]
        exact i
      · have hgz : ∀ p, zG (upd (V 113) 4 0) k p = zG (V 113) k p := fun p => pk_un (by omega)
        by_cases qk : k = h
        · subst qk
          refine ⟨by rw [zSh, ← hV2, u2_s], fun p hp hq => ?_⟩
          rw [zSh, nJ_lt (by omega) (by omega)] at hq
          rw [zGa k p hk hp, ← hgz, hfr (6 + 1) (by omega)]
          exact (gH k hh).2 p hp (by rw [eS, nJ_lt (by omega) (by omega)]; omega)
        · have h3 : zS (upd (V 113) 4 0) k = zS (V 113) k := pk_un (by omega)
          refine ⟨?_, fun p hp hq => ?_⟩
          · rw [zSk k hk qk, ← hV2, u2_n (Or.inr qk), ← h3]
            exact (gH k hk).1
          · rw [zSk k hk qk] at hq
            rw [zGa k p hk hp, hfr (6 + 1) (by omega), ← hgz]
            exact (gH k hk).2 p hp (by rw [h3]; exact hq)
      · rw [hzo 3 (by omega) (by omega)]; exact hv.1
      · rw [hzu 4 (by omega), pk_us]
      · obtain ⟨n', w1, w2, w3⟩ := hv.h k hk
        by_cases qk : k = h
        · subst qk
          rw [e, nJ_eq (by omega) (by omega)] at w2
          refine ⟨m, by omega, zSh, fun p hp => ?_⟩
          rw [zGa k p hk (by omega)]
          exact w3 p (by omega)
        · refine ⟨n', w1, by rw [zSk k hk qk]; exact w2, fun p hp => ?_⟩
          rw [zGa k p hk (by omega)]
          exact w3 p hp
      · have h5 := cnA_add (z := V3 113) (z' := V 113) hsz3 zSh (by omega) e rfl (fun p hp => (zGa h p hh (by omega)).symm) (fun k hk hne => (zSk k hk hne).symm) (fun k p hk _ hp => (zGa k p hk hp).symm) (nI x) 5 (by omega)
        have hx1 := hv.c x hx
        have h20 := cnA_le hsz (nI x) 5 (by omega)
        rw [hzo 0 (by omega) (by omega)]
        rw [I_le, nJ_tI (by omega)] at hx1 ⊢
        omega
  · simp only [show f_X8_isBelow a1 5 = 0 from h1, show f_X9_in a1 0 4 = 0 from h2, if00]
    exact ⟨_, _, _, rfl, rfl, Iv.rf hI⟩

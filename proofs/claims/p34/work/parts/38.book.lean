/-! Pure: enter, strike. -/
theorem st_enter : S_enter := by
  intro V hI a1 a2
  unfold f_X8_enter f_X9_enter
  have hv := hI.2.1
  have hsz := hv.vr.sz
  obtain ⟨n, hn, e5, hb⟩ := hv.b
  have e9 : V 9 2 = nI n := by rw [← e5]; exact hI.1.2.2.2.1.1.symm
  rw [c_fnum, obs]
  by_cases q1 : f_X9_isCode a1 = 0
  · simp only [if_pos q1]
    exact ⟨_, _, _, rfl, rfl, Iv.rf hI⟩
  · simp only [if_neg q1]
    rcases in_n (n := 100) (by omega) a2 (by omega) with ⟨w, hw, ew, h1, h2⟩ | ⟨h1, h2, -⟩
    · simp only [show f_X8_isBelow a2 100 = 1 from h1, show f_X9_in a2 0 99 = 1 from h2, if10]
      unfold f_X0_size
      rw [e9]
      by_cases q12 : n = 12
      · subst q12
        rw [if_neg (by decide)]
        refine mk3 ?_
        rw [zr5, e5, if_pos (show nI 12 = 12 from rfl)]
        exact ⟨_, rfl, Iv.rf hI⟩
      · have qn : ¬ nI n = 12 := by rw [show (12 : Int32) = nI 12 from rfl, nJ_eq (by omega) (by omega)]; exact q12
        rw [if_pos (by rw [show (12 : Int32) = nI 12 from rfl, nJ_lt (by omega) (by omega)]; omega)]
        obtain ⟨s', nx, V0, V1, hx, hc, g1, g2, g3⟩ := c_step hI
        obtain ⟨i, pF, pH, pB, pL⟩ := g3
        have e9' : V1 9 2 = nI n := by rw [g2 9 (by omega), hc.1 9 (by omega)]; exact e9
        rw [g1, obs]
        unfold f_X0_add
        rw [e9', bl_y (n := 12) (x := 12) rfl (by omega) (by omega), if10, st_n (by omega) (by omega), u2_ne (show 9 ≠ 9 + 1 by omega), e9', st_n (by omega) (by omega), u2_ne (show 9 ≠ 9 + 2 by omega), u2_ne (show 9 ≠ 9 + 1 by omega), e9', n1, lib_, obs]
        obtain ⟨V2, hV2⟩ : ∃ V2, u2 (u2 (u2 V1 (9 + 1) n a1) (9 + 2) n a2) 9 2 (nI (n + 1)) = V2 := ⟨_, rfl⟩
        rw [hV2]
        refine mk3 ?_
        have hfr : ∀ c, c ≠ 9 → c ≠ 10 → c ≠ 11 → V2 c = V1 c := fun c h1 h2 h3 => by rw [← hV2, u2_ne h1, u2_ne h3, u2_ne h2]
        have e92 : V2 9 2 = nI (n + 1) := by rw [← hV2, u2_s]
        have e113 : V2 113 = V 113 := by rw [hfr 113 (by omega) (by omega) (by omega), g2 113 (by omega), hc.1 113 (by omega)]
        obtain ⟨W0, W, m1, m2, m3, m4⟩ := m_step hx hc (V2 := V2) (fun c hc => by rw [hfr c (by omega) (by omega) (by omega), g2 c (by omega)])
        have ea : (63 : Int32) + 2 * nI n = nI (63 + 2 * n) := by simp only [L63, L2, pk_mul, nI_add]
        have eb : nI (63 + 2 * n) + 1 = nI (64 + 2 * n) := by rw [n1]; congr 1; omega
        have ew5 : W 113 5 = nI n := by rw [m3, pk_un (by omega)]; exact e5
        have ew6 : u2 W 113 (63 + 2 * n) a1 113 5 = nI n := by rw [u2_n (Or.inr (by omega))]; exact ew5
        have ew7 : u2 (u2 W 113 (63 + 2 * n) a1) 113 (64 + 2 * n) a2 113 5 = nI n := by rw [u2_n (Or.inr (by omega))]; exact ew6
        rw [zr5, e113, e5, if_neg qn, m1, obs, zr5, ew5, ea, st_n (by omega) (by omega), zr5, ew6, ea, eb, st_n (by omega) (by omega), zr5, ew7, n1, zs5, zr5, u2_s, e92]
        refine ⟨_, rfl, ?_⟩
        obtain ⟨V3, hV3⟩ : ∃ V3, u2 (u2 (u2 W 113 (63 + 2 * n) a1) 113 (64 + 2 * n) a2) 113 5 (nI (n + 1)) = V3 := ⟨_, rfl⟩
        rw [hV3]
        have hz3 : V3 113 = upd (upd (upd (upd (V 113) 4 0) (63 + 2 * n) a1) (64 + 2 * n) a2) 5 (nI (n + 1)) := by rw [← hV3, u2_at, u2_at, u2_at, m3]
        have hzu : ∀ j, j ≠ 5 → j ≠ 63 + 2 * n → j ≠ 64 + 2 * n → V3 113 j = upd (V 113) 4 0 j := fun j h1 h2 h3 => by rw [hz3, pk_un h1, pk_un h3, pk_un h2]
        have hzo : ∀ j, j ≠ 4 → j ≠ 5 → j ≠ 63 + 2 * n → j ≠ 64 + 2 * n → V3 113 j = V 113 j := fun j h0 h1 h2 h3 => by rw [hzu j h1 h2 h3, pk_un h0]
        have z5 : V3 113 5 = nI (n + 1) := by rw [hz3, pk_us]
        have zc : V3 113 (63 + 2 * n) = a1 := by rw [hz3, pk_un (by omega), pk_un (by omega), pk_us]
        have zw : V3 113 (64 + 2 * n) = a2 := by rw [hz3, pk_un (by omega), pk_us]
        refine Inv_st hI hx hc g2 (V2 := V2) (z' := V3 113) (fun c hc => hfr c (by omega) (by omega) (by omega)) ⟨?_, FS_z (fun j h1 _ => hzu j (by omega) (by omega) (by omega)) (FS_fr (hfr _ (by omega) (by omega) (by omega)) (hfr _ (by omega) (by omega) (by omega)) (hfr _ (by omega) (by omega) (by omega)) pF), HS_z (fun j h1 _ => hzu j (by omega) (by omega) (by omega)) (HS_fr (hfr _ (by omega) (by omega) (by omega)) (hfr _ (by omega) (by omega) (by omega)) pH), ⟨?_, fun e he hq => ?_⟩, LGS_z (hzu 6 (by omega) (by omega) (by omega)) (hzu 7 (by omega) (by omega) (by omega)) (fun j h => hzu j (by omega) (by omega) (by omega)) (LGS_fr (by rw [hfr _ (by omega) (by omega) (by omega)]) (by rw [hfr _ (by omega) (by omega) (by omega)]) (hfr _ (by omega) (by omega) (by omega)) (hfr _ (by omega) (by omega) (by omega)) pL)⟩ m2 m4 (fun c hc => by rw [← hV3, u2_ne hc, u2_ne hc, u2_ne hc]) rfl (VZ_mk ?_ ?_ ⟨n + 1, by omega, z5, fun e he => ?_⟩ (Vl_z (hzo 6 (by omega) (by omega) (by omega) (by omega)) (fun j h => hzo j (by omega) (by omega) (by omega) (by omega)) hv.l) (Vh_z (fun j h _ => hzo j (by omega) (by omega) (by omega) (by omega)) hv.h) (Vc_z hsz (hzo 0 (by omega) (by omega) (by omega) (by omega)) (fun j h _ => hzo j (by omega) (by omega) (by omega) (by omega)) hv.c))
        · rw [hzu 0 (by omega) (by omega) (by omega), hzu 1 (by omega) (by omega) (by omega), hzu 2 (by omega) (by omega) (by omega), hzu 3 (by omega) (by omega) (by omega), hzu 4 (by omega) (by omega) (by omega), hfr 1 (by omega) (by omega) (by omega)]
          exact i
        · rw [z5]; exact e92.symm
        · rw [z5, nJ_lt (by omega) (by omega)] at hq
          by_cases qe : e = n
          · subst qe
            rw [zc, zw, ← hV2]
            refine ⟨?_, ?_⟩
            · rw [u2_ne (by omega), u2_ne (by omega), u2_s]
            · rw [u2_ne (by omega), u2_s]
          · have h3 := pB.2 e he (by rw [pk_un (by omega), e5, nJ_lt (by omega) (by omega)]; omega)
            rw [hzu _ (by omega) (by omega) (by omega), hzu _ (by omega) (by omega) (by omega), ← hV2]
            refine ⟨h3.1.trans ?_, h3.2.trans ?_⟩
            · rw [u2_ne (by omega), u2_ne (by omega), u2_n (Or.inr qe)]
            · rw [u2_ne (by omega), u2_n (Or.inr qe), u2_ne (by omega)]
        · rw [hzo 3 (by omega) (by omega) (by omega) (by omega)]; exact hv.1
        · rw [hzu 4 (by omega) (by omega) (by omega), pk_us]
        · by_cases qe : e = n
          · subst qe
            rw [zc, zw]
            exact ⟨code_CD q1, w, hw, ew⟩
          · rw [hzo _ (by omega) (by omega) (by omega) (by omega), hzo _ (by omega) (by omega) (by omega) (by omega)]
            exact hb e (by omega)
    · simp only [show f_X8_isBelow a2 100 = 0 from h1, show f_X9_in a2 0 99 = 0 from h2, if00]
      exact ⟨_, _, _, rfl, rfl, Iv.rf hI⟩
-- strike: the class moves the entries behind e of n
theorem c_rem_l (x1 w : Int32) {n : Nat} (hn : n ≤ 12) : ∀ (d m : Nat) (V : Wd), d ≤ n - 1 → d < m → V 9 2 = nI n → ∃ V', f_X0_remove_32 9 x1 m V w (nI (n - 1 - d)) = some (w, V') ∧ V' 9 2 = nI n - 1 ∧ (∀ j, V' 10 j = if n - 1 - d ≤ j ∧ j < n - 1 then V 10 (j + 1) else V 10 j) ∧ (∀ j, V' 11 j = if n - 1 - d ≤ j ∧ j < n - 1 then V 11 (j + 1) else V 11 j) ∧ ∀ c, c ≠ 9 → c ≠ 10 → c ≠ 11 → V' c = V c := by
  intro d
  induction d with
  | zero =>
    intro m V hd hm hV
    obtain ⟨m, rfl⟩ : ∃ k, m = k + 1 := ⟨m - 1, by omega⟩
    rw [f_X0_remove_32, hV, n1, if_pos (by rw [nJ_le (by omega) (by omega)]; omega)]
    unfold f_X0_remove_76
    rw [hV, lib_]
    refine ⟨_, rfl, by rw [u2_s], fun j => ?_, fun j => ?_, fun c h1 h2 h3 => u2_ne h1⟩
    · rw [u2_ne (by omega), if_neg (by omega)]
    · rw [u2_ne (by omega), if_neg (by omega)]
  | succ d ih =>
    intro m V hd hm hV
    obtain ⟨m, rfl⟩ : ∃ k, m = k + 1 := ⟨m - 1, by omega⟩
    obtain ⟨i, hi⟩ : ∃ i, i = n - 1 - (d + 1) := ⟨_, rfl⟩
    rw [f_X0_remove_32, ← hi, hV, n1, if_neg (by rw [nJ_le (by omega) (by omega)]; omega), rdb (n := i + 1) rfl (by omega) (by omega), st_n (by omega) (by omega), rdb (n := i + 1) rfl (by omega) (by omega), st_n (by omega) (by omega)]
    obtain ⟨V', g1, g2, g3, g4, g5⟩ := ih m (u2 (u2 V (9 + 1) i (V (9 + 1) (i + 1))) (9 + 2) i (u2 V (9 + 1) i (V (9 + 1) (i + 1)) (9 + 2) (i + 1))) (by omega) (by omega) (by rw [u2_ne (by omega), u2_ne (by omega)]; exact hV)
    rw [show n - 1 - d = i + 1 by omega] at g1 g3 g4
    refine ⟨V', g1, g2, fun j => ?_, fun j => ?_, fun c h1 h2 h3 => by rw [g5 c h1 h2 h3, u2_ne h3, u2_ne h2]⟩
    · rw [g3, u2_ne (show 10 ≠ 9 + 2 by omega)]
      rw [show (10 : Nat) = 9 + 1 from rfl, u2_at]
      by_cases h1 : i + 1 ≤ j ∧ j < n - 1
      · have h2 : i ≤ j ∧ j < n - 1 := by omega
        rw [if_pos h1, if_pos h2, pk_un (by omega)]
      · rw [if_neg h1]
        by_cases h3 : j = i
        · have h2 : i ≤ j ∧ j < n - 1 := by omega
          rw [if_pos h2, h3, pk_us]
        · have h2 : ¬(i ≤ j ∧ j < n - 1) := by omega
          rw [if_neg h2, pk_un h3]
    · rw [g4]
      rw [show (11 : Nat) = 9 + 2 from rfl, u2_at, u2_ne (show 9 + 2 ≠ 9 + 1 by omega)]
      by_cases h1 : i + 1 ≤ j ∧ j < n - 1
      · have h2 : i ≤ j ∧ j < n - 1 := by omega
        rw [if_pos h1, if_pos h2, pk_un (by omega)]
      · rw [if_neg h1]
        by_cases h3 : j = i
        · have h2 : i ≤ j ∧ j < n - 1 := by omega
          rw [if_pos h2, h3, pk_us]
        · have h2 : ¬(i ≤ j ∧ j < n - 1) := by omega
          rw [if_neg h2, pk_un h3]
theorem m_str_l (x1 w : Int32) {n : Nat} (hn : n < 12) : ∀ (d m : Nat) (V : Wd), d ≤ 2 * n → d < m → V 113 5 = nI n → ∃ V', f_X9_strike_37 x1 m V w (nI (63 + 2 * n - d)) = some (w, V') ∧ (∀ j, V' 113 j = if 63 + 2 * n - d ≤ j ∧ j < 63 + 2 * n then V 113 (j + 2) else V 113 j) ∧ ∀ c, c ≠ 113 → V' c = V c := by
  intro d
  induction d with
  | zero =>
    intro m V hd hm hV
    obtain ⟨m, rfl⟩ : ∃ k, m = k + 1 := ⟨m - 1, by omega⟩
    have ea : (63 : Int32) + 2 * nI n = nI (63 + 2 * n) := by simp only [L63, L2, pk_mul, nI_add]
    rw [f_X9_strike_37, zr5, hV, ea, if_pos (by rw [nJ_le (by omega) (by omega)]; omega)]
    exact ⟨V, rfl, fun j => by rw [if_neg (by omega)], fun _ _ => rfl⟩
  | succ d ih =>
    intro m V hd hm hV
    obtain ⟨m, rfl⟩ : ∃ k, m = k + 1 := ⟨m - 1, by omega⟩
    obtain ⟨i, hi⟩ : ∃ i, i = 63 + 2 * n - (d + 1) := ⟨_, rfl⟩
    have ea : (63 : Int32) + 2 * nI n = nI (63 + 2 * n) := by simp only [L63, L2, pk_mul, nI_add]
    have eb : nI i + 2 = nI (i + 2) := by rw [L2, nI_add]
    rw [f_X9_strike_37, ← hi, zr5, hV, ea, if_neg (by rw [nJ_le (by omega) (by omega)]; omega), eb, rdb (n := i + 2) rfl (by omega) (by omega), st_n (by omega) (by omega), n1]
    obtain ⟨V', g1, g2, g3⟩ := ih m (u2 V 113 i (V 113 (i + 2))) (by omega) (by omega) (by rw [u2_n (Or.inr (by omega))]; exact hV)
    rw [show 63 + 2 * n - d = i + 1 by omega] at g1 g2
    refine ⟨V', g1, fun j => ?_, fun c hc => by rw [g3 c hc, u2_ne hc]⟩
    rw [g2, u2_at]
    by_cases h1 : i + 1 ≤ j ∧ j < 63 + 2 * n
    · have h2 : i ≤ j ∧ j < 63 + 2 * n := by omega
      rw [if_pos h1, if_pos h2, pk_un (by omega)]
    · rw [if_neg h1]
      by_cases h3 : j = i
      · have h2 : i ≤ j ∧ j < 63 + 2 * n := by omega
        rw [if_pos h2, h3, pk_us]
      · have h2 : ¬(i ≤ j ∧ j < 63 + 2 * n) := by omega
        rw [if_neg h2, pk_un h3]

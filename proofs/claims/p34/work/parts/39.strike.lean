/-! Pure: strike, undo, save, restore. -/
theorem st_strike : S_strike := by
  intro V hI a1
  unfold f_X8_strike f_X9_strike f_X9_isEntry f_X0_size
  have hv := hI.2.1
  have hsz := hv.vr.sz
  obtain ⟨n, hn, e5, hb⟩ := hv.b
  have e9 : V 9 2 = nI n := by rw [← e5]; exact hI.1.2.2.2.1.1.symm
  rw [e9]
  rcases in_m (n := n) (by omega) a1 with ⟨e, he, rfl, h1, h2⟩ | ⟨h1, h2⟩
  · rw [h1, if10]
    obtain ⟨N, rfl⟩ : ∃ N, n = N + 1 := ⟨n - 1, by omega⟩
    obtain ⟨s', nx, V0, V1, hx, hc, g1, g2, g3⟩ := c_step hI
    obtain ⟨i, pF, pH, pB, pL⟩ := g3
    have e9' : V1 9 2 = nI (N + 1) := by rw [g2 9 (by omega), hc.1 9 (by omega)]; exact e9
    have ez5 : upd (V 113) 4 0 5 = nI (N + 1) := by rw [pk_un (by omega)]; exact e5
    have hFU := FU_v
    obtain ⟨V2, r1, r2, r3, r4, r5⟩ := c_rem_l (nI e) (V1 (9 + 2) e) hn (N - e) FU_ V1 (by omega) (by omega) e9'
    rw [show N + 1 - 1 - (N - e) = e by omega] at r1 r3 r4
    rw [g1, obs]
    unfold f_X0_remove
    rw [e9', bl_yes he (by omega), if10, if_pos (by rw [show (12 : Int32) = nI 12 from rfl, nJ_le (by omega) (by omega)]; omega), rdb (n := e) rfl (by omega) (by omega), r1, obs]
    refine mk3 ?_
    dsimp only
    have e113 : V2 113 = V 113 := by rw [r5 113 (by omega) (by omega) (by omega), g2 113 (by omega), hc.1 113 (by omega)]
    obtain ⟨W0, W, m1, m2, m3, m4⟩ := m_step hx hc (V2 := V2) (fun c hc => by rw [r5 c (by omega) (by omega) (by omega), g2 c (by omega)])
    have ea : (63 : Int32) + 2 * nI e = nI (63 + 2 * e) := by simp only [L63, L2, pk_mul, nI_add]
    have eb : nI (63 + 2 * e) + 1 = nI (64 + 2 * e) := by rw [n1]; congr 1; omega
    have ew5 : W 113 5 = nI (N + 1) := by rw [m3]; exact ez5
    obtain ⟨V3, d1, d2, d3⟩ := m_str_l (nI e) (W 113 (64 + 2 * e)) (n := N) (by omega) (2 * (N - e)) FU_ (u2 W 113 5 (nI N)) (by omega) (by omega) (by rw [u2_s])
    rw [show 63 + 2 * N - 2 * (N - e) = 63 + 2 * e by omega] at d1 d2
    have zw : ∀ k, k < N + 1 → zO (W 113) k = W 113 (64 + 2 * k) := fun k _ => rfl
    rw [zr5, e113, e5, h2, if_pos (Or.inr rfl), obs, if10, m1, obs]
    unfold f_X9_wordOf
    rw [ea, eb, rdb (n := 64 + 2 * e) rfl (by omega) (by omega), obs, zr5, ew5, ns1, zs5, lib_, d1]
    have hwe : W 113 (64 + 2 * e) = V1 (9 + 2) e := by
      rw [m3]
      exact (pB.2 e (by omega) (by rw [ez5, nJ_lt (by omega) (by omega)]; omega)).2
    rw [hwe]
    refine ⟨V3, rfl, ?_⟩
    have z5 : V3 113 5 = nI N := by rw [d2, if_neg (by omega), u2_s]
    have hzu : ∀ j, j ≠ 5 → j < 63 ∨ 87 ≤ j → V3 113 j = upd (V 113) 4 0 j := fun j h1 h2 => by rw [d2, if_neg (by omega), u2_n (Or.inr h1), m3]
    have hzo : ∀ j, j ≠ 4 → j ≠ 5 → j < 63 ∨ 87 ≤ j → V3 113 j = V 113 j := fun j h0 h1 h2 => by rw [hzu j h1 h2, pk_un h0]
    have hzb : ∀ j, 63 ≤ j → V3 113 j = if 63 + 2 * e ≤ j ∧ j < 63 + 2 * N then V 113 (j + 2) else V 113 j := fun j hj => by
      rw [d2, u2_n (Or.inr (by omega)), u2_n (Or.inr (by omega)), m3, pk_un (by omega), pk_un (by omega)]
    have hfr := r5
    have pB2 : ∀ k, k < N + 1 → V 113 (63 + 2 * k) = V1 10 k ∧ V 113 (64 + 2 * k) = V1 11 k := fun k hk => by
      have h3 := pB.2 k (by omega) (by rw [ez5, nJ_lt (by omega) (by omega)]; omega)
      rw [pk_un (by omega), pk_un (by omega)] at h3
      exact h3
    refine Inv_st hI hx hc g2 (V2 := V2) (z' := V3 113) (fun c hc => hfr c (by omega) (by omega) (by omega)) ⟨?_, FS_z (fun j h1 _ => hzu j (by omega) (by omega)) (FS_fr (hfr _ (by omega) (by omega) (by omega)) (hfr _ (by omega) (by omega) (by omega)) (hfr _ (by omega) (by omega) (by omega)) pF), HS_z (fun j h1 _ => hzu j (by omega) (by omega)) (HS_fr (hfr _ (by omega) (by omega) (by omega)) (hfr _ (by omega) (by omega) (by omega)) pH), ⟨?_, fun k hk hq => ?_⟩, LGS_z (hzu 6 (by omega) (by omega)) (hzu 7 (by omega) (by omega)) (fun j h => hzu j (by omega) (by omega)) (LGS_fr (by rw [hfr _ (by omega) (by omega) (by omega)]) (by rw [hfr _ (by omega) (by omega) (by omega)]) (hfr _ (by omega) (by omega) (by omega)) (hfr _ (by omega) (by omega) (by omega)) pL)⟩ m2 m4 (fun c hc => by rw [d3 c hc, u2_ne hc]) rfl (VZ_mk ?_ ?_ ⟨N, by omega, z5, fun k hk => ?_⟩ (Vl_z (hzo 6 (by omega) (by omega) (by omega)) (fun j h => hzo j (by omega) (by omega) (by omega)) hv.l) (Vh_z (fun j h _ => hzo j (by omega) (by omega) (by omega)) hv.h) (Vc_z hsz (hzo 0 (by omega) (by omega) (by omega)) (fun j h _ => hzo j (by omega) (by omega) (by omega)) hv.c))
    · rw [hzu 0 (by omega) (by omega), hzu 1 (by omega) (by omega), hzu 2 (by omega) (by omega), hzu 3 (by omega) (by omega), hzu 4 (by omega) (by omega), hfr 1 (by omega) (by omega) (by omega)]
      exact i
    · rw [z5, r2, ns1]
    · rw [z5, nJ_lt (by omega) (by omega)] at hq
      rw [hzb _ (by omega), hzb _ (by omega), show V2 (1 + 8 + 1) = V2 10 from rfl, show V2 (1 + 8 + 2) = V2 11 from rfl, r3, r4]
      by_cases qe : e ≤ k
      · have a1 : 63 + 2 * e ≤ 63 + 2 * k ∧ 63 + 2 * k < 63 + 2 * N := by omega
        have a2 : 63 + 2 * e ≤ 64 + 2 * k ∧ 64 + 2 * k < 63 + 2 * N := by omega
        have a3 : e ≤ k ∧ k < N + 1 - 1 := by omega
        have h3 := pB2 (k + 1) (by omega)
        rw [if_pos a1, if_pos a2, if_pos a3, if_pos a3]
        exact h3
      · have a1 : ¬(63 + 2 * e ≤ 63 + 2 * k ∧ 63 + 2 * k < 63 + 2 * N) := by omega
        have a2 : ¬(63 + 2 * e ≤ 64 + 2 * k ∧ 64 + 2 * k < 63 + 2 * N) := by omega
        have a3 : ¬(e ≤ k ∧ k < N + 1 - 1) := by omega
        rw [if_neg a1, if_neg a2, if_neg a3, if_neg a3]
        exact pB2 k (by omega)
    · rw [hzo 3 (by omega) (by omega) (by omega)]; exact hv.1
    · rw [hzu 4 (by omega) (by omega), pk_us]
    · rw [hzb _ (by omega), hzb _ (by omega)]
      by_cases qe : e ≤ k
      · have a1 : 63 + 2 * e ≤ 63 + 2 * k ∧ 63 + 2 * k < 63 + 2 * N := by omega
        have a2 : 63 + 2 * e ≤ 64 + 2 * k ∧ 64 + 2 * k < 63 + 2 * N := by omega
        rw [if_pos a1, if_pos a2]
        exact hb (k + 1) (by omega)
      · have a1 : ¬(63 + 2 * e ≤ 63 + 2 * k ∧ 63 + 2 * k < 63 + 2 * N) := by omega
        have a2 : ¬(63 + 2 * e ≤ 64 + 2 * k ∧ 64 + 2 * k < 63 + 2 * N) := by omega
        rw [if_neg a1, if_neg a2]
        exact hb k (by omega)
  · rw [h1, if00]
    refine mk3 ?_
    rw [zr5, e5, h2, if_pos (Or.inl rfl), obs, if00]
    exact ⟨_, rfl, Iv.rf hI⟩

/-! Pure: the law's choices: paint, lower. -/
section CH
variable {xs : Nat → Int32} {L : Nat} {K : Wd → Int32 → Option (Int32 × Wd)} {V : Wd} {T e : Nat}
theorem k_282 (V : Wd) (x7 x13 : Int32) {f : Nat} (hf : f < 10) : ∀ (d n : Nat), d ≤ 10 → d < n → f_L_law_282 xs L K n V x7 x13 (nI f) (nI (cw (fun k => V 118 (3 * k) = V 118 (3 * f) ∧ V 118 (3 * k + 1) = V 118 (3 * f + 1)) (10 - d))) (nI (10 - d)) = f_L_law_339 xs L K V x7 x13 (nI f) (nI (cw (fun k => V 118 (3 * k) = V 118 (3 * f) ∧ V 118 (3 * k + 1) = V 118 (3 * f + 1)) 10)) := by
  intro d
  induction d with
  | zero =>
    intro n hd hn
    obtain ⟨n, rfl⟩ : ∃ k, n = k + 1 := ⟨n - 1, by omega⟩
    rw [f_L_law_282, if_pos (by decide)]
  | succ d ih =>
    intro n hd hn
    obtain ⟨n, rfl⟩ : ∃ k, n = k + 1 := ⟨n - 1, by omega⟩
    obtain ⟨i, hi⟩ : ∃ i, i = 10 - (d + 1) := ⟨_, rfl⟩
    have h3 := ih n (by omega) (by omega)
    rw [show 10 - d = i + 1 by omega, cw] at h3
    rw [f_L_law_282, ← hi, if_neg (by rw [L10, nJ_le (by omega) (by omega)]; omega), rdb (n := 3 * i) (i3_0 i) (by omega) (by omega), rdb (n := 3 * f) (i3_0 f) (by omega) (by omega), n1 i]
    by_cases q1 : V 118 (3 * i) = V 118 (3 * f)
    · rw [if_pos q1, rdb (n := 3 * i + 1) (i3_1 i) (by omega) (by omega), rdb (n := 3 * f + 1) (i3_1 f) (by omega) (by omega)]
      by_cases q2 : V 118 (3 * i + 1) = V 118 (3 * f + 1)
      · rw [if_pos ⟨q1, q2⟩] at h3
        rw [if_pos q2, lib_, n1]
        exact h3
      · rw [if_neg (fun h => q2 h.2)] at h3
        rw [if_neg q2, lib_, add0]
        exact h3
    · rw [if_neg (fun h => q1 h.1)] at h3
      rw [if_neg q1, lib_, add0]
      exact h3
theorem k_paint3 (hJ : JJ V T) (he : e < 64) {f a b w : Nat} (hf : f < 10) (ha : a < 8) (hb : b < 8) (hw : w < 10) : NX K e T (f_L_law_282 xs L K FU_ (u2 (u2 (u2 V 118 (3 * f) (nI a)) 118 (3 * f + 1) (nI b)) 118 (3 * f + 2) (nI w)) (nI e) 1 (nI f) 0 0) := by
  have hF := FU_v
  obtain ⟨V', hV'⟩ : ∃ V', u2 (u2 (u2 V 118 (3 * f) (nI a)) 118 (3 * f + 1) (nI b)) 118 (3 * f + 2) (nI w) = V' := ⟨_, rfl⟩
  rw [hV']
  have eV : ∀ c, c ≠ 118 → V' c = V c := fun c hc => by rw [← hV', u2_ne hc, u2_ne hc, u2_ne hc]
  have v0 : V' 118 (3 * f) = nI a := by rw [← hV', u2_n (Or.inr (by omega)), u2_n (Or.inr (by omega)), u2_s]
  have v1 : V' 118 (3 * f + 1) = nI b := by rw [← hV', u2_n (Or.inr (by omega)), u2_s]
  have v2 : V' 118 (3 * f + 2) = nI w := by rw [← hV', u2_s]
  have vo : ∀ j, j ≠ 3 * f → j ≠ 3 * f + 1 → j ≠ 3 * f + 2 → V' 118 j = V 118 j := fun j h0 h1 h2 => by rw [← hV', u2_n (Or.inr h2), u2_n (Or.inr h1), u2_n (Or.inr h0)]
  have hI' : Inv V' := Inv_law hJ.1 (fun c hc => eV c (by omega))
  obtain ⟨r, V1, V2, h1, h2, hv⟩ := st_paint V' hI' (nI f) (nI a) (nI b) (nI w)
  have e113 : V' 113 = V 113 := eV 113 (by omega)
  obtain ⟨W, m1, m2⟩ := m_rd hI' hv.2.1
  rw [e113] at m2
  have e118 : V2 118 = V' 118 := hv.law (by omega)
  have ea : (8 : Int32) + 3 * nI f = nI (8 + 3 * f) := by simp only [L8, L3, pk_mul, nI_add]
  have eb : nI (8 + 3 * f) + 1 = nI (9 + 3 * f) := by rw [n1]; congr 1; omega
  have ec : nI (8 + 3 * f) + 2 = nI (10 + 3 * f) := by rw [L2, nI_add]; congr 1; omega
  have hif : f_X9_isFlag (nI f) = 1 := q_in9 hf
  have h3 := h2
  unfold f_X9_paint at h3
  rw [hif, if_neg t10, q_in7 ha, if_neg t10, q_in7 hb, if_neg t10, q_in9 hw, if_neg t10, m1, obs, ea, eb, ec, st_n (by omega) (by omega), st_n (by omega) (by omega), st_n (by omega) (by omega), m_countW] at h3
  obtain ⟨hr, hV⟩ := Prod.mk.inj (Option.some.inj h3)
  rw [hV] at hr
  have ez : V2 113 = upd (upd (upd (upd (V 113) 4 0) (8 + 3 * f) (nI a)) (9 + 3 * f) (nI b)) (10 + 3 * f) (nI w) := by rw [← hV, u2_at, u2_at, u2_at, m2]
  have zo : ∀ j, j ≠ 4 → j ≠ 8 + 3 * f → j ≠ 9 + 3 * f → j ≠ 10 + 3 * f → V2 113 j = V 113 j := fun j h0 h1 h2 h3 => by rw [ez, pk_un h3, pk_un h2, pk_un h1, pk_un h0]
  have z4 : V2 113 4 = 0 := by rw [ez, pk_un (by omega), pk_un (by omega), pk_un (by omega), pk_us]
  have za : V2 113 (8 + 3 * f) = nI a := by rw [ez, pk_un (by omega), pk_un (by omega), pk_us]
  have zb : V2 113 (9 + 3 * f) = nI b := by rw [ez, pk_un (by omega), pk_us]
  have zc : V2 113 (10 + 3 * f) = nI w := by rw [ez, pk_us]
  have hC : RC V' (V2 113) := fun j hj => by
    by_cases q0 : j = 3 * f
    · rw [q0, v0, za]
    · by_cases q1 : j = 3 * f + 1
      · rw [q1, v1, show 8 + (3 * f + 1) = 9 + 3 * f by omega, zb]
      · by_cases q2 : j = 3 * f + 2
        · rw [q2, v2, show 8 + (3 * f + 2) = 10 + 3 * f by omega, zc]
        · rw [vo j q0 q1 q2, hJ.2.2.1 j hj, zo _ (by omega) (by omega) (by omega) (by omega)]
  have hcount := k_282 (xs := xs) (L := L) (K := K) V' (nI e) 1 hf 10 FU_ (by omega) (by omega)
  have er : nI (cw (fun k => V' 118 (3 * k) = V' 118 (3 * f) ∧ V' 118 (3 * k + 1) = V' 118 (3 * f + 1)) 10) = r := by
    rw [← hr]
    refine congrArg nI (cw_congr (fun k hk => ?_))
    rw [v0, v1, rc_0 hC hk, rc_1 hC hk]
  rw [show f_L_law_282 xs L K FU_ V' (nI e) 1 (nI f) 0 0 = _ from hcount, er]
  unfold f_L_law_339
  rw [rdb (n := 3 * f) (i3_0 f) (by omega) (by omega), rdb (n := 3 * f + 1) (i3_1 f) (by omega) (by omega), rdb (n := 3 * f + 2) (i3_2 f) (by omega) (by omega), v0, v1, v2, h1, obs]
  dsimp only
  rw [h2, obs]
  dsimp only
  rw [gx_iv hv, lib_, if_pos rfl]
  unfold f_L_law_377
  have hrow : ∀ c, 117 < c → c ≠ 118 → V2 c = V c := fun c hc h => (hv.law hc).trans (eV c h)
  obtain ⟨g1, g2, g3, g4, g5, g6, g7, g8⟩ := hJ
  obtain ⟨r0, r1, r2, r3, r4, r5⟩ := g6
  refine nx_end he (Nat.le_succ T) (Or.inr ⟨rfl, Inv_law hv.1 (fun c hc => u2_ne (by omega)), ?_, ?_, ?_, ?_, ?_, ?_, g8⟩)
  · rw [u2_ne (by omega)]
    refine ⟨fun k hk => ?_, by rw [zo 2 (by omega) (by omega) (by omega) (by omega)]; exact g2.2⟩
    by_cases qk : k = f
    · subst qk
      exact ⟨a, b, w, ha, hb, hw, za, zb, zc⟩
    · obtain ⟨a', b', w', k1, k2, k3, k4, k5, k6⟩ := g2.1 k hk
      exact ⟨a', b', w', k1, k2, k3, (zo _ (by omega) (by omega) (by omega) (by omega)).trans k4, (zo _ (by omega) (by omega) (by omega) (by omega)).trans k5, (zo _ (by omega) (by omega) (by omega) (by omega)).trans k6⟩
  · rw [u2_ne (by omega)]
    exact RC_y (fun _ _ _ => rfl) (by rw [u2_ne (by omega), e118]) hC
  · rw [u2_ne (by omega)]
    exact RM_y (fun j h1 h2 => zo j (by omega) (by omega) (by omega) (by omega)) (by rw [u2_ne (by omega), hrow 119 (by omega) (by omega)]) g4
  · rw [u2_ne (by omega)]
    exact RB_y g1.2.1.vr.en.2.1 (zo 5 (by omega) (by omega) (by omega) (by omega)) (fun j h1 h2 => zo j (by omega) (by omega) (by omega) (by omega)) (by rw [u2_ne (by omega), hrow 120 (by omega) (by omega)]) g5
  · have e122 : V2 122 = V 122 := hrow 122 (by omega) (by omega)
    rw [u2_ne (show (113 : Nat) ≠ 122 by omega)]
    refine ⟨?_, ?_, ?_, ?_, ?_, ?_⟩
    · rw [u2_n (Or.inr (by omega)), e122, r0, zo 0 (by omega) (by omega) (by omega) (by omega)]
    · rw [u2_n (Or.inr (by omega)), e122, r1, zo 1 (by omega) (by omega) (by omega) (by omega)]
    · rw [u2_n (Or.inr (by omega)), e122, r2, zo 2 (by omega) (by omega) (by omega) (by omega)]
    · rw [u2_n (Or.inr (by omega)), e122, r3, zo 3 (by omega) (by omega) (by omega) (by omega)]
    · rw [u2_s, z4]
    · rw [u2_n (Or.inr (by omega)), e122, r5, zo 5 (by omega) (by omega) (by omega) (by omega)]
  · rw [u2_ne (by omega)]
    exact RLg_y (zo 6 (by omega) (by omega) (by omega) (by omega)) (zo 7 (by omega) (by omega) (by omega) (by omega)) (fun j h1 => zo j (by omega) (by omega) (by omega) (by omega)) (by rw [u2_ne (by omega), hrow 121 (by omega) (by omega)]) (by rw [u2_n (Or.inr (by omega)), hrow 122 (by omega) (by omega)]) g7
theorem k_paint (hJ : JJ V T) (he : e < 64) {f m : Nat} (hf : f < 10) (hm0 : 0 < m) (hm : m ≤ 8) (g : Int32) : NX K e T (f_L_law_220 xs L K V (nI e) g 1 (nI f) (nI m) (g >>> (12 &&& 31)) (3 * nI f)) := by
  obtain ⟨a, ha, ea⟩ := l_low (g >>> (12 &&& 31)) hm0 (by omega)
  obtain ⟨k, hk, ek⟩ := l_low (g >>> (25 &&& 31)) (n := 2) (by omega) (by omega)
  obtain ⟨w, hw, ew⟩ := l_low (g >>> (18 &&& 31)) (n := 10) (by omega) (by omega)
  have fin : ∀ m2 : Nat, 0 < m2 → m2 ≤ 8 → NX K e T (f_L_law_254 xs L K (u2 V 118 (3 * f) (nI a)) (nI e) g 1 (nI f) (nI m2) (g >>> (15 &&& 31)) (3 * nI f + 1)) := by
    intro m2 h0 h8
    obtain ⟨b, hb, eb⟩ := l_low (g >>> (15 &&& 31)) h0 (by omega)
    unfold f_L_law_254
    rw [eb, obs, i3_1, st_n (by omega) (by omega), show f_L_low (g >>> (18 &&& 31)) 10 = some (nI w) from ew, obs, i3_2, st_n (by omega) (by omega)]
    exact k_paint3 hJ he hf (by omega) (by omega) hw
  unfold f_L_law_220
  rw [ea, obs, i3_0, st_n (by omega) (by omega), show f_L_low (g >>> (25 &&& 31)) 2 = some (nI k) from ek, obs, ← i3_0]
  by_cases q : nI k = 0
  · rw [if_pos q]
    exact fin 8 (by omega) (by omega)
  · rw [if_neg q]
    exact fin 2 (by omega) (by omega)
theorem k_1468 (x7 x12 x13 : Int32) : ∀ (d n : Nat) (V : Wd), d ≤ 20 → d < n → ∃ V', f_L_law_1468 xs L K n V x7 x12 x13 (nI (20 - d)) = f_L_law_1586 xs L K V' x7 x12 x13 ∧ (∀ j, V' 119 j = if 20 - d ≤ j ∧ j < 20 then -1 else V 119 j) ∧ ∀ c, c ≠ 119 → V' c = V c := by
  intro d
  induction d with
  | zero =>
    intro n V hd hn
    obtain ⟨n, rfl⟩ : ∃ k, n = k + 1 := ⟨n - 1, by omega⟩
    refine ⟨V, ?_, fun j => by rw [if_neg (by omega)], fun _ _ => rfl⟩
    rw [f_L_law_1468, if_pos (by decide)]
    unfold f_L_law_1486
    rfl
  | succ d ih =>
    intro n V hd hn
    obtain ⟨n, rfl⟩ : ∃ k, n = k + 1 := ⟨n - 1, by omega⟩
    obtain ⟨i, hi⟩ : ∃ i, i = 20 - (d + 1) := ⟨_, rfl⟩
    obtain ⟨V', g1, g2, g3⟩ := ih n (u2 V 119 i (-1)) (by omega) (by omega)
    refine ⟨V', ?_, fun j => ?_, fun c hc => by rw [g3 c hc, u2_ne hc]⟩
    · rw [f_L_law_1468, ← hi, if_neg (by rw [L20, nJ_le (by omega) (by omega)]; omega), st_n (by omega) (by omega), n1, show i + 1 = 20 - d by omega]
      exact g1
    · rw [g2 j]
      by_cases q : j = i
      · subst q
        rw [if_neg (by omega), u2_s, if_pos (by omega)]
      · by_cases q2 : 20 - d ≤ j ∧ j < 20
        · rw [if_pos q2, if_pos (by omega)]
        · rw [if_neg q2, if_neg (by omega), u2_n (Or.inr q)]
theorem RM_0 {W : Wd} {z : Nat → Int32} (hz : ∀ h, h < 5 → z (38 + 5 * h) = 0) (hw : ∀ j, j < 20 → W 119 j = -1) : RM W z := fun h p hh hp => by
  rw [hw _ (by omega), show sn z h = 0 from snE (n := 0) (hz h hh) (by omega), if_neg (by omega)]
theorem k_low0 (hJ : JJ V T) (he : e < 64) (h4 : V 113 4 ≠ 2) : NX K e T (f_L_law_1313 xs L K V (nI e) 1 0) := by
  have hF := FU_v
  obtain ⟨r, V1, V2, h1, h2, hv⟩ := st_lower V hJ.1
  have e1 : V1 113 = V 113 := hv.2.1 113 (by omega)
  have e122 : V2 122 = V 122 := hv.law (by omega)
  obtain ⟨W, m1, m2⟩ := m_rc hJ.1 hv.2.1
  obtain ⟨W2, l1, l2, l3, l4⟩ := m_empty W
  have h3 := h2
  unfold f_X9_lower at h3
  rw [m1, obs, zr4, m2, if_neg h4, if_pos (by decide), l1, obs, zs4] at h3
  obtain ⟨hr, hV⟩ := Prod.mk.inj (Option.some.inj h3)
  have z4 : V2 113 4 = 0 := by rw [← hV, u2_s]
  have zx : ∀ j, j ≠ 4 → (∀ h, h < 5 → j ≠ 38 + 5 * h) → V2 113 j = V 113 j := fun j h1 h2 => by rw [← hV, u2_n (Or.inr h1), l4 j h2, m2]
  have zs : ∀ h, h < 5 → V2 113 (38 + 5 * h) = 0 := fun h hh => by rw [← hV, u2_n (Or.inr (by omega)), l3 h hh]
  obtain ⟨V', g1, g2, g3⟩ := k_1468 (xs := xs) (L := L) (K := K) (nI e) 1 1 20 FU_ V2 (by omega) (by omega)
  rw [Nat.sub_self] at g1 g2
  unfold f_L_law_1313
  rw [if_pos (by decide), h1, obs]
  dsimp only
  rw [h2, obs]
  dsimp only
  rw [gx_iv hv, lib_, if_pos hr.symm, show f_L_law_1468 xs L K FU_ V2 (nI e) 1 1 0 = _ from g1]
  refine nx_end he (Nat.le_succ T) (Or.inr ⟨rfl, JJ_m hJ hv (fun j h1 h2 => zx j h1 (fun h hh => by omega)) z4 (fun c h1 h2 => ?_) (fun j hj => ?_) ?_ (RM_0 zs (fun j hj => ?_))⟩)
  · rw [u2_ne h2, g3 c h1]
  · rw [u2_n (Or.inr hj), g3 122 (by omega), e122]
  · rw [u2_s]
  · rw [u2_ne (by omega), g2, if_pos ⟨Nat.zero_le _, hj⟩]
theorem RR_121 {V V2 : Wd} {z : Nat → Int32} (hR : RR V z) (e : ∀ c, c ≠ 121 → V2 c = V c) : RR V2 z := by
  obtain ⟨hv, hc, hC, hM, hB, hT⟩ := hR
  refine ⟨hv, hc, ?_, ?_, ?_, ?_⟩
  · unfold RC at *; rw [e 118 (by omega)]; exact hC
  · unfold RM at *; rw [e 119 (by omega)]; exact hM
  · unfold RB at *; rw [e 120 (by omega)]; exact hB
  · unfold RT at *; rw [e 122 (by omega)]; exact hT
/-- the words of the message into the log's row -/
theorem k_1394 {z : Nat → Int32} {s q : Nat} (hs : s < 2) (hq : q + 6 ≤ 48) {ls : List Int32} (hls : ML (WM z (nI s)) (nI s) = ls) (x7 x13 : Int32) : ∀ (d n : Nat) (V : Wd), d ≤ ls.length → d < n → RR V z → V 122 3 = nI s → ∃ V', f_L_law_1394 xs L K n V x7 x13 (nI ls.length) (nI q) (nI (ls.length - d)) = f_L_law_1440 xs L K V' x7 x13 (nI ls.length) ∧ (∀ j, V' 121 j = if q + 1 + (ls.length - d) ≤ j ∧ j < q + 1 + ls.length then ls.getD (j - (q + 1)) (-6) else V 121 j) ∧ ∀ c, c ≠ 121 → V' c = V c := by
  have hl5 : ls.length ≤ 5 := by rw [← hls]; exact ML_len5 _ _
  intro d
  induction d with
  | zero =>
    intro n V hd hn hR h3
    obtain ⟨n, rfl⟩ : ∃ k, n = k + 1 := ⟨n - 1, by omega⟩
    refine ⟨V, ?_, fun j => by rw [if_neg (by omega)], fun _ _ => rfl⟩
    rw [f_L_law_1394, if_pos (by rw [nJ_le (by omega) (by omega)]; omega)]
  | succ d ih =>
    intro n V hd hn hR h3
    obtain ⟨n, rfl⟩ : ∃ k, n = k + 1 := ⟨n - 1, by omega⟩
    obtain ⟨i, hi⟩ : ∃ i, i = ls.length - (d + 1) := ⟨_, rfl⟩
    obtain ⟨h, hh, a1, a2⟩ := l_nth hR (s := s) (i := i) hs (by rw [hls]; omega)
    rw [hls] at a2
    obtain ⟨V', g1, g2, g3⟩ := ih n (u2 V 121 (q + 1 + i) (ls.getD i (-6))) (by omega) (by omega) (RR_121 hR (fun c hc => u2_ne hc)) (by rw [u2_ne (by omega)]; exact h3)
    refine ⟨V', ?_, fun j => ?_, fun c hc => by rw [g3 c hc, u2_ne hc]⟩
    · rw [f_L_law_1394, ← hi, if_neg (by rw [nJ_le (by omega) (by omega)]; omega), tr3, tr3, h3, a1, obs, a2, obs, n1, nI_add, st_n (by omega) (by omega), n1, show i + 1 = ls.length - d by omega]
      exact g1
    · rw [g2 j]
      by_cases qj : j = q + 1 + i
      · subst qj
        rw [if_neg (by omega), u2_s, if_pos (by omega), show q + 1 + i - (q + 1) = i by omega]
      · by_cases q2 : q + 1 + (ls.length - d) ≤ j ∧ j < q + 1 + ls.length
        · rw [if_pos q2, if_pos (by omega)]
        · rw [if_neg q2, if_neg (by omega), u2_n (Or.inr qj)]
/-- the log's row moves up by one message -/
theorem k_1348 (x7 x13 x14 x15 : Int32) {T : Nat} (hT : 8 ≤ T) (hT2 : T ≤ 1000) : ∀ (d n : Nat) (V : Wd), d ≤ 42 → d < n → V 122 6 = nI T → ∃ V', f_L_law_1348 xs L K n V x7 x13 x14 x15 (nI (42 - d)) = (st_ V' 121 48 x15 x14 fun V1 => f_L_law_1394 xs L K FU_ V1 x7 x13 x14 x15 0) ∧ (∀ j, V' 121 j = if 42 - d ≤ j ∧ j < 42 then V 121 (j + 6) else V 121 j) ∧ ∀ c, c ≠ 121 → V' c = V c := by
  intro d
  induction d with
  | zero =>
    intro n V hd hn h6
    obtain ⟨n, rfl⟩ : ∃ k, n = k + 1 := ⟨n - 1, by omega⟩
    refine ⟨V, ?_, fun j => by rw [if_neg (by omega)], fun _ _ => rfl⟩
    rw [f_L_law_1348, if_pos (by decide)]
  | succ d ih =>
    intro n V hd hn h6
    obtain ⟨n, rfl⟩ : ∃ k, n = k + 1 := ⟨n - 1, by omega⟩
    obtain ⟨i, hi⟩ : ∃ i, i = 42 - (d + 1) := ⟨_, rfl⟩
    obtain ⟨V', g1, g2, g3⟩ := ih n (u2 V 121 i (V 121 (i + 6))) (by omega) (by omega) (by rw [u2_ne (by omega)]; exact h6)
    refine ⟨V', ?_, fun j => ?_, fun c hc => by rw [g3 c hc, u2_ne hc]⟩
    · rw [f_L_law_1348, ← hi, if_neg (by rw [show (42 : Int32) = nI 42 from rfl, nJ_le (by omega) (by omega)]; omega), tr6, h6, if_neg (by rw [show (7 : Int32) = nI 7 from rfl, nJ_le (by omega) (by omega)]; omega), rdb (n := i + 6) (by rw [L6, nI_add]) (by omega) (by omega), st_n (by omega) (by omega), n1, show i + 1 = 42 - d by omega]
      exact g1
    · rw [g2 j]
      by_cases q : j = i
      · subst q
        rw [if_neg (by omega), u2_s, if_pos (by omega)]
      · by_cases q2 : 42 - d ≤ j ∧ j < 42
        · rw [if_pos q2, if_pos (by omega), u2_n (Or.inr (by omega))]
        · rw [if_neg q2, if_neg (by omega), u2_n (Or.inr q)]
theorem lgn_s (T : Nat) : lgn (T + 1) = nl (lgn T) + 1 := by
  unfold lgn nl
  by_cases q : T ≤ 8
  · rw [if_pos q]
    by_cases q8 : T = 8
    · rw [if_pos q8, if_neg (by omega)]
    · rw [if_neg q8, if_pos (by omega)]
  · rw [if_neg q, if_pos rfl, if_neg (by omega)]
/-- lower with a message: behind the law's own writing of it -/
theorem k_1440 (hJ : JJ V T) (he : e < 64) (hT : T < 500) (h4 : V 113 4 = 2) {V' : Wd} {ls : List Int32} (hls : ML (WM (V 113) (V 113 3)) (V 113 3) = ls) (hV' : ∀ c, c ≠ 121 → V' c = V c) (w0 : V' 121 (6 * nl (lgn T)) = nI ls.length) (w1 : ∀ i, i < ls.length → V' 121 (6 * nl (lgn T) + (1 + i)) = ls.getD i (-6)) (w2 : ∀ m i, m < nl (lgn T) → i < 6 → V' 121 (6 * m + i) = if lgn T = 8 then V 121 (6 * (m + 1) + i) else V 121 (6 * m + i)) : NX K e T (f_L_law_1440 xs L K V' (nI e) 1 (nI ls.length)) := by
  have hF := FU_v
  obtain ⟨g1, g2, g3, g4, g5, g6, g7, g8⟩ := id hJ
  obtain ⟨r0, r1, r2, r3, r4, r5⟩ := g6
  obtain ⟨t6, z7, z6, hlog⟩ := g7
  have h8 := lgn_le T
  have hvr := g1.2.1.vr
  have hl5 : ls.length ≤ 5 := by rw [← hls]; exact ML_len5 _ _
  have hlen : ls.length = hc_ (V 113) 5 := by rw [← hls]; exact len_hc hvr _
  obtain ⟨V6, hV6⟩ : ∃ V6, u2 V' 122 6 (nI (T + 1)) = V6 := ⟨_, rfl⟩
  have e6 : ∀ c, c ≠ 121 → c ≠ 122 → V6 c = V c := fun c h1 h2 => by rw [← hV6, u2_ne h2, hV' c h1]
  have hI6 : Inv V6 := Inv_law g1 (fun c hc => e6 c (by omega) (by omega))
  obtain ⟨r, V1, V2, h1, h2, hv⟩ := st_lower V6 hI6
  have e13 : V6 113 = V 113 := e6 113 (by omega) (by omega)
  obtain ⟨W, m1, m2⟩ := m_rc hI6 hv.2.1
  rw [e13] at m2
  obtain ⟨W1, k1, k2, k3, k4, k5, k6, k7, k8⟩ := m_logs (V := W) (by rw [m2]; exact hvr) h8.2 (by rw [m2]; exact z6)
  rw [m2] at k4 k5 k6 k7 k8
  rw [hls] at k5 k6
  obtain ⟨W2, l1, l2, l3, l4⟩ := m_empty W1
  obtain ⟨hh, hh5, hne⟩ := g1.2.1.2.1.2 (by rw [h4]; decide)
  have hpos := (hc_pos hvr.sz 5 (by omega)).mpr ⟨hh, hh5, hne⟩
  have hcl := hc_le (V 113) 5
  have h3 := h2
  unfold f_X9_lower at h3
  rw [m1, obs, zr4, m2, if_pos h4, m_hoists W, obs, m2, if_neg (by rw [show (0 : Int32) = nI 0 from rfl, nJ_le (by omega) (by omega)]; omega), k1, obs, l1, obs, zs4] at h3
  obtain ⟨hr, hV⟩ := Prod.mk.inj (Option.some.inj h3)
  have z4 : V2 113 4 = 0 := by rw [← hV, u2_s]
  have zx : ∀ j, j ≠ 4 → (∀ h, h < 5 → j ≠ 38 + 5 * h) → V2 113 j = W1 113 j := fun j h1 h2 => by rw [← hV, u2_n (Or.inr h1), l4 j h2]
  have zs : ∀ h, h < 5 → V2 113 (38 + 5 * h) = 0 := fun h hh => by rw [← hV, u2_n (Or.inr (by omega)), l3 h hh]
  have zy : ∀ j, j ≠ 4 → j ≠ 6 → j ≠ 7 → j < 87 → (∀ h, h < 5 → j ≠ 38 + 5 * h) → V2 113 j = V 113 j := fun j h1 h2 h3 h4 h5 => by rw [zx j h1 h5, k7 j h4 h2 h3]
  obtain ⟨V3, q1, q2, q3⟩ := k_1468 (xs := xs) (L := L) (K := K) (nI e) 1 1 20 FU_ V2 (by omega) (by omega)
  rw [Nat.sub_self] at q1 q2
  have hrow : ∀ c, 117 < c → c ≠ 119 → c ≠ 121 → c ≠ 122 → V3 c = V c := fun c h1 h2 h3 h4 => by rw [q3 c h2, hv.law h1, e6 c h3 h4]
  have e121 : V3 121 = V' 121 := by rw [q3 121 (by omega), hv.law (by omega), ← hV6, u2_ne (by omega)]
  have e122 : ∀ j, j ≠ 6 → V3 122 j = V 122 j := fun j hj => by rw [q3 122 (by omega), hv.law (by omega), ← hV6, u2_n (Or.inr hj), hV' 122 (by omega)]
  have e226 : V3 122 6 = nI (T + 1) := by rw [q3 122 (by omega), hv.law (by omega), ← hV6, u2_s]
  have e113 : V3 113 = V2 113 := q3 113 (by omega)
  unfold f_L_law_1440
  rw [tr6, hV' 122 (by omega), t6, n1, ts6, hV6, h1, obs]
  dsimp only
  rw [h2, obs]
  dsimp only
  rw [gx_iv hv, lib_, if_pos (by rw [← hr, hlen]), show f_L_law_1468 xs L K FU_ V2 (nI e) 1 1 0 = _ from q1]
  refine nx_end (T' := T + 1) he (Nat.le_refl _) (Or.inr ⟨rfl, ?_⟩)
  have nl7 : nl (lgn T) < 8 := by unfold nl; split <;> omega
  refine ⟨Inv_law hv.1 (fun c hc => by rw [u2_ne (by omega), q3 c (by omega)]), ?_, ?_, ?_, ?_, ?_, ?_, by omega⟩ <;> rw [u2_ne (show (113 : Nat) ≠ 122 by omega), e113]
  · exact VCo_y (fun j h1 h2 => zy j (by omega) (by omega) (by omega) (by omega) (fun h hh => by omega)) (by rw [zy 2 (by omega) (by omega) (by omega) (by omega) (fun h hh => by omega)]; exact g2.2) g2
  · exact RC_y (fun j h1 h2 => zy j (by omega) (by omega) (by omega) (by omega) (fun h hh => by omega)) (by rw [u2_ne (by omega), hrow 118 (by omega) (by omega) (by omega) (by omega)]) g3
  · exact RM_0 zs (fun j hj => by rw [u2_ne (by omega), q2, if_pos ⟨Nat.zero_le _, hj⟩])
  · exact RB_y hvr.en.2.1 (zy 5 (by omega) (by omega) (by omega) (by omega) (fun h hh => by omega)) (fun j h1 h2 => zy j (by omega) (by omega) (by omega) (by omega) (fun h hh => by omega)) (by rw [u2_ne (by omega), hrow 120 (by omega) (by omega) (by omega) (by omega)]) g5
  · refine ⟨?_, ?_, ?_, ?_, ?_, ?_⟩
    · rw [u2_n (Or.inr (by omega)), e122 0 (by omega), r0, zy 0 (by omega) (by omega) (by omega) (by omega) (fun h hh => by omega)]
    · rw [u2_n (Or.inr (by omega)), e122 1 (by omega), r1, zy 1 (by omega) (by omega) (by omega) (by omega) (fun h hh => by omega)]
    · rw [u2_n (Or.inr (by omega)), e122 2 (by omega), r2, zy 2 (by omega) (by omega) (by omega) (by omega) (fun h hh => by omega)]
    · rw [u2_n (Or.inr (by omega)), e122 3 (by omega), r3, zy 3 (by omega) (by omega) (by omega) (by omega) (fun h hh => by omega)]
    · rw [u2_s, z4]
    · rw [u2_n (Or.inr (by omega)), e122 5 (by omega), r5, zy 5 (by omega) (by omega) (by omega) (by omega) (fun h hh => by omega)]
  · refine ⟨?_, ?_, ?_, fun m hm => ?_⟩
    · rw [u2_n (Or.inr (by omega)), e226]
    · rw [zx 7 (by omega) (fun h hh => by omega), k4, z7, n1]
    · rw [zx 6 (by omega) (fun h hh => by omega), k3, lgn_s]
    · rw [lgn_s] at hm
      rw [u2_ne (by omega), e121, zx _ (by omega) (fun h hh => by omega)]
      by_cases qm : m = nl (lgn T)
      · subst qm
        refine ⟨ls.length, hl5, k5, w0, fun i hi => ?_⟩
        rw [w1 i hi, zx _ (by omega) (fun h hh => by omega), show 87 + 6 * nl (lgn T) + (1 + i) = 88 + 6 * nl (lgn T) + i by omega, k6 i hi]
      · have hml : m < nl (lgn T) := by omega
        have k80 := k8 m 0 hml (by omega)
        have w20 := w2 m 0 hml (by omega)
        rw [Nat.add_zero, Nat.add_zero] at k80 w20
        by_cases q8 : lgn T = 8
        · have hm1 : m + 1 < lgn T := by unfold nl at hml; rw [if_pos q8] at hml; omega
          obtain ⟨l, hl, a1, a2, a3⟩ := hlog (m + 1) hm1
          rw [if_pos q8] at k80 w20
          refine ⟨l, hl, k80.trans a1, w20.trans a2, fun i hi => ?_⟩
          have k8i := k8 m (1 + i) hml (by omega)
          have w2i := w2 m (1 + i) hml (by omega)
          rw [if_pos q8] at k8i w2i
          rw [w2i, a3 i hi, zx _ (by omega) (fun h hh => by omega), k8i]
        · have hm1 : m < lgn T := by unfold nl at hml; rw [if_neg q8] at hml; exact hml
          obtain ⟨l, hl, a1, a2, a3⟩ := hlog m hm1
          rw [if_neg q8] at k80 w20
          refine ⟨l, hl, k80.trans a1, w20.trans a2, fun i hi => ?_⟩
          have k8i := k8 m (1 + i) hml (by omega)
          have w2i := w2 m (1 + i) hml (by omega)
          rw [if_neg q8] at k8i w2i
          rw [w2i, a3 i hi, zx _ (by omega) (fun h hh => by omega), k8i]
theorem k_low2 (hJ : JJ V T) (he : e < 64) (hT : T < 500) (h4 : V 113 4 = 2) : NX K e T (f_L_law_1313 xs L K V (nI e) 1 (nI (hc_ (V 113) 5))) := by
  have hF := FU_v
  obtain ⟨g1, g2, g3, g4, g5, g6, g7, g8⟩ := id hJ
  obtain ⟨r0, r1, r2, r3, r4, r5⟩ := g6
  obtain ⟨t6, z7, z6, hlog⟩ := g7
  have hvr := g1.2.1.vr
  obtain ⟨s, hs, es⟩ := sd2 g1.2.1.1
  obtain ⟨hh, hh5, hne⟩ := g1.2.1.2.1.2 (by rw [h4]; decide)
  have hpos := (hc_pos hvr.sz 5 (by omega)).mpr ⟨hh, hh5, hne⟩
  have hcl := hc_le (V 113) 5
  obtain ⟨ls, hls⟩ : ∃ ls, ML (WM (V 113) (nI s)) (nI s) = ls := ⟨_, rfl⟩
  have hlen : ls.length = hc_ (V 113) 5 := by rw [← hls]; exact len_hc hvr _
  have hl5 : ls.length ≤ 5 := by omega
  have h8 := lgn_le T
  -- behind the shift: the row Va, its place q
  have fin : ∀ (Va : Wd), (∀ c, c ≠ 121 → Va c = V c) → (∀ m i, m < nl (lgn T) → i < 6 → Va 121 (6 * m + i) = if lgn T = 8 then V 121 (6 * (m + 1) + i) else V 121 (6 * m + i)) → NX K e T (st_ Va 121 48 (nI (6 * nl (lgn T))) (nI ls.length) fun V1 => f_L_law_1394 xs L K FU_ V1 (nI e) 1 (nI ls.length) (nI (6 * nl (lgn T))) 0) := by
    intro Va ha hb
    have nl7 : nl (lgn T) < 8 := by unfold nl; split <;> omega
    rw [st_n (by omega) (by omega)]
    obtain ⟨V', b1, b2, b3⟩ := k_1394 (xs := xs) (L := L) (K := K) (z := V 113) (s := s) (q := 6 * nl (lgn T)) hs (by omega) hls (nI e) 1 ls.length FU_ (u2 Va 121 (6 * nl (lgn T)) (nI ls.length)) (Nat.le_refl _) (by omega) (RR_121 hJ.rr (fun c hc => by rw [u2_ne hc, ha c hc])) (by rw [u2_ne (by omega), ha 122 (by omega), r3, es])
    rw [Nat.sub_self] at b1 b2
    rw [show f_L_law_1394 xs L K FU_ (u2 Va 121 (6 * nl (lgn T)) (nI ls.length)) (nI e) 1 (nI ls.length) (nI (6 * nl (lgn T))) 0 = _ from b1]
    refine k_1440 hJ he hT h4 (by rw [es]; exact hls) (fun c hc => by rw [b3 c hc, u2_ne hc, ha c hc]) ?_ (fun i hi => ?_) (fun m i hm hi => ?_)
    · rw [b2, if_neg (by omega), u2_s]
    · rw [b2, if_pos (by omega), show 6 * nl (lgn T) + (1 + i) - (6 * nl (lgn T) + 1) = i by omega]
    · rw [b2, if_neg (by omega), u2_n (Or.inr (by omega)), hb m i hm hi]
  unfold f_L_law_1313
  rw [← hlen, if_neg (by rw [show (0 : Int32) = nI 0 from rfl, nJ_le (by omega) (by omega)]; omega), tr6, tr6, t6]
  by_cases q : 8 ≤ T
  · have e8 : lgn T = 8 := by
      unfold lgn
      split <;> omega
    have en7 : nl (lgn T) = 7 := by unfold nl; rw [if_pos e8]
    obtain ⟨Va, a1, a2, a3⟩ := k_1348 (xs := xs) (L := L) (K := K) (nI e) 1 (nI ls.length) 42 q (by omega) 42 FU_ V (by omega) (by omega) t6
    rw [Nat.sub_self] at a1 a2
    rw [if_pos (by rw [L8, nJ_le (by omega) (by omega)]; exact q), show f_L_law_1348 xs L K FU_ V (nI e) 1 (nI ls.length) 42 0 = _ from a1]
    have hfin := fin Va a3 (fun m i hm hi => by
      rw [a2, if_pos (by omega), if_pos e8, show 6 * m + i + 6 = 6 * (m + 1) + i by omega])
    rw [en7] at hfin
    exact hfin
  · have e8 : lgn T = T := by
      unfold lgn
      rw [if_pos (by omega)]
    have en7 : nl (lgn T) = T := by unfold nl; rw [if_neg (by omega), e8]
    obtain ⟨n, hn⟩ : ∃ n, FU_ = n + 1 := ⟨FU_ - 1, by omega⟩
    have hfin := fin V (fun _ _ => rfl) (fun m i hm hi => by rw [if_neg (by omega)])
    have h48 : f_L_law_1348 xs L K FU_ V (nI e) 1 (nI ls.length) (nI (6 * T)) 0 = (st_ V 121 48 (nI (6 * T)) (nI ls.length) fun V1 => f_L_law_1394 xs L K FU_ V1 (nI e) 1 (nI ls.length) (nI (6 * T)) 0) := by
      have hq : ∀ n, f_L_law_1348 xs L K (n + 1) V (nI e) 1 (nI ls.length) (nI (6 * T)) 0 = (st_ V 121 48 (nI (6 * T)) (nI ls.length) fun V1 => f_L_law_1394 xs L K FU_ V1 (nI e) 1 (nI ls.length) (nI (6 * T)) 0) := fun n => by
        rw [f_L_law_1348, if_neg (by decide), tr6, t6, if_pos (by rw [show (7 : Int32) = nI 7 from rfl, nJ_le (by omega) (by omega)]; omega)]
      rw [← hq n, ← hn]
    rw [if_neg (by rw [L8, nJ_le (by omega) (by omega)]; exact q), show 6 * nI T = nI (6 * T) by simp only [L6, pk_mul], lib_, h48]
    rw [en7] at hfin
    exact hfin
end CH

/-! Pure: the law's choices: stock, bend, unbend, exchange. -/
theorem RR_law {V V2 : Wd} {z : Nat → Int32} (hR : RR V z) (e : ∀ c, 117 < c → V2 c = V c) : RR V2 z := by
  obtain ⟨hv, hc, hC, hM, hB, hT⟩ := hR
  refine ⟨hv, hc, ?_, ?_, ?_, ?_⟩
  · unfold RC at *; rw [e 118 (by omega)]; exact hC
  · unfold RM at *; rw [e 119 (by omega)]; exact hM
  · unfold RB at *; rw [e 120 (by omega)]; exact hB
  · unfold RT at *; rw [e 122 (by omega)]; exact hT
theorem JJ_same {V V1 V2 : Wd} {T : Nat} (hJ : JJ V T) (h : Iv V V1 V2) (ez : V2 113 = V 113) : JJ V2 T := by
  obtain ⟨r0, r1, r2, r3, r4, r5⟩ := hJ.2.2.2.2.2.1
  have e122 : V2 122 = V 122 := h.law (by omega)
  exact JJ_t (V2 := V2) hJ h.1 (fun c hc _ => h.law hc) (fun j _ => by rw [ez]) (by rw [ez]; exact hJ.2.1.2) (fun _ _ => rfl) (by rw [e122]) (by rw [e122]) ⟨by rw [e122, ez, r0], by rw [e122, ez, r1], by rw [e122, ez, r2], by rw [e122, ez, r3], by rw [e122, ez, r4]⟩
/-- a choice that changes the mast and brings the pennant down -/
theorem JJ_m {V V1 V2 W : Wd} {T : Nat} (hJ : JJ V T) (h : Iv V V1 V2) (hz : ∀ j, j ≠ 4 → j < 38 ∨ 63 ≤ j → V2 113 j = V 113 j) (z4 : V2 113 4 = 0) (hw : ∀ c, c ≠ 119 → c ≠ 122 → W c = V2 c) (hw2 : ∀ j, j ≠ 4 → W 122 j = V 122 j) (hw4 : W 122 4 = 0) (hM : RM W (V2 113)) : JJ W T := by
  obtain ⟨h1, h2, h3, h4, h5, h6, h7, h8⟩ := hJ
  obtain ⟨r0, r1, r2, r3, r4, r5⟩ := h6
  have e113 : W 113 = V2 113 := hw 113 (by omega) (by omega)
  have hrow : ∀ c, 117 < c → c ≠ 119 → c ≠ 122 → W c = V c := fun c hc h1 h2 => (hw c h1 h2).trans (h.law hc)
  refine ⟨Inv_law h.1 (fun c hc => hw c (by omega) (by omega)), ?_, ?_, ?_, ?_, ?_, ?_, h8⟩
  · rw [e113]; exact VCo_y (fun j hj _ => hz j (by omega) (by omega)) (by rw [hz 2 (by omega) (by omega)]; exact h2.2) h2
  · rw [e113]; exact RC_y (fun j hj _ => hz j (by omega) (by omega)) (hrow 118 (by omega) (by omega) (by omega)) h3
  · rw [e113]; exact hM
  · rw [e113]; exact RB_y h1.2.1.vr.en.2.1 (hz 5 (by omega) (by omega)) (fun j hj _ => hz j (by omega) (by omega)) (hrow 120 (by omega) (by omega) (by omega)) h5
  · rw [e113]
    exact ⟨by rw [hw2 0 (by omega), r0, hz 0 (by omega) (by omega)], by rw [hw2 1 (by omega), r1, hz 1 (by omega) (by omega)], by rw [hw2 2 (by omega), r2, hz 2 (by omega) (by omega)], by rw [hw2 3 (by omega), r3, hz 3 (by omega) (by omega)], by rw [hw4, z4], by rw [hw2 5 (by omega), r5, hz 5 (by omega) (by omega)]⟩
  · rw [e113]; exact RLg_y (hz 6 (by omega) (by omega)) (hz 7 (by omega) (by omega)) (fun j hj => hz j (by omega) (by omega)) (hrow 121 (by omega) (by omega) (by omega)) (hw2 6 (by omega)) h7
section CH
variable {xs : Nat → Int32} {L : Nat} {K : Wd → Int32 → Option (Int32 × Wd)} {V : Wd} {T e : Nat}
theorem k_407 (hJ : JJ V T) (st : Int32) : ∀ (d n : Nat) (x : Int32), d ≤ 14 → d < n → ((x = 1 ∧ ∀ s, s < 14 - d → nI (cnA (V 113) (nI s) 5) ≤ st) ∨ (x = 0 ∧ ∃ s, s < 14 ∧ ¬ nI (cnA (V 113) (nI s) 5) ≤ st)) → ∃ y, ((y = 1 ∧ ∀ s, s < 14 → nI (cnA (V 113) (nI s) 5) ≤ st) ∨ (y = 0 ∧ ∃ s, s < 14 ∧ ¬ nI (cnA (V 113) (nI s) 5) ≤ st)) ∧ f_L_law_407 xs L K n V (nI e) st x (nI (14 - d)) = f_L_law_443 xs L K V (nI e) st y := by
  intro d
  induction d with
  | zero =>
    intro n x hd hn hx
    obtain ⟨n, rfl⟩ : ∃ k, n = k + 1 := ⟨n - 1, by omega⟩
    refine ⟨x, hx, ?_⟩
    rw [f_L_law_407, if_pos (by decide)]
  | succ d ih =>
    intro n x hd hn hx
    obtain ⟨n, rfl⟩ : ∃ k, n = k + 1 := ⟨n - 1, by omega⟩
    obtain ⟨s, hs⟩ : ∃ s, s = 14 - (d + 1) := ⟨_, rfl⟩
    rw [f_L_law_407, ← hs, if_neg (by rw [show (14 : Int32) = nI 14 from rfl, nJ_le (by omega) (by omega)]; omega), n1, show s + 1 = 14 - d by omega]
    rcases hx with ⟨rfl, hx⟩ | ⟨rfl, hx⟩
    · rw [if_neg t10, l_used hJ.rr (by omega), obs]
      by_cases q : st < nI (cnA (V 113) (nI s) 5)
      · rw [if_pos q]
        exact ih n 0 (by omega) (by omega) (Or.inr ⟨rfl, s, by omega, nle_lt.mpr q⟩)
      · rw [if_neg q]
        refine ih n 1 (by omega) (by omega) (Or.inl ⟨rfl, fun t ht => ?_⟩)
        by_cases qt : t = s
        · rw [qt]; exact nlt_le.mp q
        · exact hx t (by omega)
    · rw [if_pos t00]
      exact ih n 0 (by omega) (by omega) (Or.inr ⟨rfl, hx⟩)
theorem k_setStock (hJ : JJ V T) (he : e < 64) {k : Nat} (hk : k < 3) : NX K e T (f_L_law_407 xs L K FU_ V (nI e) (nI (1 + k)) 1 0) := by
  have hF := FU_v
  obtain ⟨r0, r1, r2, r3, r4, r5⟩ := hJ.2.2.2.2.2.1
  have hsz := hJ.1.2.1.vr.sz
  obtain ⟨y, hy, ey⟩ := k_407 (xs := xs) (L := L) (K := K) (e := e) hJ (nI (1 + k)) 14 FU_ 1 (by omega) (by omega) (Or.inl ⟨rfl, fun s hs => absurd hs (by omega)⟩)
  rw [show f_L_law_407 xs L K FU_ V (nI e) (nI (1 + k)) 1 0 = _ from ey]
  obtain ⟨r, V1, V2, h1, h2, hv⟩ := st_setStock V hJ.1 (nI (1 + k))
  have e1 : V1 113 = V 113 := hv.2.1 113 (by omega)
  have e122 : V2 122 = V 122 := hv.law (by omega)
  have hin : f_X9_in (nI (1 + k)) 1 3 = 1 := in_yes (by rw [L1, nJ_le (by omega) (by omega)]; omega) (by rw [L3, nJ_le (by omega) (by omega)]; omega)
  have h3 := h2
  unfold f_X9_setStock at h3
  rw [hin, if_neg t10, m_mostUsed (V := V1) (by rw [e1]; exact hsz), obs, e1] at h3
  have hmx := mx_le (z := V 113) (nI (1 + k)) 14
  unfold f_L_law_443
  rw [h1, obs]
  dsimp only
  rw [h2, obs]
  dsimp only
  rw [gx_iv hv, lib_]
  rcases hy with ⟨rfl, hy⟩ | ⟨rfl, s, hs, hy⟩
  · rw [if_pos (hmx.mpr ⟨nI_pos' (by omega), hy⟩)] at h3
    obtain ⟨W, m1, m2⟩ := m_rc hJ.1 hv.2.1
    rw [m1, obs, zr0, zs0, m2] at h3
    obtain ⟨hr, hV⟩ := Prod.mk.inj (Option.some.inj h3)
    have ez : V2 113 = upd (V 113) 0 (nI (1 + k)) := by rw [← hV, u2_at, m2]
    rw [if_neg t10, tr0, e122, r0]
    unfold f_L_law_466
    rw [if_pos hr.symm]
    unfold f_L_law_474 f_L_law_493
    rw [if_neg t10, ts0]
    refine nx_end he (Nat.le_succ T) (Or.inl ⟨rfl, JJ_t (V2 := V2) hJ hv.1 (fun c hc _ => hv.law hc) (fun j hj => ?_) ?_ (fun c hc => ?_) ?_ ?_ ⟨?_, ?_, ?_, ?_, ?_⟩⟩)
    · rw [ez, pk_un (by omega)]
    · rw [ez, pk_un (by omega)]; exact hJ.2.1.2
    · rw [u2_ne hc]
    · rw [u2_n (Or.inr (by omega)), e122]
    · rw [u2_n (Or.inr (by omega)), e122]
    · rw [u2_s, ez, pk_us]
    · rw [u2_n (Or.inr (by omega)), e122, r1, ez, pk_un (by omega)]
    · rw [u2_n (Or.inr (by omega)), e122, r2, ez, pk_un (by omega)]
    · rw [u2_n (Or.inr (by omega)), e122, r3, ez, pk_un (by omega)]
    · rw [u2_n (Or.inr (by omega)), e122, r4, ez, pk_un (by omega)]
  · rw [if_neg (fun h => hy ((hmx.mp h).2 s hs))] at h3
    obtain ⟨hr, hV⟩ := Prod.mk.inj (Option.some.inj h3)
    rw [if_pos t00]
    unfold f_L_law_466
    rw [if_pos hr.symm]
    unfold f_L_law_474 f_L_law_493
    rw [if_pos t00, tr0, ts0, u2_back (V := V2) (V' := V2) (fun _ _ => rfl) (fun _ _ => rfl) rfl]
    exact nx_end he (Nat.le_succ T) (Or.inl ⟨rfl, JJ_same hJ hv (by rw [← hV, e1])⟩)
theorem q_hal {h : Nat} (hh : h < 5) : f_X9_isHalyard (nI h) = 1 := q_in4 hh
theorem em38 (h : Nat) : (38 : Int32) + 5 * nI h = nI (38 + 5 * h) := by simp only [L38, L5, pk_mul, nI_add]
/-- bend behind the law's own questions: must, full, and what it does -/
theorem k_674 (hJ : JJ V T) (he : e < 64) {h s : Nat} (hh : h < 5) (hs : s < 10 ∨ (11 ≤ s ∧ s ≤ 13)) (must full : Int32) (hm : (must = 1 ∧ 10 < s ∧ ¬ s - 10 ≤ sn (V 113) h) ∨ (must = 0 ∧ (s ≤ 10 ∨ s - 10 ≤ sn (V 113) h))) (hf : (full = 1 ∧ (sn (V 113) h = 4 ∨ ¬ nI (cnA (V 113) (nI s) 5) < V 113 0)) ∨ (full = 0 ∧ sn (V 113) h ≠ 4 ∧ nI (cnA (V 113) (nI s) 5) < V 113 0)) : NX K e T (f_L_law_674 xs L K V (nI e) (nI h) (nI (sn (V 113) h)) (nI s) must full (if must = 0 ∧ full = 0 then 1 else 0)) := by
  have hvz := hJ.1.2.1
  have hsz := hvz.vr.sz
  obtain ⟨eS, h4, hsg⟩ := hvz.vr.sn hh
  obtain ⟨r, V1, V2, h1, h2, hv⟩ := st_bend V hJ.1 (nI h) (nI s)
  have e1 : V1 113 = V 113 := hv.2.1 113 (by omega)
  have e119 : V2 119 = V 119 := hv.law (by omega)
  have e122 : V2 122 = V 122 := hv.law (by omega)
  have hsi : f_X9_isSign (nI s) = 1 := by
    unfold f_X9_isSign f_X9_isFlag
    rcases hs with hs | hs
    · rw [q_in9 hs, if_neg t10]
    · have a : f_X9_in (nI s) 0 9 = 0 := in_no (Or.inr (by rw [L9, nJ_lt (by omega) (by omega)]; omega))
      have b : f_X9_in (nI s) 11 13 = 1 := in_yes (by rw [L11, nJ_le (by omega) (by omega)]; omega) (by rw [show (13 : Int32) = nI 13 from rfl, nJ_le (by omega) (by omega)]; omega)
      rw [a, if_pos t00, b, if_neg t10]
  have h3 := h2
  unfold f_X9_bend at h3
  rw [q_hal hh, if_neg t10, hsi, if_neg t10, m_many V1 hh, obs, e1, eS] at h3
  unfold f_L_law_674
  rw [h1, obs]
  dsimp only
  rw [h2, obs]
  dsimp only
  rw [gx_iv hv, lib_]
  have stay : ∀ x : Int32, r = x → V1 = V2 → NX K e T (f_L_law_708 xs L K V2 (nI e) (nI h) (nI (sn (V 113) h)) 0 (nI s) x r) := by
    intro x hr hV
    unfold f_L_law_708
    rw [if_pos hr]
    unfold f_L_law_716 f_L_law_734
    rw [if_pos t00]
    exact nx_end he (Nat.le_succ T) (Or.inl ⟨rfl, JJ_same hJ hv (by rw [← hV, e1])⟩)
  rcases hm with ⟨rfl, hs10, hn⟩ | ⟨rfl, hmm⟩
  · -- must
    have e10 : nI s - 10 = nI (s - 10) := by rw [L10, pk_sub (by omega)]
    rw [if_neg (by rw [L10, nJ_le (by omega) (by omega)]; omega), e10, if_neg (by rw [nJ_le (by omega) (by omega)]; exact hn)] at h3
    obtain ⟨hr, hV⟩ := Prod.mk.inj (Option.some.inj h3)
    rw [if_neg t10, if_neg (fun h => t10 h.1)]
    exact stay (-3) hr.symm hV
  · have h37 : f_X9_bend_37 (nI h) (nI s) V1 = some (r, V2) := by
      by_cases q : s ≤ 10
      · rw [if_pos (by rw [L10, nJ_le (by omega) (by omega)]; exact q)] at h3
        exact h3
      · have e10 : nI s - 10 = nI (s - 10) := by rw [L10, pk_sub (by omega)]
        rw [if_neg (by rw [L10, nJ_le (by omega) (by omega)]; omega), e10, if_pos (by rw [nJ_le (by omega) (by omega)]; omega)] at h3
        exact h3
    have hcn := hvz.c s (by omega)
    unfold f_X9_bend_37 at h37
    rw [m_many V1 hh, obs, e1, eS, m_used (V := V1) (by rw [e1]; exact hsz), obs, e1, zr0] at h37
    rw [if_pos t00]
    rcases hf with ⟨rfl, hff⟩ | ⟨rfl, hn4, hlt⟩
    · -- full
      have hr : some ((-4 : Int32), V1) = some (r, V2) := by
        by_cases q : sn (V 113) h = 4
        · rw [if_pos (by rw [q]; rfl)] at h37
          exact h37
        · rw [if_neg (by rw [L4, nJ_eq (by omega) (by omega)]; exact q), if_pos] at h37
          · exact h37
          · have h5 := nlt_le.mp (hff.resolve_left q)
            rw [I_le] at h5 hcn
            exact Int32.toInt.inj (by omega)
      obtain ⟨hr, hV⟩ := Prod.mk.inj (Option.some.inj hr)
      rw [if_neg t10, if_neg (fun h => t10 h.2)]
      exact stay (-4) hr.symm hV
    · obtain ⟨W, m1, m2⟩ := m_rd hJ.1 hv.2.1
      obtain ⟨n, hn⟩ : ∃ n, n = sn (V 113) h := ⟨_, rfl⟩
      rw [← hn] at eS hn4 h37 hsg h4 ⊢
      have eS2 : W 113 (38 + 5 * h) = nI n := by rw [m2, pk_un (by omega)]; exact eS
      have em2 : nI (38 + 5 * h) + nI (n + 1) = nI (39 + 5 * h + n) := by rw [nI_add]; congr 1; omega
      rw [if_neg (by rw [L4, nJ_eq (by omega) (by omega)]; exact hn4), if_neg (fun hq => by rw [hq] at hlt; exact absurd hlt (by rw [I_lt]; omega)), m1, obs] at h37
      unfold f_X9_putOn at h37
      rw [em38, rdb (n := 38 + 5 * h) rfl (by omega) (by omega), eS2, n1, st_n (by omega) (by omega), m_many _ hh, obs] at h37
      have e5 : zS (u2 W 113 (38 + 5 * h) (nI (n + 1)) 113) h = nI (n + 1) := by
        show u2 W 113 (38 + 5 * h) (nI (n + 1)) 113 (38 + 5 * h) = _
        rw [u2_s]
      rw [e5, em2, st_n (by omega) (by omega), obs, m_many _ hh, obs] at h37
      obtain ⟨hr, hV⟩ := Prod.mk.inj (Option.some.inj h37)
      have ez : V2 113 = upd (upd (upd (V 113) 4 0) (38 + 5 * h) (nI (n + 1))) (39 + 5 * h + n) (nI s) := by rw [← hV, u2_at, u2_at, m2]
      have zh : zS (V2 113) h = nI (n + 1) := by
        show V2 113 (38 + 5 * h) = _
        rw [ez, pk_un (by omega), pk_us]
      have hr' : r = nI n + 1 := by rw [← hr, hV, n1]; exact zh
      rw [if_pos t00, if_pos ⟨rfl, rfl⟩]
      unfold f_L_law_708
      rw [if_pos hr']
      unfold f_L_law_716 f_L_law_734
      rw [if_neg t10, i4, st_n (by omega) (by omega)]
      refine nx_end he (Nat.le_succ T) (Or.inr ⟨rfl, JJ_m hJ hv (fun j h1 h2 => ?_) ?_ (fun c h1 h2 => ?_) (fun j hj => ?_) ?_ (fun k p hk hp => ?_)⟩)
      · rw [ez, pk_un (by omega), pk_un (by omega), pk_un h1]
      · rw [ez, pk_un (by omega), pk_un (by omega), pk_us]
      · rw [u2_ne h2, u2_ne h1]
      · rw [u2_n (Or.inr hj), u2_ne (by omega), e122]
      · rw [u2_s]
      · rw [u2_ne (by omega)]
        have hM := hJ.2.2.2.1 k p hk hp
        by_cases qk : k = h
        · subst qk
          have sz : sn (V2 113) k = n + 1 := snE zh (by omega)
          rw [sz]
          rw [← hn] at hM
          by_cases qp : p = n
          · subst qp
            rw [u2_s, if_pos (by omega)]
            show nI s = V2 113 (39 + 5 * k + p)
            rw [ez, pk_us]
          · rw [u2_n (Or.inr (by omega)), e119, hM]
            by_cases qq : p < n
            · rw [if_pos qq, if_pos (by omega)]
              show V 113 (39 + 5 * k + p) = V2 113 (39 + 5 * k + p)
              rw [ez, pk_un (by omega), pk_un (by omega), pk_un (by omega)]
            · rw [if_neg qq, if_neg (by omega)]
        · have sz : sn (V2 113) k = sn (V 113) k := by
            unfold sn
            rw [show zS (V2 113) k = zS (V 113) k by show V2 113 (38 + 5 * k) = V 113 (38 + 5 * k); rw [ez, pk_un (by omega), pk_un (by omega), pk_un (by omega)]]
          rw [u2_n (Or.inr (by omega)), e119, hM, sz]
          by_cases qq : p < sn (V 113) k
          · rw [if_pos qq, if_pos qq]
            show V 113 (39 + 5 * k + p) = V2 113 (39 + 5 * k + p)
            rw [ez, pk_un (by omega), pk_un (by omega), pk_un (by omega)]
          · rw [if_neg qq, if_neg qq]
theorem k_bend (hJ : JJ V T) (he : e < 64) {h s : Nat} (hh : h < 5) (hs : s < 10 ∨ (11 ≤ s ∧ s ≤ 13)) : NX K e T (f_L_law_607 xs L K V (nI e) (nI h) (nI (sn (V 113) h)) (nI s)) := by
  obtain ⟨eS, h4, hsg⟩ := hJ.1.2.1.vr.sn hh
  have step : ∀ must : Int32, ((must = 1 ∧ 10 < s ∧ ¬ s - 10 ≤ sn (V 113) h) ∨ (must = 0 ∧ (s ≤ 10 ∨ s - 10 ≤ sn (V 113) h))) → NX K e T (f_L_law_631 xs L K V (nI e) (nI h) (nI (sn (V 113) h)) (nI s) must) := by
    intro must hm
    have m01 : must = 1 ∨ must = 0 := hm.imp (fun h => h.1) (fun h => h.1)
    have fin : ∀ full : Int32, ((full = 1 ∧ (sn (V 113) h = 4 ∨ ¬ nI (cnA (V 113) (nI s) 5) < V 113 0)) ∨ (full = 0 ∧ sn (V 113) h ≠ 4 ∧ nI (cnA (V 113) (nI s) 5) < V 113 0)) → NX K e T (f_L_law_657 xs L K V (nI e) (nI h) (nI (sn (V 113) h)) (nI s) must full) := by
      intro full hf
      have f01 : full = 1 ∨ full = 0 := hf.imp (fun h => h.1) (fun h => h.1)
      have hk := k_674 (xs := xs) (L := L) (K := K) hJ he hh hs must full hm hf
      unfold f_L_law_657 f_L_law_673
      rcases m01 with rfl | rfl
      · rw [if_neg (fun h => t10 h.1)] at hk
        rw [if_neg t10]
        exact hk
      · rcases f01 with rfl | rfl
        · rw [if_neg (fun h => t10 h.2)] at hk
          rw [if_pos t00, if_neg t10]
          exact hk
        · rw [if_pos ⟨rfl, rfl⟩] at hk
          rw [if_pos t00, if_pos t00]
          exact hk
    unfold f_L_law_631 f_L_law_652
    by_cases q4 : sn (V 113) h = 4
    · rw [if_pos (by rw [q4]; rfl)]
      exact fin 1 (Or.inl ⟨rfl, Or.inl q4⟩)
    · rw [if_neg (by rw [L4, nJ_eq (by omega) (by omega)]; exact q4), l_used hJ.rr (by omega), obs, tr0, hJ.2.2.2.2.2.1.1]
      by_cases ql : nI (cnA (V 113) (nI s) 5) < V 113 0
      · rw [if_pos ql]
        exact fin 0 (Or.inr ⟨rfl, q4, ql⟩)
      · rw [if_neg ql]
        exact fin 1 (Or.inl ⟨rfl, Or.inr ql⟩)
  unfold f_L_law_607 f_L_law_630
  by_cases q9 : s ≤ 9
  · rw [if_pos (by rw [L9, nJ_le (by omega) (by omega)]; exact q9)]
    exact step 0 (Or.inr ⟨rfl, Or.inl (by omega)⟩)
  · have e10 : nI s - 10 = nI (s - 10) := by rw [L10, pk_sub (by omega)]
    rw [if_neg (by rw [L9, nJ_le (by omega) (by omega)]; exact q9), e10]
    by_cases qn : s - 10 ≤ sn (V 113) h
    · rw [if_pos (by rw [nJ_le (by omega) (by omega)]; exact qn)]
      exact step 0 (Or.inr ⟨rfl, Or.inr qn⟩)
    · rw [if_neg (by rw [nJ_le (by omega) (by omega)]; exact qn)]
      exact step 1 (Or.inl ⟨rfl, by omega, qn⟩)
theorem k_unbend (hJ : JJ V T) (he : e < 64) {h : Nat} (hh : h < 5) : NX K e T (f_L_law_754 xs L K V (nI e) (nI h) (nI (sn (V 113) h)) (if sn (V 113) h = 0 then 0 else 1)) := by
  obtain ⟨eS, h4, hsg⟩ := hJ.1.2.1.vr.sn hh
  obtain ⟨r, V1, V2, h1, h2, hv⟩ := st_unbend V hJ.1 (nI h)
  have e1 : V1 113 = V 113 := hv.2.1 113 (by omega)
  have e119 : V2 119 = V 119 := hv.law (by omega)
  have e122 : V2 122 = V 122 := hv.law (by omega)
  have h3 := h2
  unfold f_X9_unbend at h3
  rw [q_hal hh, if_neg t10, m_many V1 hh, obs, e1, eS] at h3
  unfold f_L_law_754
  rw [h1, obs]
  dsimp only
  rw [h2, obs]
  dsimp only
  rw [gx_iv hv, lib_]
  by_cases q0 : sn (V 113) h = 0
  · rw [q0, if_pos (show nI 0 = 0 from rfl)] at h3
    obtain ⟨hr, hV⟩ := Prod.mk.inj (Option.some.inj h3)
    rw [q0, if_pos rfl, if_pos (by decide)]
    unfold f_L_law_783
    rw [if_pos hr.symm]
    unfold f_L_law_791
    rw [if_pos (by decide)]
    exact nx_end he (Nat.le_succ T) (Or.inl ⟨rfl, JJ_same hJ hv (by rw [← hV, e1])⟩)
  · obtain ⟨m, hm⟩ : ∃ m, sn (V 113) h = m + 1 := ⟨sn (V 113) h - 1, by omega⟩
    obtain ⟨W, m1, m2⟩ := m_rd hJ.1 hv.2.1
    rw [hm] at eS h3 h4 ⊢
    have eS2 : W 113 (38 + 5 * h) = nI (m + 1) := by rw [m2, pk_un (by omega)]; exact eS
    rw [if_neg (by rw [show (0 : Int32) = nI 0 from rfl, nJ_eq (by omega) (by omega)]; omega), m1, obs, em38, rdb (n := 38 + 5 * h) rfl (by omega) (by omega), eS2, ns1, st_n (by omega) (by omega), m_many _ hh, obs] at h3
    have e5 : zS (u2 W 113 (38 + 5 * h) (nI m) 113) h = nI m := by
      show u2 W 113 (38 + 5 * h) (nI m) 113 (38 + 5 * h) = _
      rw [u2_s]
    rw [e5, n1, m_signOn _ hh (by omega), obs] at h3
    obtain ⟨hr, hV⟩ := Prod.mk.inj (Option.some.inj h3)
    have ez : V2 113 = upd (upd (V 113) 4 0) (38 + 5 * h) (nI m) := by rw [← hV, u2_at, m2]
    have hr' : r = zG (V 113) h m := by
      rw [← hr]
      show u2 W 113 (38 + 5 * h) (nI m) 113 (39 + 5 * h + m) = V 113 (39 + 5 * h + m)
      rw [u2_n (Or.inr (by omega)), m2, pk_un (by omega)]
    have zh : zS (V2 113) h = nI m := by
      show V2 113 (38 + 5 * h) = _
      rw [ez, pk_us]
    have ei : 4 * nI h + nI (m + 1) - 1 = nI (4 * h + m) := by rw [i4, show 4 * h + (m + 1) = (4 * h + m) + 1 by omega, ns1]
    have hp : ¬ nI (m + 1) ≤ 0 := by rw [show (0 : Int32) = nI 0 from rfl, nJ_le (by omega) (by omega)]; omega
    rw [if_neg hp, if_neg (show ¬ m + 1 = 0 by omega), ei, rdb (n := 4 * h + m) rfl (by omega) (by omega), e119, rm_y hJ.2.2.2.1 hh (by omega) (by omega)]
    unfold f_L_law_783
    rw [if_pos hr']
    unfold f_L_law_791
    rw [if_neg hp, ei, st_n (by omega) (by omega)]
    refine nx_end he (Nat.le_succ T) (Or.inr ⟨rfl, JJ_m hJ hv (fun j h1 h2 => ?_) ?_ (fun c h1 h2 => ?_) (fun j hj => ?_) ?_ (fun k p hk hp => ?_)⟩)
    · rw [ez, pk_un (by omega), pk_un h1]
    · rw [ez, pk_un (by omega), pk_us]
    · rw [u2_ne h2, u2_ne h1]
    · rw [u2_n (Or.inr hj), u2_ne (by omega), e122]
    · rw [u2_s]
    · rw [u2_ne (by omega)]
      have hM := hJ.2.2.2.1 k p hk hp
      have eG : zG (V2 113) k p = zG (V 113) k p := by
        show V2 113 (39 + 5 * k + p) = V 113 (39 + 5 * k + p)
        rw [ez, pk_un (by omega), pk_un (by omega)]
      rw [eG]
      by_cases qk : k = h
      · subst qk
        have sz : sn (V2 113) k = m := snE zh (by omega)
        rw [sz]
        rw [hm] at hM
        by_cases qp : p = m
        · subst qp
          rw [u2_s, if_neg (by omega)]
        · rw [u2_n (Or.inr (by omega)), e119, hM]
          by_cases qq : p < m
          · rw [if_pos qq, if_pos (by omega)]
          · rw [if_neg qq, if_neg (by omega)]
      · have sz : sn (V2 113) k = sn (V 113) k := by
          unfold sn
          rw [show zS (V2 113) k = zS (V 113) k by show V2 113 (38 + 5 * k) = V 113 (38 + 5 * k); rw [ez, pk_un (by omega), pk_un (by omega)]]
        rw [u2_n (Or.inr (by omega)), e119, hM, sz]
theorem k_exchange (hJ : JJ V T) (he : e < 64) {h k : Nat} (hh : h < 5) (hk : k < 5) : NX K e T (f_L_law_843 xs L K V (nI e) (nI h) (nI (sn (V 113) h)) (nI k) (if k = h then 0 else 1)) := by
  have hvr := hJ.1.2.1.vr
  obtain ⟨eS, h4, -⟩ := hvr.sn hh
  obtain ⟨eK, k4, -⟩ := hvr.sn hk
  obtain ⟨r, V1, V2, h1, h2, hv⟩ := st_exchange V hJ.1 (nI h) (nI k)
  have e1 : V1 113 = V 113 := hv.2.1 113 (by omega)
  have e119 : V2 119 = V 119 := hv.law (by omega)
  have e122 : V2 122 = V 122 := hv.law (by omega)
  have h3 := h2
  unfold f_X9_exchange at h3
  rw [q_hal hh, if_neg t10, q_hal hk, if_neg t10] at h3
  unfold f_L_law_843
  rw [h1, obs]
  dsimp only
  rw [h2, obs]
  dsimp only
  rw [gx_iv hv, lib_]
  by_cases q : k = h
  · rw [if_pos (by rw [q])] at h3
    obtain ⟨hr, hV⟩ := Prod.mk.inj (Option.some.inj h3)
    rw [if_pos (by rw [q]), if_pos q]
    unfold f_L_law_874
    rw [if_pos hr.symm]
    unfold f_L_law_882 f_L_law_899
    rw [if_pos (by rw [q])]
    exact nx_end he (Nat.le_succ T) (Or.inl ⟨rfl, JJ_same hJ hv (by rw [← hV, e1])⟩)
  · have qn : ¬ nI h = nI k := by rw [nJ_eq (by omega) (by omega)]; omega
    have qn2 : ¬ nI k = nI h := by rw [nJ_eq (by omega) (by omega)]; omega
    obtain ⟨W, m1, m2⟩ := m_rd hJ.1 hv.2.1
    obtain ⟨W3, d1, d2, d3⟩ := m_swaps hh hk (by omega) W
    rw [m2] at d2
    rw [if_neg qn, m1, obs, d1, obs, m_many W3 hh, obs, m_many W3 hk, obs, d2] at h3
    obtain ⟨hr, hV⟩ := Prod.mk.inj (Option.some.inj h3)
    have ez : V2 113 = swz (upd (V 113) 4 0) h k := by rw [← hV, d2]
    have z4S : ∀ j, zS (upd (V 113) 4 0) j = zS (V 113) j := fun j => pk_un (by omega)
    have hr' : r = nI (sn (V 113) h) + nI (sn (V 113) k) := by
      rw [← hr, swz_S _ h k hh, swz_S _ h k hk, show sw h k h = k by unfold sw; rw [if_pos rfl], show sw h k k = h by unfold sw; rw [if_neg q, if_pos rfl], z4S, z4S, eS, eK, nI_add, nI_add, Nat.add_comm]
    obtain ⟨V3, b1, b2, b3⟩ := l_swap V2 hh hk (by omega)
    rw [if_neg qn2, if_neg q, l_many (RR_law hJ.rr (fun c hc => hv.law hc)) hk, obs]
    unfold f_L_law_874
    rw [if_pos hr']
    unfold f_L_law_882 f_L_law_899
    rw [if_neg qn2, b1, obs]
    have hM2 : RM V2 (upd (V 113) 4 0) := RM_y (fun j _ _ => pk_un (by omega)) e119 hJ.2.2.2.1
    refine nx_end he (Nat.le_succ T) (Or.inr ⟨rfl, JJ_m hJ hv (fun j h1 h2 => ?_) ?_ (fun c h1 h2 => ?_) (fun j hj => ?_) ?_ ?_⟩)
    · rw [ez, swz_out _ _ _ h2, pk_un h1]
    · rw [ez, swz_out _ _ _ (by omega), pk_us]
    · rw [u2_ne h2, b3 c h1]
    · rw [u2_n (Or.inr hj), b3 122 (by omega), e122]
    · rw [u2_s]
    · rw [ez]
      exact RM_sw hh hk hM2 (by rw [u2_ne (by omega)]; exact b2)
end CH

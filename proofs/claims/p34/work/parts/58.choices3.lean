/-! Pure: the law's choices: enter, strike, paint. -/
theorem JJ_b {V V1 V2 W : Wd} {T : Nat} (hJ : JJ V T) (h : Iv V V1 V2) (hz : ∀ j, j ≠ 4 → j ≠ 5 → j < 63 ∨ 87 ≤ j → V2 113 j = V 113 j) (z4 : V2 113 4 = 0) (hw : ∀ c, c ≠ 120 → c ≠ 122 → W c = V2 c) (hw2 : ∀ j, j ≠ 4 → j ≠ 5 → W 122 j = V 122 j) (hw4 : W 122 4 = 0) (hw5 : W 122 5 = V2 113 5) (hB : RB W (V2 113)) : JJ W T := by
  obtain ⟨h1, h2, h3, h4, h5, h6, h7, h8⟩ := hJ
  obtain ⟨r0, r1, r2, r3, r4, r5⟩ := h6
  have e113 : W 113 = V2 113 := hw 113 (by omega) (by omega)
  have hrow : ∀ c, 117 < c → c ≠ 120 → c ≠ 122 → W c = V c := fun c hc h1 h2 => (hw c h1 h2).trans (h.law hc)
  refine ⟨Inv_law h.1 (fun c hc => hw c (by omega) (by omega)), ?_, ?_, ?_, ?_, ?_, ?_, h8⟩
  · rw [e113]; exact VCo_y (fun j hj _ => hz j (by omega) (by omega) (by omega)) (by rw [hz 2 (by omega) (by omega) (by omega)]; exact h2.2) h2
  · rw [e113]; exact RC_y (fun j hj _ => hz j (by omega) (by omega) (by omega)) (hrow 118 (by omega) (by omega) (by omega)) h3
  · rw [e113]; exact RM_y (fun j hj _ => hz j (by omega) (by omega) (by omega)) (hrow 119 (by omega) (by omega) (by omega)) h4
  · rw [e113]; exact hB
  · rw [e113]
    exact ⟨by rw [hw2 0 (by omega) (by omega), r0, hz 0 (by omega) (by omega) (by omega)], by rw [hw2 1 (by omega) (by omega), r1, hz 1 (by omega) (by omega) (by omega)], by rw [hw2 2 (by omega) (by omega), r2, hz 2 (by omega) (by omega) (by omega)], by rw [hw2 3 (by omega) (by omega), r3, hz 3 (by omega) (by omega) (by omega)], by rw [hw4, z4], hw5⟩
  · rw [e113]; exact RLg_y (hz 6 (by omega) (by omega) (by omega)) (hz 7 (by omega) (by omega) (by omega)) (fun j hj => hz j (by omega) (by omega) (by omega)) (hrow 121 (by omega) (by omega) (by omega)) (hw2 6 (by omega) (by omega)) h7
theorem inI {n a b : Nat} (hn : n < 100000) (ha : a < 100000) (hb : b < 100000) : f_X9_in (nI n) (nI a) (nI b) = if a ≤ n ∧ n ≤ b then 1 else 0 := by
  by_cases q : a ≤ n ∧ n ≤ b
  · rw [if_pos q]
    exact in_yes (by rw [nJ_le (by omega) (by omega)]; exact q.1) (by rw [nJ_le (by omega) (by omega)]; exact q.2)
  · rw [if_neg q]
    refine in_no ?_
    rw [nJ_lt (by omega) (by omega), nJ_lt (by omega) (by omega)]
    omega
theorem CD_code {n : Nat} (h : (10 ≤ n ∧ n ≤ 19) ∨ (100 ≤ n ∧ n ≤ 199) ∨ (1000 ≤ n ∧ n ≤ 1999) ∨ (10000 ≤ n ∧ n ≤ 19999)) : f_X9_isCode (nI n) = 1 := by
  have a1 := inI (n := n) (a := 10) (b := 19) (by omega) (by omega) (by omega)
  have a2 := inI (n := n) (a := 100) (b := 199) (by omega) (by omega) (by omega)
  have a3 := inI (n := n) (a := 1000) (b := 1999) (by omega) (by omega) (by omega)
  have a4 := inI (n := n) (a := 10000) (b := 19999) (by omega) (by omega) (by omega)
  unfold f_X9_isCode
  rw [show f_X9_in (nI n) 10 19 = _ from a1, show f_X9_in (nI n) 100 199 = _ from a2, show f_X9_in (nI n) 1000 1999 = _ from a3, show f_X9_in (nI n) 10000 19999 = _ from a4]
  rcases h with h | h | h | h
  · rw [if_pos h, if_neg t10]
  · rw [if_neg (show ¬ (10 ≤ n ∧ n ≤ 19) by omega), if_pos t00, if_pos h, if_neg t10]
  · rw [if_neg (show ¬ (10 ≤ n ∧ n ≤ 19) by omega), if_pos t00, if_neg (show ¬ (100 ≤ n ∧ n ≤ 199) by omega), if_pos t00, if_pos h, if_neg t10]
  · rw [if_neg (show ¬ (10 ≤ n ∧ n ≤ 19) by omega), if_pos t00, if_neg (show ¬ (100 ≤ n ∧ n ≤ 199) by omega), if_pos t00, if_neg (show ¬ (1000 ≤ n ∧ n ≤ 1999) by omega), if_pos t00, if_pos h, if_neg t10]
theorem LD_add {C p j : Nat} (hj : j < 10) (h : LD C p) : LD (10 * C + j) (p + 1) := by
  unfold LD at *
  rw [Nat.pow_succ]
  omega
section CH
variable {xs : Nat → Int32} {L : Nat} {K : Wd → Int32 → Option (Int32 × Wd)} {V : Wd} {T e : Nat}
theorem k_926 (hJ : JJ V T) {h s : Nat} (hh : h < 5) (hs : s < 2) (g : Int32) : ∀ (d n p C : Nat), p + d = sn (V 113) h → d < n → LD C p → ∃ C', LD C' (sn (V 113) h) ∧ f_L_law_926 xs L K n V (nI e) g (nI h) (nI (sn (V 113) h)) (nI C) (nI s) (nI p) = f_L_law_985 xs L K V (nI e) g (nI (sn (V 113) h)) (nI C') := by
  have h4 := (hJ.1.2.1.vr.sn hh).2.1
  intro d
  induction d with
  | zero =>
    intro n p C hp hn hC
    obtain ⟨n, rfl⟩ : ∃ k, n = k + 1 := ⟨n - 1, by omega⟩
    refine ⟨C, by rw [show sn (V 113) h = p by omega]; exact hC, ?_⟩
    rw [f_L_law_926, if_pos (by rw [nJ_le (by omega) (by omega)]; omega)]
  | succ d ih =>
    intro n p C hp hn hC
    obtain ⟨n, rfl⟩ : ∃ k, n = k + 1 := ⟨n - 1, by omega⟩
    have hps : p < sn (V 113) h := by omega
    have hf := (FL_ok hJ.1.2.1.vr hh hps).2
    have hlt := LD_lt (l := p) (by omega) hC
    rw [f_L_law_926, if_neg (by rw [nJ_le (by omega) (by omega)]; omega), l_stands hJ.rr hh hps, obs, l_taken hJ.rr hs hf, obs, n1 p]
    rcases tk_cases (zH (V 113)) (zF (V 113)) (zW (V 113)) (fst_ (V 113) (nI s)) (V 113 1) (FN (V 113) h p) with e6 | ⟨j, hj, ej⟩
    · obtain ⟨k, hk, ek⟩ := l_low (g >>> (10 &&& 31)) (n := 10) (by omega) (by omega)
      rw [e6, if_neg (by decide), show f_L_low (g >>> (10 &&& 31)) 10 = some (nI k) from ek, obs, x10, lib_]
      exact ih n (p + 1) (10 * C + k) (by omega) (by omega) (LD_add hk hC)
    · rw [ej, if_pos (nI_pos' (by omega)), x10, lib_]
      exact ih n (p + 1) (10 * C + j) (by omega) (by omega) (LD_add hj hC)
theorem k_1033 (hJ : JJ V T) (he : e < 64) {C w : Nat} (hC : (10 ≤ C ∧ C ≤ 19) ∨ (100 ≤ C ∧ C ≤ 199) ∨ (1000 ≤ C ∧ C ≤ 1999) ∨ (10000 ≤ C ∧ C ≤ 19999)) (hw : w < 100) : NX K e T (f_L_law_1052 xs L K V (nI e) (nI C) (nI w) (if en (V 113) = 12 then 0 else 1)) := by
  obtain ⟨r0, r1, r2, r3, r4, r5⟩ := hJ.2.2.2.2.2.1
  obtain ⟨e5, h12, hen⟩ := hJ.1.2.1.vr.en
  obtain ⟨r, V1, V2, h1, h2, hv⟩ := st_enter V hJ.1 (nI C) (nI w)
  have e1 : V1 113 = V 113 := hv.2.1 113 (by omega)
  have e120 : V2 120 = V 120 := hv.law (by omega)
  have e122 : V2 122 = V 122 := hv.law (by omega)
  have hwi : f_X9_in (nI w) 0 99 = 1 := in_yes (nI_pos' (by omega)) (by rw [show (99 : Int32) = nI 99 from rfl, nJ_le (by omega) (by omega)]; omega)
  have t5 : V2 122 5 = nI (en (V 113)) := by rw [e122, r5, e5]
  have h3 := h2
  unfold f_X9_enter at h3
  rw [CD_code hC, if_neg t10, hwi, if_neg t10, zr5, e1, e5] at h3
  unfold f_L_law_1052
  rw [h1, obs]
  dsimp only
  rw [h2, obs]
  dsimp only
  rw [gx_iv hv, lib_, tr5, tr5, t5]
  by_cases q : en (V 113) = 12
  · rw [q, if_pos (show nI 12 = 12 from rfl)] at h3
    obtain ⟨hr, hV⟩ := Prod.mk.inj (Option.some.inj h3)
    rw [q, if_pos (by decide), if_pos rfl]
    unfold f_L_law_1082
    rw [if_pos hr.symm]
    unfold f_L_law_1090 f_L_law_1133
    rw [tr5, t5, q, if_pos (by decide)]
    exact nx_end he (Nat.le_succ T) (Or.inl ⟨rfl, JJ_same hJ hv (by rw [← hV, e1])⟩)
  · obtain ⟨n, hn⟩ : ∃ n, n = en (V 113) := ⟨_, rfl⟩
    rw [← hn] at q h3 t5 e5 h12 ⊢
    obtain ⟨W, m1, m2⟩ := m_rd hJ.1 hv.2.1
    have ea : (63 : Int32) + 2 * nI n = nI (63 + 2 * n) := by simp only [L63, L2, pk_mul, nI_add]
    have eb : nI (63 + 2 * n) + 1 = nI (64 + 2 * n) := by rw [n1]; congr 1; omega
    have ew5 : W 113 5 = nI n := by rw [m2, pk_un (by omega)]; exact e5
    have ew6 : u2 W 113 (63 + 2 * n) (nI C) 113 5 = nI n := by rw [u2_n (Or.inr (by omega))]; exact ew5
    have ew7 : u2 (u2 W 113 (63 + 2 * n) (nI C)) 113 (64 + 2 * n) (nI w) 113 5 = nI n := by rw [u2_n (Or.inr (by omega))]; exact ew6
    rw [if_neg (by rw [show (12 : Int32) = nI 12 from rfl, nJ_eq (by omega) (by omega)]; exact q), m1, obs, zr5, ew5, ea, st_n (by omega) (by omega), zr5, ew6, ea, eb, st_n (by omega) (by omega), zr5, ew7, n1, zs5, zr5, u2_s] at h3
    obtain ⟨hr, hV⟩ := Prod.mk.inj (Option.some.inj h3)
    have ez : V2 113 = upd (upd (upd (upd (V 113) 4 0) (63 + 2 * n) (nI C)) (64 + 2 * n) (nI w)) 5 (nI (n + 1)) := by rw [← hV, u2_at, u2_at, u2_at, m2]
    have q12 : ¬ (12 : Int32) ≤ nI n := by rw [show (12 : Int32) = nI 12 from rfl, nJ_le (by omega) (by omega)]; omega
    rw [if_neg q12, if_neg q, n1]
    unfold f_L_law_1082
    rw [if_pos hr.symm]
    unfold f_L_law_1090 f_L_law_1133
    rw [tr5, tr5, t5, if_neg q12, i2_0, st_n (by omega) (by omega), tr5, u2_ne (by omega), t5, i2_1, st_n (by omega) (by omega), tr5, u2_ne (by omega), u2_ne (by omega), t5, n1, ts5]
    have en1 : en (V2 113) = n + 1 := by
      refine enE ?_ (by omega)
      rw [ez, pk_us]
    refine nx_end he (Nat.le_succ T) (Or.inr ⟨rfl, JJ_b hJ hv (fun j h1 h2 h3 => ?_) ?_ (fun c h1 h2 => ?_) (fun j h1 h2 => ?_) ?_ ?_ (fun k hk => ?_)⟩)
    · rw [ez, pk_un h2, pk_un (by omega), pk_un (by omega), pk_un h1]
    · rw [ez, pk_un (by omega), pk_un (by omega), pk_un (by omega), pk_us]
    · rw [u2_ne h2, u2_ne h2, u2_ne h1, u2_ne h1]
    · rw [u2_n (Or.inr h1), u2_n (Or.inr h2), u2_ne (by omega), u2_ne (by omega), e122]
    · rw [u2_s]
    · rw [u2_n (Or.inr (by omega)), u2_s, ez, pk_us]
    · rw [en1] at hk
      rw [u2_ne (by omega), u2_ne (by omega)]
      show _ = V2 113 (63 + 2 * k) ∧ _ = V2 113 (64 + 2 * k)
      by_cases qk : k = n
      · subst qk
        refine ⟨?_, ?_⟩
        · rw [u2_n (Or.inr (by omega)), u2_s, ez, pk_un (by omega), pk_un (by omega), pk_us]
        · rw [u2_s, ez, pk_un (by omega), pk_us]
      · obtain ⟨b1, b2⟩ := hJ.2.2.2.2.1 k (by omega)
        refine ⟨?_, ?_⟩
        · rw [u2_n (Or.inr (by omega)), u2_n (Or.inr (by omega)), e120, b1, ez, pk_un (by omega), pk_un (by omega), pk_un (by omega), pk_un (by omega)]
          rfl
        · rw [u2_n (Or.inr (by omega)), u2_n (Or.inr (by omega)), e120, b2, ez, pk_un (by omega), pk_un (by omega), pk_un (by omega), pk_un (by omega)]
          rfl
theorem k_enter (hJ : JJ V T) (he : e < 64) {h s : Nat} (hh : h < 5) (hs : s < 2) (g : Int32) : NX K e T (f_L_law_926 xs L K FU_ V (nI e) g (nI h) (nI (sn (V 113) h)) 1 (nI s) 0) := by
  have hF := FU_v
  have h4 := (hJ.1.2.1.vr.sn hh).2.1
  obtain ⟨e5, h12, hen⟩ := hJ.1.2.1.vr.en
  have t5 : V 122 5 = nI (en (V 113)) := by rw [hJ.2.2.2.2.2.1.2.2.2.2.2, e5]
  obtain ⟨C, hC, eC⟩ := k_926 (xs := xs) (L := L) (K := K) (e := e) hJ hh hs g (sn (V 113) h) FU_ 0 1 (by omega) (by omega) ⟨by decide, by decide⟩
  rw [show f_L_law_926 xs L K FU_ V (nI e) g (nI h) (nI (sn (V 113) h)) 1 (nI s) 0 = _ from eC]
  have tail : ∀ C : Nat, ((10 ≤ C ∧ C ≤ 19) ∨ (100 ≤ C ∧ C ≤ 199) ∨ (1000 ≤ C ∧ C ≤ 1999) ∨ (10000 ≤ C ∧ C ≤ 19999)) → NX K e T (f_L_law_1008 xs L K V (nI e) g (nI C)) := by
    intro C hC
    obtain ⟨k, hk, ek⟩ := l_low (g >>> (25 &&& 31)) (n := 2) (by omega) (by omega)
    have fin : ∀ m : Nat, 0 < m → m ≤ 100 → NX K e T (f_L_law_1033 xs L K V (nI e) (nI C) (nI m) (g >>> (16 &&& 31))) := by
      intro m hm0 hm
      obtain ⟨w, hw, ew⟩ := l_low (g >>> (16 &&& 31)) (n := m) hm0 (by omega)
      have hk := k_1033 (xs := xs) (L := L) (K := K) hJ he hC (w := w) (by omega)
      unfold f_L_law_1033
      rw [ew, obs, tr5, t5]
      by_cases q : en (V 113) = 12
      · rw [if_pos q] at hk
        rw [q, if_pos (by decide)]
        exact hk
      · rw [if_neg q] at hk
        rw [if_neg (by rw [show (12 : Int32) = nI 12 from rfl, nJ_le (by omega) (by omega)]; omega)]
        exact hk
    unfold f_L_law_1008
    rw [show f_L_low (g >>> (25 &&& 31)) 2 = some (nI k) from ek, obs]
    by_cases q : nI k = 0
    · rw [if_pos q]
      exact fin 100 (by omega) (by omega)
    · rw [if_neg q]
      exact fin 4 (by omega) (by omega)
  unfold f_L_law_985
  by_cases q0 : sn (V 113) h = 0
  · obtain ⟨k, hk, ek⟩ := l_low (g >>> (10 &&& 31)) (n := 10) (by omega) (by omega)
    rw [if_pos (by rw [q0]; rfl), show f_L_low (g >>> (10 &&& 31)) 10 = some (nI k) from ek, obs, L10, nI_add]
    exact tail (10 + k) (Or.inl (by omega))
  · rw [if_neg (by rw [show (0 : Int32) = nI 0 from rfl, nJ_eq (by omega) (by omega)]; exact q0)]
    refine tail C ?_
    obtain ⟨c1, c2⟩ := hC
    rcases (show sn (V 113) h = 1 ∨ sn (V 113) h = 2 ∨ sn (V 113) h = 3 ∨ sn (V 113) h = 4 by omega) with q | q | q | q <;> rw [q] at c1 c2
    · exact Or.inl (by omega)
    · exact Or.inr (Or.inl (by omega))
    · exact Or.inr (Or.inr (Or.inl (by omega)))
    · exact Or.inr (Or.inr (Or.inr (by omega)))
theorem k_1203 (x7 x12 x13 : Int32) : ∀ (d n : Nat) (V : Wd), d ≤ 22 → d < n → ∃ V', f_L_law_1203 xs L K n V x7 x12 x13 (nI (22 - d)) = f_L_law_1586 xs L K V' x7 x12 x13 ∧ (∀ j, V' 120 j = if 22 - d ≤ j ∧ j < 22 then V 120 (j + 2) else V 120 j) ∧ ∀ c, c ≠ 120 → V' c = V c := by
  intro d
  induction d with
  | zero =>
    intro n V hd hn
    obtain ⟨n, rfl⟩ : ∃ k, n = k + 1 := ⟨n - 1, by omega⟩
    refine ⟨V, ?_, fun j => by rw [if_neg (by omega)], fun _ _ => rfl⟩
    rw [f_L_law_1203, if_pos (by decide)]
    unfold f_L_law_1228
    rfl
  | succ d ih =>
    intro n V hd hn
    obtain ⟨n, rfl⟩ : ∃ k, n = k + 1 := ⟨n - 1, by omega⟩
    obtain ⟨i, hi⟩ : ∃ i, i = 22 - (d + 1) := ⟨_, rfl⟩
    obtain ⟨V', g1, g2, g3⟩ := ih n (u2 V 120 i (V 120 (i + 2))) (by omega) (by omega)
    refine ⟨V', ?_, fun j => ?_, fun c hc => by rw [g3 c hc, u2_ne hc]⟩
    · rw [f_L_law_1203, ← hi, if_neg (by rw [show (22 : Int32) = nI 22 from rfl, nJ_le (by omega) (by omega)]; omega), rdb (n := i + 2) (by rw [L2, nI_add]) (by omega) (by omega), st_n (by omega) (by omega), n1, show i + 1 = 22 - d by omega]
      exact g1
    · rw [g2 j]
      by_cases q : j = i
      · subst q
        rw [if_neg (by omega), u2_s, if_pos (by omega)]
      · by_cases q2 : 22 - d ≤ j ∧ j < 22
        · rw [if_pos q2, if_pos (by omega), u2_n (Or.inr (by omega))]
        · rw [if_neg q2, if_neg (by omega), u2_n (Or.inr q)]
theorem k_strike (hJ : JJ V T) (he : e < 64) {s : Nat} (hs : s < en (V 113)) : NX K e T ((f_X8_strike V (nI s)).bind fun q => (f_X9_strike q.2 (nI s)).bind fun q2 => li_ (gx_ q.2 q2.2) fun V18 => (rd_ (V18 120) 24 ((2 * nI s) + 1)).bind fun y => if q.1 = y then ((rd_ (V18 122) 7 5).bind fun y23 => st_ V18 122 7 5 (y23 - 1) fun V24 => li_ (2 * nI s) fun y25 => f_L_law_1203 xs L K FU_ V24 (nI e) 1 1 y25) else ((rd_ (V18 122) 7 5).bind fun y20 => st_ V18 122 7 5 (y20 - 1) fun V21 => li_ (2 * nI s) fun y22 => f_L_law_1203 xs L K FU_ V21 (nI e) 0 1 y22)) := by
  have hF := FU_v
  obtain ⟨r0, r1, r2, r3, r4, r5⟩ := hJ.2.2.2.2.2.1
  obtain ⟨e5, h12, hen⟩ := hJ.1.2.1.vr.en
  obtain ⟨N, hN⟩ : ∃ N, en (V 113) = N + 1 := ⟨en (V 113) - 1, by omega⟩
  rw [hN] at e5 hs h12
  obtain ⟨r, V1, V2, h1, h2, hv⟩ := st_strike V hJ.1 (nI s)
  have e1 : V1 113 = V 113 := hv.2.1 113 (by omega)
  have e120 : V2 120 = V 120 := hv.law (by omega)
  have e122 : V2 122 = V 122 := hv.law (by omega)
  have t5 : V2 122 5 = nI (N + 1) := by rw [e122, r5, e5]
  obtain ⟨W, m1, m2⟩ := m_rd hJ.1 hv.2.1
  have hin : f_X9_in (nI s) 0 (nI (N + 1) - 1) = 1 := by
    rw [ns1]
    exact in_yes (nI_pos' (by omega)) (by rw [nJ_le (by omega) (by omega)]; omega)
  have ea : (63 : Int32) + 2 * nI s = nI (63 + 2 * s) := by simp only [L63, L2, pk_mul, nI_add]
  have eb : nI (63 + 2 * s) + 1 = nI (64 + 2 * s) := by rw [n1]; congr 1; omega
  have ew5 : W 113 5 = nI (N + 1) := by rw [m2, pk_un (by omega)]; exact e5
  obtain ⟨V3, d1, d2, d3⟩ := m_str_l (nI s) (W 113 (64 + 2 * s)) (n := N) (by omega) (2 * (N - s)) FU_ (u2 W 113 5 (nI N)) (by omega) (by omega) (by rw [u2_s])
  rw [show 63 + 2 * N - 2 * (N - s) = 63 + 2 * s by omega] at d1 d2
  have h3 := h2
  unfold f_X9_strike f_X9_isEntry at h3
  rw [zr5, e1, e5, hin, if_pos (Or.inr rfl : isB (1 : Int32)), obs, if_neg t10, m1, obs] at h3
  unfold f_X9_wordOf at h3
  rw [ea, eb, rdb (n := 64 + 2 * s) rfl (by omega) (by omega), obs, zr5, ew5, ns1, zs5, lib_, d1] at h3
  obtain ⟨hr, hV⟩ := Prod.mk.inj (Option.some.inj h3)
  obtain ⟨b1, b2⟩ := hJ.2.2.2.2.1 s (by omega)
  have hr' : r = V2 120 (2 * s + 1) := by
    rw [← hr, m2, pk_un (by omega), e120, b2]
    rfl
  have z5 : V2 113 5 = nI N := by rw [← hV, d2, if_neg (by omega), u2_s]
  have zu : ∀ j, j ≠ 5 → j < 63 ∨ 87 ≤ j → V2 113 j = upd (V 113) 4 0 j := fun j h1 h2 => by rw [← hV, d2, if_neg (by omega), u2_n (Or.inr h1), m2]
  have zb : ∀ j, 63 ≤ j → V2 113 j = if 63 + 2 * s ≤ j ∧ j < 63 + 2 * N then V 113 (j + 2) else V 113 j := fun j hj => by
    rw [← hV, d2, u2_n (Or.inr (by omega)), u2_n (Or.inr (by omega)), m2, pk_un (by omega), pk_un (by omega)]
  obtain ⟨V', g1, g2, g3⟩ := k_1203 (xs := xs) (L := L) (K := K) (nI e) 1 1 (22 - 2 * s) FU_ (u2 V2 122 5 (nI N)) (by omega) (by omega)
  rw [show 22 - (22 - 2 * s) = 2 * s by omega] at g1 g2
  rw [h1, obs]
  dsimp only
  rw [h2, obs]
  dsimp only
  rw [gx_iv hv, lib_, i2_1, rdb (n := 2 * s + 1) rfl (by omega) (by omega), if_pos hr', tr5, t5, ns1, ts5, i2_0, lib_, g1]
  have en1 : en (V2 113) = N := enE z5 (by omega)
  refine nx_end he (Nat.le_succ T) (Or.inr ⟨rfl, JJ_b hJ hv (fun j h1 h2 h3 => ?_) ?_ (fun c h1 h2 => ?_) (fun j h1 h2 => ?_) ?_ ?_ (fun k hk => ?_)⟩)
  · rw [zu j h2 h3, pk_un h1]
  · rw [zu 4 (by omega) (by omega), pk_us]
  · rw [u2_ne h2, g3 c h1, u2_ne h2]
  · rw [u2_n (Or.inr h1), g3 122 (by omega), u2_n (Or.inr h2), e122]
  · rw [u2_s]
  · rw [u2_n (Or.inr (by omega)), g3 122 (by omega), u2_s, z5]
  · rw [en1] at hk
    rw [u2_ne (by omega)]
    have e12 : ∀ j, u2 V2 122 5 (nI N) 120 j = V 120 j := fun j => by rw [u2_ne (by omega), e120]
    show V' 120 (2 * k) = V2 113 (63 + 2 * k) ∧ V' 120 (2 * k + 1) = V2 113 (64 + 2 * k)
    rw [g2, g2, e12, e12, e12, e12, zb _ (by omega), zb _ (by omega)]
    by_cases q : s ≤ k
    · obtain ⟨c1, c2⟩ := hJ.2.2.2.2.1 (k + 1) (by omega)
      rw [if_pos (by omega), if_pos (by omega), if_pos (by omega), if_pos (by omega)]
      exact ⟨c1, c2⟩
    · obtain ⟨c1, c2⟩ := hJ.2.2.2.2.1 k (by omega)
      rw [if_neg (by omega), if_neg (by omega), if_neg (by omega), if_neg (by omega)]
      exact ⟨c1, c2⟩
end CH

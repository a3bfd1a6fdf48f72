/-! Pure: the law's mast finds nothing wrong. -/
theorem L70 : (70 : Int32) = nI 70 := rfl
def lgn (T : Nat) : Nat := if T ≤ 8 then T else 8
def RLg (V : Wd) (z : Nat → Int32) (T : Nat) : Prop := V 122 6 = nI T ∧ z 7 = nI T ∧ z 6 = nI (lgn T) ∧ ∀ m, m < lgn T → ∃ l, l ≤ 5 ∧ z (87 + 6 * m) = nI l ∧ V 121 (6 * m) = nI l ∧ ∀ i, i < l → V 121 (6 * m + (1 + i)) = z (87 + 6 * m + (1 + i))
/-- what holds between two choices of the law: the class's object and the ghost agree, the law's rows say what the ghost says -/
def JJ (V : Wd) (T : Nat) : Prop := Inv V ∧ VCo (V 113) ∧ RC V (V 113) ∧ RM V (V 113) ∧ RB V (V 113) ∧ (V 122 0 = V 113 0 ∧ V 122 1 = V 113 1 ∧ V 122 2 = V 113 2 ∧ V 122 3 = V 113 3 ∧ V 122 4 = V 113 4 ∧ V 122 5 = V 113 5) ∧ RLg V (V 113) T ∧ T ≤ 1000
theorem JJ.rr {V : Wd} {T : Nat} (h : JJ V T) : RR V (V 113) := ⟨h.1.2.1.vr, h.2.1, h.2.2.1, h.2.2.2.1, h.2.2.2.2.1, h.2.2.2.2.2.1.2.1, h.2.2.2.2.2.1.2.2.1, h.2.2.2.2.2.1.2.2.2.2.2⟩
theorem JJ.ir {V V' : Wd} {T : Nat} (h : JJ V T) (g : Ir V V') : JJ V' T := by
  obtain ⟨h1, h2, h3, h4, h5, h6, h7, h8⟩ := h
  have e := g.2
  refine ⟨g.1, ?_, ?_, ?_, ?_, ?_, ?_, h8⟩
  · rw [e 113 (by omega)]; exact h2
  · unfold RC at h3 ⊢; rw [e 113 (by omega), e 118 (by omega)]; exact h3
  · unfold RM at h4 ⊢; rw [e 113 (by omega), e 119 (by omega)]; exact h4
  · unfold RB at h5 ⊢; rw [e 113 (by omega), e 120 (by omega)]; exact h5
  · rw [e 113 (by omega), e 122 (by omega)]; exact h6
  · unfold RLg at h7 ⊢; rw [e 113 (by omega), e 121 (by omega), e 122 (by omega)]; exact h7
theorem l_m21 {V : Wd} {z : Nat → Int32} (hC : RC V z) {f : Nat} (hf : f < 10) (K6 : Wd → Int32 → Int32 → Option (Int32 × Wd)) (x6 : Int32) : ∀ (p n : Nat) (x8 : Int32), p ≤ 10 → p < n → x8 = fw (zH z) (zF z) (zF z f) (zH z f) (10 - p) → f_L_mast_21 K6 n V x6 (nI f) x8 (nI p - 1) = f_L_mast_75 K6 V x6 (nI f) (fw (zH z) (zF z) (zF z f) (zH z f) 10) := by
  intro p
  induction p with
  | zero =>
    intro n x8 hp hn hx
    obtain ⟨n, rfl⟩ : ∃ k, n = k + 1 := ⟨n - 1, by omega⟩
    rw [f_L_mast_21, if_pos (by decide), hx]
  | succ p ih =>
    intro n x8 hp hn hx
    obtain ⟨n, rfl⟩ : ∃ k, n = k + 1 := ⟨n - 1, by omega⟩
    have hx2 : fw (zH z) (zF z) (zF z f) (zH z f) (10 - p) = if zH z p = zF z f ∧ zF z p = zH z f then nI p else x8 := by
      rw [hx, show 10 - p = (10 - (p + 1)) + 1 by omega, fw, show 10 - ((10 - (p + 1)) + 1) = p by omega]
    rw [f_L_mast_21, ns1, if_neg (nI_pos (by omega)), rdb (n := 3 * p) (i3_0 p) (by omega) (by omega), rc_0 hC (by omega), rdb (n := 3 * f + 1) (i3_1 f) (by omega) (by omega), rc_1 hC hf, mm1]
    by_cases q1 : zH z p = zF z f
    · rw [if_pos q1, rdb (n := 3 * p + 1) (i3_1 p) (by omega) (by omega), rc_1 hC (by omega), rdb (n := 3 * f) (i3_0 f) (by omega) (by omega), rc_0 hC hf]
      by_cases q2 : zF z p = zH z f
      · rw [if_pos q2]
        exact ih n _ (by omega) (by omega) (by rw [hx2, if_pos ⟨q1, q2⟩])
      · rw [if_neg q2]
        exact ih n _ (by omega) (by omega) (by rw [hx2, if_neg (fun h => q2 h.2)])
    · rw [if_neg q1]
      exact ih n _ (by omega) (by omega) (by rw [hx2, if_neg (fun h => q1 h.1)])
section MAST
variable {V : Wd} {T : Nat}
theorem l_m75 (hJ : JJ V T) {f : Nat} (hf : f < 10) (K6 : Wd → Int32 → Int32 → Option (Int32 × Wd)) (x6 : Int32) : f_L_mast_75 K6 V x6 (nI f) (fw (zH (V 113)) (zF (V 113)) (zF (V 113) f) (zH (V 113) f) 10) = K6 V x6 (nI (f + 1)) := by
  obtain ⟨g0, g1, g2, g3, g4⟩ := q_flag hJ.1 hf
  have hC := hJ.2.2.1
  unfold f_L_mast_75
  rw [g0, obs, rdb (n := 3 * f) (i3_0 f) (by omega) (by omega), rc_0 hC hf, if_pos rfl, g1, obs, rdb (n := 3 * f + 1) (i3_1 f) (by omega) (by omega), rc_1 hC hf, if_pos rfl, g2, obs, rdb (n := 3 * f + 2) (i3_2 f) (by omega) (by omega), rc_2 hC hf, if_pos rfl, g3, obs, tr0, hJ.2.2.2.2.2.1.1, l_used hJ.rr (by omega), obs, if_pos rfl, g4, obs, if_pos rfl, n1]
theorem l_m6 (hJ : JJ V T) (x6 : Int32) : ∀ (d n : Nat), d ≤ 10 → d < n → f_L_mast_6 n V x6 (nI (10 - d)) = f_L_mast_171 FU_ V x6 0 := by
  have hF := FU_v
  intro d
  induction d with
  | zero =>
    intro n hd hn
    obtain ⟨n, rfl⟩ : ∃ k, n = k + 1 := ⟨n - 1, by omega⟩
    rw [f_L_mast_6, if_pos (by decide)]
  | succ d ih =>
    intro n hd hn
    obtain ⟨n, rfl⟩ : ∃ k, n = k + 1 := ⟨n - 1, by omega⟩
    obtain ⟨f, hf⟩ : ∃ f, f = 10 - (d + 1) := ⟨_, rfl⟩
    rw [f_L_mast_6, ← hf, if_neg (by rw [L10, nJ_le (by omega) (by omega)]; omega), show (9 : Int32) = nI 10 - 1 by decide, l_m21 hJ.2.2.1 (show f < 10 by omega) _ x6 10 FU_ (-6) (by omega) (by omega) rfl, l_m75 hJ (by omega), show f + 1 = 10 - d by omega]
    exact ih n (by omega) (by omega)
theorem l_m282 (hJ : JJ V T) {h p : Nat} (hh : h < 5) (hp : p < sn (V 113) h) (K171 : Wd → Int32 → Int32 → Option (Int32 × Wd)) (K195 : Wd → Int32 → Int32 → Int32 → Int32 → Option (Int32 × Wd)) (x6 x8 s : Int32) : f_L_mast_282 K171 K195 V x6 (nI h) x8 (nI p) (nI (FN (V 113) h p)) s s = K195 V x6 (nI h) x8 (nI (p + 1)) := by
  have hf := (FL_ok hJ.1.2.1.vr hh hp).2
  have a0 := q_seen hJ.1 (s := 0) (by omega) hh hp
  have a1 := q_seen hJ.1 (s := 1) (by omega) hh hp
  have b0 := l_taken hJ.rr (s := 0) (by omega) hf
  have b1 := l_taken hJ.rr (s := 1) (by omega) hf
  unfold f_L_mast_282
  rw [if_pos rfl, n1, show f_X8_seen V 0 (nI h) (nI (p + 1)) = _ from a0, obs, show f_L_taken V 0 (nI (FN (V 113) h p)) = _ from b0, obs, if_pos rfl, show f_X8_seen V 1 (nI h) (nI (p + 1)) = _ from a1, obs, show f_L_taken V 1 (nI (FN (V 113) h p)) = _ from b1, obs, if_pos rfl]
theorem l_m339 (hJ : JJ V T) {h : Nat} (hh : h < 5) (K171 : Wd → Int32 → Int32 → Option (Int32 × Wd)) (x6 : Int32) : f_L_mast_339 K171 V x6 (nI h) (nI (sn (V 113) h)) = K171 V x6 (nI (h + 1)) := by
  have a1 := q_seen_no hJ.1 (s := 1) (by omega) hh
  unfold f_L_mast_339
  rw [n1, q_sign_no hJ.1 hh, obs, if_pos rfl, show f_X8_seen V 1 (nI h) (nI (sn (V 113) h + 1)) = _ from a1, obs, if_pos rfl, n1]
theorem l_m195 (hJ : JJ V T) {h : Nat} (hh : h < 5) (K171 : Wd → Int32 → Int32 → Option (Int32 × Wd)) (x6 : Int32) : ∀ (d n p : Nat), p + d = sn (V 113) h → d < n → f_L_mast_195 K171 n V x6 (nI h) (nI (sn (V 113) h)) (nI p) = K171 V x6 (nI (h + 1)) := by
  have h4 := (hJ.1.2.1.vr.sn hh).2.1
  intro d
  induction d with
  | zero =>
    intro n p hp hn
    obtain ⟨n, rfl⟩ : ∃ k, n = k + 1 := ⟨n - 1, by omega⟩
    rw [f_L_mast_195, if_pos (by rw [nJ_le (by omega) (by omega)]; omega), l_m339 hJ hh]
  | succ d ih =>
    intro n p hp hn
    obtain ⟨n, rfl⟩ : ∃ k, n = k + 1 := ⟨n - 1, by omega⟩
    have hps : p < sn (V 113) h := by omega
    have hf := (FL_ok hJ.1.2.1.vr hh hps).2
    obtain ⟨g0, g1, g2⟩ := q_sign hJ.1 hh hps
    rw [f_L_mast_195, if_neg (by rw [nJ_le (by omega) (by omega)]; omega), l_stands hJ.rr hh hps, obs, n1 p, g0, obs, rdb (n := 4 * h + p) (i4 h p) (by omega) (by omega), rm_y hJ.2.2.2.1 hh hps h4, if_pos rfl, g1, obs, if_pos rfl, g2, obs, rdb (n := 3 * FN (V 113) h p + 2) (i3_2 _) (by omega) (by omega), rc_2 hJ.2.2.1 hf, tr1, hJ.2.2.2.2.2.1.2.1]
    by_cases q : zW (V 113) (FN (V 113) h p) ≤ V 113 1
    · rw [if_pos q, if_pos q, l_m282 hJ hh hps]
      exact ih n (p + 1) (by omega) (by omega)
    · rw [if_neg q, if_neg q, l_m282 hJ hh hps]
      exact ih n (p + 1) (by omega) (by omega)
theorem l_m171 (hJ : JJ V T) : ∀ (d n : Nat), d ≤ 5 → d < n → f_L_mast_171 n V (al (V 113) (5 - d)) (nI (5 - d)) = f_L_mast_386 FU_ V (al (V 113) 5) (nI (hc_ (V 113) 5)) 0 := by
  have hF := FU_v
  intro d
  induction d with
  | zero =>
    intro n hd hn
    obtain ⟨n, rfl⟩ : ∃ k, n = k + 1 := ⟨n - 1, by omega⟩
    rw [f_L_mast_171, if_pos (by decide), l_hoists hJ.rr, obs]
  | succ d ih =>
    intro n hd hn
    obtain ⟨n, rfl⟩ : ∃ k, n = k + 1 := ⟨n - 1, by omega⟩
    obtain ⟨h, hh⟩ : ∃ h, h = 5 - (d + 1) := ⟨_, rfl⟩
    have e1 := (hJ.1.2.1.vr.sn (h := h) (by omega)).1
    have h4 := (hJ.1.2.1.vr.sn (h := h) (by omega)).2.1
    rw [f_L_mast_171, ← hh, if_neg (by rw [L5, nJ_le (by omega) (by omega)]; omega), l_many hJ.rr (by omega), obs, lib_, show (0 : Int32) = nI 0 from rfl, l_m195 hJ (show h < 5 by omega) _ _ (sn (V 113) h) FU_ 0 (by omega) (by omega), ← e1, show al (V 113) h + zS (V 113) h = al (V 113) (h + 1) from rfl, show h + 1 = 5 - d by omega]
    exact ih n (by omega) (by omega)
theorem len_hc {z : Nat → Int32} (hv : VR z) (side : Int32) : (ML (WM z side) side).length = hc_ z 5 := by
  rw [ML_len]
  exact hc_len hv _ _
theorem l_m395 {z : Nat → Int32} {s : Nat} (hs : s < 2) (K386 : Wd → Int32 → Int32 → Int32 → Option (Int32 × Wd)) (x6 : Int32) : ∀ (d n : Nat) (V : Wd), JJ V T → V 113 = z → d ≤ hc_ z 5 → d < n → ∃ V', Ir V V' ∧ f_L_mast_395 K386 n V x6 (nI (hc_ z 5)) (nI s) (nI (hc_ z 5 - d)) = K386 V' x6 (nI (hc_ z 5)) (nI (s + 1)) := by
  intro d
  induction d with
  | zero =>
    intro n V hJ hz hd hn
    obtain ⟨n, rfl⟩ : ∃ k, n = k + 1 := ⟨n - 1, by omega⟩
    have h5 := hc_le z 5
    have hl := len_hc hJ.1.2.1.vr (nI s)
    obtain ⟨V1, a1, a2⟩ := c_word hJ.1 hs (hc_ z 5) (by omega)
    have hJ1 := hJ.ir a2
    have e1 : V1 113 = z := (a2.2 113 (by omega)).trans hz
    obtain ⟨V2, b1, b2⟩ := c_known hJ1.1 hs
    have hJ2 := hJ1.ir b2
    have e2 : V2 113 = z := (b2.2 113 (by omega)).trans e1
    have hk := l_known hJ2.rr hs
    rw [hz] at hl
    rw [hz, hl, if_neg (Nat.lt_irrefl _)] at a1
    rw [e1] at b1
    rw [e2] at hk
    refine ⟨V2, a2.tr b2, ?_⟩
    rw [f_L_mast_395, if_pos (by rw [nJ_le (by omega) (by omega)]; omega)]
    unfold f_L_mast_439
    rw [a1, obs]
    dsimp only
    rw [if_pos rfl, b1, obs]
    dsimp only
    rw [hk, obs, if_pos rfl, n1]
  | succ d ih =>
    intro n V hJ hz hd hn
    obtain ⟨n, rfl⟩ : ∃ k, n = k + 1 := ⟨n - 1, by omega⟩
    obtain ⟨i, hi⟩ : ∃ i, i = hc_ z 5 - (d + 1) := ⟨_, rfl⟩
    have h5 := hc_le z 5
    have hl := len_hc hJ.1.2.1.vr (nI s)
    rw [hz] at hl
    obtain ⟨V1, a1, a2⟩ := c_word hJ.1 hs i (by omega)
    have hJ1 := hJ.ir a2
    have e1 : V1 113 = z := (a2.2 113 (by omega)).trans hz
    rw [hz, if_pos (by rw [hl]; omega)] at a1
    obtain ⟨h, hh, b1, b2⟩ := l_nth hJ1.rr (s := s) (i := i) hs (by rw [e1, hl]; omega)
    rw [e1] at b2
    obtain ⟨V', g1, g2⟩ := ih n V1 hJ1 e1 (by omega) (by omega)
    refine ⟨V', a2.tr g1, ?_⟩
    rw [f_L_mast_395, ← hi, if_neg (by rw [nJ_le (by omega) (by omega)]; omega), a1, obs]
    dsimp only
    rw [b1, obs, b2, obs, if_pos rfl, n1, show i + 1 = hc_ z 5 - d by omega]
    exact g2
theorem l_m386 {z : Nat → Int32} (x6 : Int32) : ∀ (d n : Nat) (V : Wd), JJ V T → V 113 = z → d ≤ 2 → d < n → ∃ V', Ir V V' ∧ f_L_mast_386 n V x6 (nI (hc_ z 5)) (nI (2 - d)) = f_L_mast_481 FU_ V' x6 (nI (hc_ z 5)) 0 := by
  have hF := FU_v
  have h5 := hc_le z 5
  intro d
  induction d with
  | zero =>
    intro n V hJ hz hd hn
    obtain ⟨n, rfl⟩ : ∃ k, n = k + 1 := ⟨n - 1, by omega⟩
    rw [f_L_mast_386, if_pos (by decide)]
    exact ⟨V, Ir.rf hJ.1, rfl⟩
  | succ d ih =>
    intro n V hJ hz hd hn
    obtain ⟨n, rfl⟩ : ∃ k, n = k + 1 := ⟨n - 1, by omega⟩
    obtain ⟨s, hs⟩ : ∃ s, s = 2 - (d + 1) := ⟨_, rfl⟩
    obtain ⟨V1, a1, a2⟩ := l_m395 (show s < 2 by omega) (fun V1 a6 a7 a8 => f_L_mast_386 n V1 a6 a7 a8) x6 (hc_ z 5) FU_ V hJ hz (Nat.le_refl _) (by omega)
    rw [Nat.sub_self] at a2
    obtain ⟨V', g1, g2⟩ := ih n V1 (hJ.ir a1) ((a1.2 113 (by omega)).trans hz) (by omega) (by omega)
    refine ⟨V', a1.tr g1, ?_⟩
    rw [f_L_mast_386, ← hs, if_neg (by rw [L2, nJ_le (by omega) (by omega)]; omega), show (0 : Int32) = nI 0 from rfl, a2, show s + 1 = 2 - d by omega]
    exact g2
theorem l_m481 (hJ : JJ V T) (x6 x7 : Int32) : ∀ (d n : Nat), d ≤ en (V 113) → d < n → f_L_mast_481 n V x6 x7 (nI (en (V 113) - d)) = f_L_mast_532 V x6 x7 := by
  obtain ⟨e5, h12, -⟩ := hJ.1.2.1.vr.en
  have et : V 122 5 = nI (en (V 113)) := hJ.2.2.2.2.2.1.2.2.2.2.2.trans e5
  intro d
  induction d with
  | zero =>
    intro n hd hn
    obtain ⟨n, rfl⟩ : ∃ k, n = k + 1 := ⟨n - 1, by omega⟩
    rw [f_L_mast_481, tr5, et, if_pos (by rw [nJ_le (by omega) (by omega)]; omega)]
  | succ d ih =>
    intro n hd hn
    obtain ⟨n, rfl⟩ : ∃ k, n = k + 1 := ⟨n - 1, by omega⟩
    obtain ⟨e, he⟩ : ∃ e, e = en (V 113) - (d + 1) := ⟨_, rfl⟩
    obtain ⟨g0, g1⟩ := q_entry hJ.1 (e := e) (by omega)
    obtain ⟨b0, b1⟩ := hJ.2.2.2.2.1 e (by omega)
    rw [f_L_mast_481, ← he, tr5, et, if_neg (by rw [nJ_le (by omega) (by omega)]; omega), g0, obs, rdb (n := 2 * e) (i2_0 e) (by omega) (by omega), b0, if_pos rfl, g1, obs, rdb (n := 2 * e + 1) (i2_1 e) (by omega) (by omega), b1, if_pos rfl, n1, show e + 1 = en (V 113) - d by omega]
    exact ih n (by omega) (by omega)
theorem lgn_le (T : Nat) : lgn T ≤ T ∧ lgn T ≤ 8 := by
  unfold lgn
  split <;> omega
theorem i6m {F m : Nat} : 6 * (nI (F + m) - nI F) = nI (6 * m) := by
  rw [pk_sub (by omega), show F + m - F = m by omega, L6, pk_mul]
theorem l_m573 (hJ : JJ V T) {F m l : Nat} (hm : m < lgn T) (hl : l ≤ 5) (el : V 113 (87 + 6 * m) = nI l) (K560 : Wd → Int32 → Int32 → Int32 → Int32 → Option (Int32 × Wd)) (x6 x7 : Int32) : ∀ (d n i : Nat), i + d = l → d < n → f_L_mast_573 K560 n V x6 x7 (nI F) (nI (F + m)) (nI (1 + i)) = K560 V x6 x7 (nI F) (nI (F + m + 1)) := by
  obtain ⟨t6, z7, z6, hlog⟩ := hJ.2.2.2.2.2.2.1
  have h8 := lgn_le T
  obtain ⟨l', hl', el', er, ei⟩ := hlog m hm
  obtain rfl : l' = l := by
    rw [el] at el'
    exact (nJ_inj (by omega) (by omega) el').symm
  have em : nI (F + m) - nI F = nI m := by rw [pk_sub (by omega), show F + m - F = m by omega]
  intro d
  induction d with
  | zero =>
    intro n i hi hn
    obtain ⟨n, rfl⟩ : ∃ k, n = k + 1 := ⟨n - 1, by omega⟩
    have hq := q_logged hJ.1 h8.2 z6 hm hl el (i := 0) (by omega)
    rw [f_L_mast_573, rdb (n := 6 * m) i6m (by omega) (by omega), er, if_pos (by rw [nJ_lt (by omega) (by omega)]; omega)]
    unfold f_L_mast_625
    rw [em, show f_X8_logged V (nI m) 0 = _ from hq, obs, rdb (n := 6 * m) (by simp only [L6, pk_mul]) (by omega) (by omega), er, Nat.add_zero, el, if_pos rfl, n1]
  | succ d ih =>
    intro n i hi hn
    obtain ⟨n, rfl⟩ : ∃ k, n = k + 1 := ⟨n - 1, by omega⟩
    have hq := q_logged hJ.1 h8.2 z6 hm hl el (i := 1 + i) (by omega)
    rw [f_L_mast_573, rdb (n := 6 * m) i6m (by omega) (by omega), er, if_neg (by rw [nJ_lt (by omega) (by omega)]; omega), em, hq, obs, rdb (n := 6 * m + (1 + i)) (by simp only [L6, pk_mul, nI_add]) (by omega) (by omega), ei i (by omega), if_pos rfl, n1, show 1 + i + 1 = 1 + (i + 1) by omega]
    exact ih n (i + 1) (by omega) (by omega)
theorem l_m560 (hJ : JJ V T) (x6 x7 : Int32) {F : Nat} (hFT : F + lgn T = T) : ∀ (d n : Nat), d ≤ lgn T → d < n → f_L_mast_560 n V x6 x7 (nI F) (nI (F + (lgn T - d))) = f_L_mast_657 V x6 x7 (nI F) := by
  have hFU := FU_v
  obtain ⟨t6, z7, z6, hlog⟩ := hJ.2.2.2.2.2.2.1
  have hT := hJ.2.2.2.2.2.2.2
  have h8 := lgn_le T
  intro d
  induction d with
  | zero =>
    intro n hd hn
    obtain ⟨n, rfl⟩ : ∃ k, n = k + 1 := ⟨n - 1, by omega⟩
    rw [f_L_mast_560, tr6, t6, if_pos (by rw [nJ_le (by omega) (by omega)]; omega)]
  | succ d ih =>
    intro n hd hn
    obtain ⟨n, rfl⟩ : ∃ k, n = k + 1 := ⟨n - 1, by omega⟩
    obtain ⟨m, hm⟩ : ∃ m, m = lgn T - (d + 1) := ⟨_, rfl⟩
    obtain ⟨l, hl, el, -, -⟩ := hlog m (by omega)
    rw [f_L_mast_560, ← hm, tr6, t6, if_neg (by rw [nJ_le (by omega) (by omega)]; omega), show (1 : Int32) = nI (1 + 0) from rfl, l_m573 hJ (show m < lgn T by omega) hl el _ x6 x7 l FU_ 0 (by omega) (by omega), show F + m + 1 = F + (lgn T - d) by omega]
    exact ih n (by omega) (by omega)
theorem l_m677 (hJ : JJ V T) {F : Nat} (hFT : F + lgn T = T) (s : Int32) : f_L_mast_677 V (al (V 113) 5) (nI (hc_ (V 113) 5)) (nI F) s s = some (1, V) := by
  obtain ⟨t6, z7, z6, hlog⟩ := hJ.2.2.2.2.2.2.1
  have hT := hJ.2.2.2.2.2.2.2
  have h8 := lgn_le T
  obtain ⟨g0, g1, g2, g3, g4, g5, g6, g7, g8, g9⟩ := q_total hJ.1
  obtain ⟨r0, r1, r2, r3, r4, r5⟩ := hJ.2.2.2.2.2.1
  obtain ⟨e5, h12, -⟩ := hJ.1.2.1.vr.en
  have eF : nI T - nI F = nI (lgn T) := by
    rw [pk_sub (by omega)]
    congr 1
    omega
  have hl := q_logged_no hJ.1 h8.2 z6
  have hn := q_entry_no hJ.1
  unfold f_L_mast_677
  rw [if_pos rfl, g0, obs, tr1, r1, if_pos rfl, g1, obs, tr2, r2, if_pos rfl, g2, obs, tr0, r0, if_pos rfl, g3, obs, if_pos rfl, g4, obs, if_pos rfl, g5, obs, tr5, r5, if_pos rfl, g6, obs, tr3, r3, if_pos rfl, g7, obs, tr4, r4, if_pos rfl, g8, obs, tr6, t6, eF, z6, if_pos rfl, g9, obs, tr6, t6, z7, if_pos rfl, tr6, t6, eF, hl, obs, if_pos rfl, tr5, r5, e5, hn, obs, if_pos rfl]
theorem l_m657 (hJ : JJ V T) {F : Nat} (hFT : F + lgn T = T) : ∃ V', Ir V V' ∧ f_L_mast_657 V (al (V 113) 5) (nI (hc_ (V 113) 5)) (nI F) = some (1, V') := by
  obtain ⟨V1, a1, a2⟩ := c_isSame hJ.1
  have hJ1 := hJ.ir a2
  have e1 : V1 113 = V 113 := a2.2 113 (by omega)
  have hs := l_same hJ1.rr
  rw [e1] at hs
  refine ⟨V1, a2, ?_⟩
  unfold f_L_mast_657
  rw [a1, obs]
  dsimp only
  rw [hs, obs]
  have h6 := l_m677 hJ1 hFT
  rw [e1] at h6
  rcases ag_B (ML (WM (V 113) 0) 0) (ML (WM (V 113) 1) 1) with e | e
  · rw [e, if_pos t00]
    exact h6 0
  · rw [e, if_neg t10]
    exact h6 1
theorem l_m532 (hJ : JJ V T) : ∃ V', Ir V V' ∧ f_L_mast_532 V (al (V 113) 5) (nI (hc_ (V 113) 5)) = some (1, V') := by
  have hFU := FU_v
  obtain ⟨t6, z7, z6, hlog⟩ := hJ.2.2.2.2.2.2.1
  have hT := hJ.2.2.2.2.2.2.2
  have h8 := lgn_le T
  unfold f_L_mast_532
  rw [tr6, t6]
  by_cases q : T ≤ 8
  · have eT : lgn T = T := by unfold lgn; rw [if_pos q]
    have h5 := l_m560 hJ (al (V 113) 5) (nI (hc_ (V 113) 5)) (F := 0) (by omega) (lgn T) FU_ (Nat.le_refl _) (by omega)
    rw [Nat.sub_self, Nat.add_zero] at h5
    rw [if_pos (by rw [L8, nJ_le (by omega) (by omega)]; exact q), show (0 : Int32) = nI 0 from rfl, h5]
    exact l_m657 hJ (by omega)
  · have eT : lgn T = 8 := by unfold lgn; rw [if_neg q]
    have h5 := l_m560 hJ (al (V 113) 5) (nI (hc_ (V 113) 5)) (F := T - 8) (by omega) (lgn T) FU_ (Nat.le_refl _) (by omega)
    rw [Nat.sub_self, Nat.add_zero] at h5
    rw [if_neg (by rw [L8, nJ_le (by omega) (by omega)]; exact q), tr6, t6, L8, pk_sub (by omega), lib_, h5]
    exact l_m657 hJ (by omega)
end MAST
theorem l_mast {V : Wd} {T : Nat} (hJ : JJ V T) : ∃ V', Ir V V' ∧ f_L_mast V = some (1, V') := by
  have hFU := FU_v
  have h12 := hJ.1.2.1.vr.en.2.1
  have a1 := l_m6 hJ 0 10 FU_ (by omega) (by omega)
  have a2 := l_m171 hJ 5 FU_ (by omega) (by omega)
  obtain ⟨V1, b1, b2⟩ := l_m386 (al (V 113) 5) 2 FU_ V hJ rfl (by omega) (by omega)
  have hJ1 := hJ.ir b1
  have e1 : V1 113 = V 113 := b1.2 113 (by omega)
  have a3 := l_m481 hJ1 (al (V 113) 5) (nI (hc_ (V 113) 5)) (en (V1 113)) FU_ (Nat.le_refl _) (by rw [e1]; omega)
  rw [Nat.sub_self] at a3
  obtain ⟨V2, c1, c2⟩ := l_m532 hJ1
  rw [e1] at c2
  refine ⟨V2, b1.tr c1, ?_⟩
  unfold f_L_mast
  rw [show f_L_mast_6 FU_ V 0 0 = _ from a1, show f_L_mast_171 FU_ V 0 0 = _ from a2, show f_L_mast_386 FU_ V (al (V 113) 5) (nI (hc_ (V 113) 5)) 0 = _ from b2, show f_L_mast_481 FU_ V1 (al (V 113) 5) (nI (hc_ (V 113) 5)) 0 = _ from a3]
  exact c2

/-! Pure: errorPosition, hoist. -/
theorem BU.ch {V : Wd} (h : BU V) : ∃ (t : Nat) (ch : Nat → Nat), t ≤ 50 ∧ V 101 1 = nI t ∧ V 112 6 = nI t ∧ (∀ i, i < t → 33 ≤ ch i ∧ ch i ≤ 126) ∧ (∀ i, i < t → V 102 i = nI (ch i)) ∧ ∀ i, i < t → V 116 i = nI (ch i) := by
  obtain ⟨t, t1, t2, t3, t4⟩ := h
  have key : ∀ i, i < t → 33 ≤ (V 102 i).toNatClampNeg ∧ (V 102 i).toNatClampNeg ≤ 126 ∧ V 102 i = nI (V 102 i).toNatClampNeg := fun i hi => by
    obtain ⟨-, c, c1, c2, e⟩ := t4 i hi
    rw [e, nI_clamp (by omega)]
    exact ⟨c1, c2, rfl⟩
  exact ⟨t, fun i => (V 102 i).toNatClampNeg, t1, t2, t3, fun i hi => ⟨(key i hi).1, (key i hi).2.1⟩, fun i hi => (key i hi).2.2, fun i hi => by rw [← (t4 i hi).1]; exact (key i hi).2.2⟩
theorem Inv_FP {V V1 : Wd} (hI : Inv V) (h : FP V V1) : Inv V1 :=
  Inv_fr hI (fun c hc => h.1 c (by omega) (by omega) (by omega) (by omega)) h.2 (by rw [h.1 106 (by omega) (by omega) (by omega) (by omega)]) (by rw [h.1 109 (by omega) (by omega) (by omega) (by omega)]) (by rw [h.1 112 (by omega) (by omega) (by omega) (by omega)]) (by rw [h.1 112 (by omega) (by omega) (by omega) (by omega)]) (by rw [h.1 112 (by omega) (by omega) (by omega) (by omega)])
theorem Inv_FM {V V1 : Wd} (hI : Inv V) (h : FM V V1) : Inv V1 :=
  Inv_fr hI (fun c hc => h.1 c (by omega) (by omega)) (by rw [h.1 101 (by omega) (by omega)]) (by rw [h.1 106 (by omega) (by omega)]) (by rw [h.1 109 (by omega) (by omega)]) (h.2 2 (by omega) (by omega) (by omega)) (h.2 4 (by omega) (by omega) (by omega)) (h.2 6 (by omega) (by omega) (by omega))
theorem st_errorPosition : S_errorPosition Inv := by
  intro V hI
  obtain ⟨t, ch, t1, t2, t3, t4, t5, t6⟩ := BU.ch hI.2.2.2.2.1
  obtain ⟨V1, a1, a2, a3⟩ := c_parse t1 t4 t2 t5
  have e112 : V1 112 = V 112 := a3.1 112 (by omega) (by omega) (by omega) (by omega)
  have e116 : V1 116 = V 116 := a3.1 116 (by omega) (by omega) (by omega) (by omega)
  obtain ⟨V2, b1, b2, b3⟩ := m_err (V := V1) t1 t4 (by rw [e112]; exact t3) (fun i hi => by rw [e116]; exact t6 i hi)
  unfold f_X8_errorPosition
  rw [a1, obs]
  exact ⟨_, V1, V2, rfl, b1, Inv_FM (Inv_FP hI a3) b3⟩
-- the model's hoist
theorem T7.s {V : Wd} {z : Nat → Int32} (h : T7 V z) {k : Nat} (hk : k < 5) : V 117 (5 * k) = zS z k := h _ (by omega)
theorem T7.g {V : Wd} {z : Nat → Int32} (h : T7 V z) {k p : Nat} (hk : k < 5) (hp : p < 4) : V 117 (5 * k + (p + 1)) = zG z k p := by
  rw [h _ (by omega)]
  show z (38 + (5 * k + (p + 1))) = z (39 + 5 * k + p)
  congr 1
  omega
theorem e5h (h : Nat) : (5 : Int32) * nI h = nI (5 * h) := by simp only [L5, pk_mul]
theorem m_need_in {V : Wd} {z : Nat → Int32} (hT : T7 V z) (hz : SZ z) {h : Nat} (hh : h < 5) (x : Int32) (b : Nat) (hb : b < 100) (K : Int32 → Int32 → Option Int32) : ∀ (d p n : Nat), p + d = sn z h → d < n → f_X9_neededOf_12 V x K n (nI (b + cnH (zG z h) x p)) (nI h) (nI (p + 1)) = K (nI (b + cnH (zG z h) x (sn z h))) (nI (h + 1)) := by
  intro d
  induction d with
  | zero =>
    intro p n hp hn
    obtain ⟨n, rfl⟩ : ∃ k, n = k + 1 := ⟨n - 1, by omega⟩
    have h4 := (hz h hh).2
    rw [f_X9_neededOf_12, e5h, rdb (n := 5 * h) rfl (by omega) (by omega), hT.s hh, (hz h hh).1, if_pos (by rw [nJ_lt (by omega) (by omega)]; omega), n1, show p = sn z h by omega]
  | succ d ih =>
    intro p n hp hn
    obtain ⟨n, rfl⟩ : ∃ k, n = k + 1 := ⟨n - 1, by omega⟩
    have h4 := (hz h hh).2
    rw [f_X9_neededOf_12, e5h, rdb (n := 5 * h) rfl (by omega) (by omega), hT.s hh, (hz h hh).1, if_neg (by rw [nJ_lt (by omega) (by omega)]; omega), nI_add, rdb (n := 5 * h + (p + 1)) rfl (by omega) (by omega), hT.g hh (by omega), n1 (p + 1)]
    have e : cnH (zG z h) x (p + 1) = if zG z h p = x then cnH (zG z h) x p + 1 else cnH (zG z h) x p := rfl
    have h2 := ih (p + 1) n (by omega) (by omega)
    rw [e] at h2
    split
    · next q => rw [if_pos q, ← Nat.add_assoc] at h2; rw [lib_, n1]; exact h2
    · next q => rw [if_neg q] at h2; rw [lib_, add0]; exact h2
theorem m_need_out {V : Wd} {z : Nat → Int32} (hT : T7 V z) (hz : SZ z) (x : Int32) : ∀ (d n : Nat), d ≤ 5 → d < n → f_X9_neededOf_4 V x n (nI (cnA z x (5 - d))) (nI (5 - d)) = some (nI (cnA z x 5)) := by
  intro d
  induction d with
  | zero =>
    intro n hd hn
    obtain ⟨n, rfl⟩ : ∃ k, n = k + 1 := ⟨n - 1, by omega⟩
    rw [f_X9_neededOf_4, if_pos (by decide)]
  | succ d ih =>
    intro n hd hn
    obtain ⟨n, rfl⟩ : ∃ k, n = k + 1 := ⟨n - 1, by omega⟩
    rw [f_X9_neededOf_4, if_neg (by rw [L5, nJ_le (by omega) (by omega)]; omega)]
    have hFU := FU_v
    have h1 := cnA_le hz x (5 - (d + 1)) (by omega)
    have h4 := (hz (5 - (d + 1)) (by omega)).2
    have h2 := m_need_in hT hz (h := 5 - (d + 1)) (by omega) x (cnA z x (5 - (d + 1))) (by omega) (fun a2 a3 => f_X9_neededOf_4 V x n a2 a3) (sn z (5 - (d + 1))) 0 FU_ (by omega) (by omega)
    refine h2.trans ?_
    have h3 := ih n (by omega) (by omega)
    rw [show 5 - d = (5 - (d + 1)) + 1 by omega] at h3
    exact h3
theorem m_need {V : Wd} {z : Nat → Int32} (hT : T7 V z) (hz : SZ z) (x : Int32) : f_X9_neededOf V x = some (nI (cnA z x 5)) := m_need_out hT hz x 5 FU_ (by omega) (by have := FU_v; omega)
theorem m_h14_ok {V : Wd} {z : Nat → Int32} (hT : T7 V z) (hz : SZ z) (hs : ∀ s, s < 14 → nI (cnA z (nI s) 5) ≤ V 113 0) : ∀ (d n : Nat), d ≤ 14 → d < n → f_X9_hoist_14 n V (nI (14 - d)) = (f_X9_recordAndDown V).bind fun V3 => (f_X9_makeEmpty V3).bind fun V4 => f_X9_hoist_53 FU_ V4 0 := by
  intro d
  induction d with
  | zero =>
    intro n hd hn
    obtain ⟨n, rfl⟩ : ∃ k, n = k + 1 := ⟨n - 1, by omega⟩
    rw [f_X9_hoist_14, if_pos (by decide)]
  | succ d ih =>
    intro n hd hn
    obtain ⟨n, rfl⟩ : ∃ k, n = k + 1 := ⟨n - 1, by omega⟩
    rw [f_X9_hoist_14, if_neg (by rw [show (13 : Int32) = nI 13 from rfl, nJ_lt (by omega) (by omega)]; omega), m_need hT hz, obs, zr0, if_pos (hs _ (by omega)), n1, show 14 - (d + 1) + 1 = 14 - d by omega]
    exact ih n (by omega) (by omega)
theorem m_h14_no {V : Wd} {z : Nat → Int32} (hT : T7 V z) (hz : SZ z) : ∀ (d n : Nat), d ≤ 14 → d < n → (¬ ∀ s, 14 - d ≤ s → s < 14 → nI (cnA z (nI s) 5) ≤ V 113 0) → f_X9_hoist_14 n V (nI (14 - d)) = some (-4, V) := by
  intro d
  induction d with
  | zero =>
    intro n hd hn hs
    exact absurd (fun s h1 h2 => absurd h1 (by omega)) hs
  | succ d ih =>
    intro n hd hn hs
    obtain ⟨n, rfl⟩ : ∃ k, n = k + 1 := ⟨n - 1, by omega⟩
    rw [f_X9_hoist_14, if_neg (by rw [show (13 : Int32) = nI 13 from rfl, nJ_lt (by omega) (by omega)]; omega), m_need hT hz, obs, zr0, n1, show 14 - (d + 1) + 1 = 14 - d by omega]
    by_cases q : nI (cnA z (nI (14 - (d + 1))) 5) ≤ V 113 0
    · rw [if_pos q]
      refine ih n (by omega) (by omega) (fun h => hs (fun s h1 h2 => ?_))
      by_cases q2 : s = 14 - (d + 1)
      · rw [q2]; exact q
      · exact h s (by omega) h2
    · rw [if_neg q]
theorem Z14 : (0 : Int32) = nI (14 - 14) := rfl
theorem m_putOn {V : Wd} {h : Nat} (hh : h < 5) (e : zS (V 113) h = nI (sn (V 113) h)) (hs : sn (V 113) h < 4) (x : Int32) : ∃ V', f_X9_putOn V (nI h) x = some V' ∧ V' 113 = ad (V 113) h x ∧ ∀ c, c ≠ 113 → V' c = V c := by
  have em : (38 : Int32) + 5 * nI h = nI (38 + 5 * h) := by simp only [L38, L5, pk_mul, nI_add]
  have e0 : V 113 (38 + 5 * h) = nI (sn (V 113) h) := e
  have e2 : zS (u2 V 113 (38 + 5 * h) (nI (sn (V 113) h + 1)) 113) h = nI (sn (V 113) h + 1) := by
    show u2 V 113 (38 + 5 * h) (nI (sn (V 113) h + 1)) 113 (38 + 5 * h) = _
    rw [u2_s]
  have e3 : nI (38 + 5 * h) + nI (sn (V 113) h + 1) = nI (39 + 5 * h + sn (V 113) h) := by rw [nI_add]; congr 1; omega
  unfold f_X9_putOn
  rw [em, rdb (n := 38 + 5 * h) rfl (by omega) (by omega), e0, n1, st_n (by omega) (by omega), m_many _ hh, obs, e2, e3, st_n (by omega) (by omega)]
  refine ⟨_, rfl, ?_, fun c hc => by rw [u2_ne hc, u2_ne hc]⟩
  rw [u2_at, u2_at]
  rfl
/-- the halyards before H hold what z says, those from H on are empty, all else is y -/
def HP (u y z : Nat → Int32) (H : Nat) : Prop := (∀ h, h < 5 → h < H → zS u h = zS z h ∧ ∀ p, p < sn z h → zG u h p = zG z h p) ∧ (∀ h, h < 5 → H ≤ h → zS u h = nI 0) ∧ ∀ j, j < 38 ∨ 63 ≤ j → u j = y j
/-- the same, and p signs of H -/
def HQ (u y z : Nat → Int32) (H p : Nat) : Prop := (∀ h, h < 5 → h < H → zS u h = zS z h ∧ ∀ p, p < sn z h → zG u h p = zG z h p) ∧ (zS u H = nI p ∧ ∀ q, q < p → zG u H q = zG z H q) ∧ (∀ h, h < 5 → H < h → zS u h = nI 0) ∧ ∀ j, j < 38 ∨ 63 ≤ j → u j = y j
theorem m_h60 {y z : Nat → Int32} (hz : SZ z) {H : Nat} (hH : H < 5) (K : Wd → Int32 → Option (Int32 × Wd)) : ∀ (d p n : Nat) (V : Wd), p + d = sn z H → d < n → T7 V z → HQ (V 113) y z H p → ∃ V', f_X9_hoist_60 K n V (nI H) (nI (p + 1)) = K V' (nI (H + 1)) ∧ T7 V' z ∧ HP (V' 113) y z (H + 1) ∧ ∀ c, c ≠ 113 → V' c = V c := by
  intro d
  induction d with
  | zero =>
    intro p n V hp hn hT hQ
    obtain ⟨n, rfl⟩ : ∃ k, n = k + 1 := ⟨n - 1, by omega⟩
    have h4 := (hz H hH).2
    obtain ⟨q1, q2, q3, q4⟩ := hQ
    rw [f_X9_hoist_60, e5h, rdb (n := 5 * H) rfl (by omega) (by omega), hT.s hH, (hz H hH).1, if_pos (by rw [nJ_lt (by omega) (by omega)]; omega), n1]
    refine ⟨V, rfl, hT, ⟨fun h hh hl => ?_, fun h hh hl => q3 h hh (by omega), q4⟩, fun _ _ => rfl⟩
    by_cases q : h = H
    · subst q
      refine ⟨by rw [q2.1, (hz h hh).1]; congr 1, fun p hp => q2.2 p (by omega)⟩
    · exact q1 h hh (by omega)
  | succ d ih =>
    intro p n V hp hn hT hQ
    obtain ⟨n, rfl⟩ : ∃ k, n = k + 1 := ⟨n - 1, by omega⟩
    have h4 := (hz H hH).2
    obtain ⟨q1, q2, q3, q4⟩ := hQ
    have esn : sn (V 113) H = p := by
      have e := congrArg Int32.toNatClampNeg q2.1
      rw [nI_clamp (by omega)] at e
      exact e
    obtain ⟨V', a1, a2, a3⟩ := m_putOn (V := V) hH (by rw [esn]; exact q2.1) (by omega) (zG z H p)
    rw [f_X9_hoist_60, e5h, rdb (n := 5 * H) rfl (by omega) (by omega), hT.s hH, (hz H hH).1, if_neg (by rw [nJ_lt (by omega) (by omega)]; omega), nI_add, rdb (n := 5 * H + (p + 1)) rfl (by omega) (by omega), hT.g hH (by omega), a1, obs, n1 (p + 1)]
    obtain ⟨b1, b2, b3, b4, b5⟩ := ad_sn (z := V 113) (h := H) (zG z H p) (by omega)
    rw [esn] at b1 b2 b3 b4
    obtain ⟨V2, k1, k2, k3, k4⟩ := ih (p + 1) n V' (by omega) (by omega) (fun j hj => by rw [a3 117 (by omega)]; exact hT j hj) (by
      rw [a2]
      refine ⟨fun h hh hl => ?_, ⟨b2, fun q hq => ?_⟩, fun h hh hl => ?_, fun j hj => ?_⟩
      · obtain ⟨w1, w2, w3⟩ := b5 h (by omega)
        have w4 := (hz h hh).2
        rw [w1]
        refine ⟨(q1 h hh hl).1, fun r hr => ?_⟩
        rw [w3 r (by omega)]
        exact (q1 h hh hl).2 r hr
      · by_cases q : q = p
        · rw [q, b3]
        · rw [b4 _ (by omega)]; exact q2.2 _ (by omega)
      · rw [(b5 h (by omega)).1]; exact q3 h hh hl
      · unfold ad
        rw [pk_un (by omega), pk_un (by omega)]
        exact q4 j hj)
    exact ⟨V2, k1, k2, k3, fun c hc => by rw [k4 c hc, a3 c hc]⟩
theorem m_h53 {y z : Nat → Int32} (hz : SZ z) : ∀ (d n : Nat) (V : Wd), d ≤ 5 → d < n → T7 V z → HP (V 113) y z (5 - d) → ∃ V', f_X9_hoist_53 n V (nI (5 - d)) = some (al (V' 113) 5, V') ∧ HP (V' 113) y z 5 ∧ (∀ c, c ≠ 113 → c ≠ 112 → V' c = V c) ∧ V' 112 6 = 0 ∧ ∀ j, j ≠ 6 → V' 112 j = V 112 j := by
  intro d
  induction d with
  | zero =>
    intro n V hd hn hT hP
    obtain ⟨n, rfl⟩ : ∃ k, n = k + 1 := ⟨n - 1, by omega⟩
    rw [f_X9_hoist_53, if_pos (by decide), lib_, m_all, obs]
    refine ⟨_, rfl, by rw [u2_ne (by omega)]; exact hP, fun c h1 h2 => u2_ne h2, u2_s _ _ _ _, fun j hj => u2_n (Or.inr hj)⟩
  | succ d ih =>
    intro n V hd hn hT hP
    obtain ⟨n, rfl⟩ : ∃ k, n = k + 1 := ⟨n - 1, by omega⟩
    have hFU := FU_v
    have h4 := (hz (5 - (d + 1)) (by omega)).2
    obtain ⟨p1, p2, p3⟩ := hP
    obtain ⟨V1, a1, a2, a3, a4⟩ := m_h60 (y := y) hz (H := 5 - (d + 1)) (by omega) (fun V1 a1 => f_X9_hoist_53 n V1 a1) (sn z (5 - (d + 1))) 0 FU_ V (by omega) (by omega) hT ⟨p1, ⟨p2 _ (by omega) (by omega), fun q hq => absurd hq (by omega)⟩, fun h hh hl => p2 h hh (by omega), p3⟩
    rw [show 5 - (d + 1) + 1 = 5 - d by omega] at a1 a3
    rw [f_X9_hoist_53, if_neg (by rw [L5, nJ_le (by omega) (by omega)]; omega)]
    obtain ⟨V2, k1, k2, k3, k4, k5⟩ := ih n V1 (by omega) (by omega) a2 a3
    have e112 : V1 112 = V 112 := a4 112 (by omega)
    refine ⟨V2, (show f_X9_hoist_60 (fun V1 a1 => f_X9_hoist_53 n V1 a1) FU_ V (nI (5 - (d + 1))) 1 = _ from a1.trans k1), k2, fun c h1 h2 => by rw [k3 c h1 h2, a4 c h1], k4, fun j hj => by rw [k5 j hj, e112]⟩
theorem al_S {z z' : Nat → Int32} : ∀ n, n ≤ 5 → (∀ h, h < 5 → zS z' h = zS z h) → al z' n = al z n
  | 0, _, _ => rfl
  | n + 1, hn, h => by rw [al, al, al_S n (by omega) h, h n (by omega)]
theorem st_hoist : S_hoist Inv := by
  intro V hI
  have hv := hI.2.1
  have hFU := FU_v
  obtain ⟨t, ch, t1, t2, t3, t4, t5, t6⟩ := BU.ch hI.2.2.2.2.1
  obtain ⟨V1, a1, a2, a3⟩ := c_parse t1 t4 t2 t5
  have hI1 := Inv_FP hI a3
  have hm := fun (X : Wd) (h112 : X 112 = V 112) (h116 : X 116 = V 116) => m_err (V := X) t1 t4 (by rw [h112]; exact t3) (fun i hi => by rw [h116]; exact t6 i hi)
  have hJ := PS_J ch t1 t 0 0 zn_ JJ_n
  obtain ⟨r, hr⟩ : ∃ r, PS ch t t 0 0 zn_ = r := ⟨_, rfl⟩
  rw [hr] at a1 a2 hm hJ
  have e113 : V1 113 = V 113 := a3.1 113 (by omega) (by omega) (by omega) (by omega)
  have e112 : V1 112 = V 112 := a3.1 112 (by omega) (by omega) (by omega) (by omega)
  have e116 : V1 116 = V 116 := a3.1 116 (by omega) (by omega) (by omega) (by omega)
  unfold f_X8_hoist f_X9_hoist
  rw [a1, obs]
  dsimp only
  by_cases q6 : r.1 = -6
  · have hz := hJ q6
    have hH := a2 q6
    obtain ⟨z, hze⟩ : ∃ z, r.2 = z := ⟨_, rfl⟩
    rw [hze] at hz hH
    have hsz : SZ z := fun h hh => ⟨(hz h hh).1, (hz h hh).2.1⟩
    have e14 : V1 1 4 = V 113 0 := by rw [a3.1 1 (by omega) (by omega) (by omega) (by omega)]; exact hI.e.1.symm
    have h0 : 0 ≤ V 113 0 := by
      have h1 := hv.c 0 (by omega)
      have h2 := cnA_le hv.vr.sz (nI 0) 5 (by omega)
      rw [I_le, nJ_tI (by omega)] at h1
      rw [I_le, show (0 : Int32).toInt = 0 from rfl]
      omega
    rw [if_pos q6, c_most (K := 103) hH hsz, obs]
    by_cases qm : mx z 14 ≤ V 113 0
    · have hcn := ((mx_le (V 113 0) 14).mp qm).2
      have qm1 : mx z 14 ≤ V1 1 4 := by rw [e14]; exact qm
      rw [if_pos qm1]
      obtain ⟨s, nx, V0, V3, hx, hc, g1, g2, g3⟩ := c_step hI1
      rw [e113] at hc g3
      obtain ⟨pS, pF, pH, pB, pL⟩ := g3
      have e3 : ∀ c, 100 < c → V3 c = V1 c := fun c h => by rw [g2 c (by omega), hc.1 c (by omega)]
      obtain ⟨V4, k1, k2, k3⟩ := c_cp3 (k := 6) (k1 := 103) (by omega) V3
      have hH4 : HS V4 6 z := k3 z (HS_fr (e3 _ (by omega)) (e3 _ (by omega)) hH)
      unfold f_X7_clear
      rw [g1, obs, k1, obs, lib_, obs]
      obtain ⟨V5, hV5⟩ : ∃ V5, u2 V4 101 1 0 = V5 := ⟨_, rfl⟩
      rw [hV5]
      have hH5 : HS V5 6 z := HS_fr (by rw [← hV5, u2_ne (by omega)]) (by rw [← hV5, u2_ne (by omega)]) hH4
      rw [c_all (K := 6) hH5, obs]
      refine mk3 ?_
      have e5 : ∀ c, c ≠ 7 → c ≠ 8 → c ≠ 101 → V5 c = V3 c := fun c h1 h2 h3 => by rw [← hV5, u2_ne h3, k2 c (by omega)]
      have e5V : ∀ c, 101 < c → V5 c = V1 c := fun c h => by rw [e5 c (by omega) (by omega) (by omega), e3 c (by omega)]
      obtain ⟨V6, b1, b2, b3⟩ := hm V5 (by rw [e5V 112 (by omega), e112]) (by rw [e5V 116 (by omega), e116])
      have hT := b2 q6
      rw [hze] at hT
      have e6 : V6 113 = V 113 := by rw [b3.1 113 (by omega) (by omega), e5V 113 (by omega), e113]
      rw [b1, obs]
      dsimp only
      rw [if_pos q6, Z14, m_h14_ok hT hsz (by rw [e6]; exact hcn) 14 FU_ (by omega) (by omega)]
      obtain ⟨hs, hn, x1, x2, x3, -⟩ := id hx
      have e62 : V6 112 2 = V1 112 2 := by rw [b3.2 2 (by omega) (by omega) (by omega), e5V 112 (by omega)]
      obtain ⟨W0, W, m1, m2, m3⟩ := m_down (V := V6) hs (by rw [e62]; exact x2)
      rw [e6] at m2
      obtain ⟨W2, l1, l2, l3, l4⟩ := m_empty W
      rw [m1, obs, l1, obs, Z55]
      have hWz : W 113 = upd (V 113) 4 0 := by rw [m3, u2_at, m2.1 113 (by omega) (by omega), e6]
      have hT2 : T7 W2 z := fun j hj => by rw [l2 117 (by omega), m3, u2_ne (by omega), m2.1 117 (by omega) (by omega)]; exact hT j hj
      obtain ⟨V7, d1, d2, d3, d4, d5⟩ := m_h53 (y := upd (V 113) 4 0) hsz 5 FU_ W2 (by omega) (by omega) hT2 ⟨fun h hh hl => absurd hl (by omega), fun h hh _ => l3 h hh, fun j hj => by rw [l4 j (fun h hh => by omega), hWz]⟩
      obtain ⟨p1, -, p3⟩ := d2
      have eS : ∀ h, h < 5 → zS (V7 113) h = zS z h := fun h hh => (p1 h hh hh).1
      refine ⟨V7, by rw [d1, al_S 5 (by omega) eS], ?_⟩
      have eG : ∀ h p, h < 5 → p < sn z h → zG (V7 113) h p = zG z h p := fun h p hh hp => (p1 h hh hh).2 p hp
      have zo : ∀ j, j ≠ 4 → j < 38 ∨ 63 ≤ j → V7 113 j = V 113 j := fun j h1 h2 => by rw [p3 j h2, pk_un h1]
      have c7 : ∀ c, c ≠ 112 → c ≠ 113 → c ≠ 114 → c ≠ 117 → V7 c = V5 c := fun c h1 h2 h3 h4 => by rw [d3 c h2 h1, l2 c h2, m3, u2_ne h2, m2.1 c h1 h3, b3.1 c h1 h4]
      have c7a : ∀ c, c < 15 → c ≠ 7 → c ≠ 8 → V7 c = V3 c := fun c h1 h2 h3 => by rw [c7 c (by omega) (by omega) (by omega) (by omega), e5 c h2 h3 (by omega)]
      have c7b : ∀ c, c = 0 ∨ (14 < c ∧ c < 29) ∨ (105 < c ∧ c < 112) ∨ c = 115 ∨ c = 116 → V7 c = V c := fun c h => by
        rw [c7 c (by omega) (by omega) (by omega) (by omega), e5 c (by omega) (by omega) (by omega), g2 c (by omega), hc.1 c (by omega), a3.1 c (by omega) (by omega) (by omega) (by omega)]
      have m7 : ∀ j, j = 2 ∨ j = 4 → V7 112 j = W0 112 j := fun j hj => by rw [d5 j (by omega), l2 112 (by omega), m3, u2_ne (by omega)]
      obtain ⟨u1, u2', u3, u4, u5, u6⟩ := hI
      refine ⟨⟨?_, FS_z (fun j h1 h2 => p3 j (by omega)) (FS_fr (c7a _ (by omega) (by omega) (by omega)) (c7a _ (by omega) (by omega) (by omega)) (c7a _ (by omega) (by omega) (by omega)) pF), fun h hh => ?_, BS_z (p3 5 (by omega)) (fun j h1 h2 => p3 j (by omega)) (BS_fr (by rw [c7a _ (by omega) (by omega) (by omega)]) (c7a _ (by omega) (by omega) (by omega)) (c7a _ (by omega) (by omega) (by omega)) pB), LGS_z (p3 6 (by omega)) (p3 7 (by omega)) (fun j h => p3 j (by omega)) (LGS_fr (by rw [c7a _ (by omega) (by omega) (by omega)]) (by rw [c7a _ (by omega) (by omega) (by omega)]) (c7a _ (by omega) (by omega) (by omega)) (c7a _ (by omega) (by omega) (by omega)) pL)⟩, VZ_mk ?_ ?_ (Vb_z (zo 5 (by omega) (by omega)) (fun j h1 h2 => zo j (by omega) (by omega)) hv.b) (Vl_z (zo 6 (by omega) (by omega)) (fun j h => zo j (by omega) (by omega)) hv.l) (fun h hh => ⟨sn z h, (hz h hh).2.1, by rw [eS h hh]; exact (hz h hh).1, fun p hp => by rw [eG h p hh hp]; exact (hz h hh).2.2 p hp⟩) (fun x hx => ?_), ?_, ?_, ⟨0, by omega, ?_, ?_, fun i hi => absurd hi (by omega)⟩, ?_⟩
      · rw [p3 0 (by omega), p3 1 (by omega), p3 2 (by omega), p3 3 (by omega), p3 4 (by omega), c7a 1 (by omega) (by omega) (by omega)]
        exact pS
      · rw [eS h hh, show V7 (1 + 5 + 2) = V5 (6 + 2) from c7 8 (by omega) (by omega) (by omega) (by omega), show V7 (1 + 5 + 1) = V5 (6 + 1) from c7 7 (by omega) (by omega) (by omega) (by omega)]
        refine ⟨(hH5 h hh).1, fun p hp hq => ?_⟩
        have hq2 := hq
        have h4 := (hz h hh).2.1
        rw [(hz h hh).1, nJ_lt (by omega) (by omega)] at hq2
        rw [eG h p hh hq2]
        exact (hH5 h hh).2 p hp hq
      · rw [zo 3 (by omega) (by omega)]; exact hv.1
      · rw [p3 4 (by omega), pk_us]
      · rw [cnA_zc hsz eS (fun h p hh hp => eG h p hh hp) (nI x) 5 (by omega), zo 0 (by omega) (by omega)]
        exact hcn x (by omega)
      · rw [c7b 0 (by omega), c7b 115 (by omega), m7 4 (by omega), m2.2.1 4 (by omega), b3.2 4 (by omega) (by omega) (by omega), e5V 112 (by omega), e112]
        exact ⟨u3.1, u3.2.imp (fun x => x) (fun x => ⟨x.1, RS_frame (fun c h1 h2 => c7b c (by omega)) x.2.1, x.2.2⟩)⟩
      · refine HI_rec hx (V1 := V0) (V2 := V6) (W := W0) (z := V 113) (by rw [← e113] at hc ⊢; exact hc) (fun c h1 h2 => by rw [b3.1 c (by omega) (by omega), e5 c (by omega) (by omega) (by omega), g2 c (by omega)]) (by rw [b3.1 114 (by omega) (by omega), e5V 114 (by omega)]) e62 m2 ⟨fun c h1 h2 => ?_, ?_, m7 2 (by omega)⟩ hv
        · rw [d3 c (by omega) (by omega), l2 c (by omega), m3, u2_ne (by omega)]
        · rw [d3 114 (by omega) (by omega), l2 114 (by omega), m3, u2_ne (by omega)]
      · rw [c7 101 (by omega) (by omega) (by omega) (by omega), ← hV5, u2_s]; rfl
      · rw [d4]; rfl
      · rw [c7b 106 (by omega), c7b 109 (by omega)]; exact u6
    · have qm1 : ¬ mx z 14 ≤ V1 1 4 := by rw [e14]; exact qm
      rw [if_neg qm1]
      refine mk3 ?_
      obtain ⟨V6, b1, b2, b3⟩ := hm V1 e112 e116
      have hT := b2 q6
      rw [hze] at hT
      have e6 : V6 113 = V 113 := by rw [b3.1 113 (by omega) (by omega), e113]
      have hno : ¬ ∀ s, 14 - 14 ≤ s → s < 14 → nI (cnA z (nI s) 5) ≤ V6 113 0 := fun h => qm ((mx_le (V 113 0) 14).mpr ⟨h0, fun s hs => by rw [← e6]; exact h s (by omega) hs⟩)
      rw [b1, obs]
      dsimp only
      rw [if_pos q6, Z14, m_h14_no hT hsz 14 FU_ (by omega) (by omega) hno]
      exact ⟨V6, rfl, Inv_FM hI1 b3⟩
  · rw [if_neg q6]
    refine mk3 ?_
    obtain ⟨V6, b1, b2, b3⟩ := hm V1 e112 e116
    rw [b1, obs]
    dsimp only
    rw [if_neg q6]
    exact ⟨V6, rfl, Inv_FM hI1 b3⟩

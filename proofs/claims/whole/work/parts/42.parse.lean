/-! Pure: what a text tells, and the class's parse. -/
def ad (z : Nat → Int32) (h : Nat) (x : Int32) : Nat → Int32 := upd (upd z (38 + 5 * h) (nI (sn z h + 1))) (39 + 5 * h + sn z h) x
/-- d characters left, the state st, the halyard k - 1, the hoists z told so far -/
def PS (ch : Nat → Nat) (n : Nat) : Nat → Nat → Nat → (Nat → Int32) → Int32 × (Nat → Int32)
  | 0, st, _, z => (if st = 3 then -6 else nI n, z)
  | d + 1, st, k, z =>
    if st = 0 then
      (if 48 + k ≤ ch (n - (d + 1)) ∧ ch (n - (d + 1)) ≤ 52 then PS ch n d 1 (ch (n - (d + 1)) - 47) z else (nI (n - (d + 1)), z))
    else if st = 1 then
      (if ch (n - (d + 1)) = 58 then PS ch n d 2 k z else (nI (n - (d + 1)), z))
    else if st = 2 then
      (if 48 ≤ ch (n - (d + 1)) ∧ ch (n - (d + 1)) ≤ 57 then PS ch n d 3 k (ad z (k - 1) (nI (ch (n - (d + 1)) - 48))) else (nI (n - (d + 1)), z))
    else if st = 3 then
      (if ch (n - (d + 1)) = 44 then (if 5 ≤ k then (nI (n - (d + 1)), z) else PS ch n d 0 k z)
      else if ch (n - (d + 1)) = 114 then (if 4 ≤ sn z (k - 1) then (nI (n - (d + 1)), z) else PS ch n d 4 k z)
      else if (48 ≤ ch (n - (d + 1)) ∧ ch (n - (d + 1)) ≤ 57) ∧ sn z (k - 1) < 4 then PS ch n d 3 k (ad z (k - 1) (nI (ch (n - (d + 1)) - 48))) else (nI (n - (d + 1)), z))
    else
      (if (49 ≤ ch (n - (d + 1)) ∧ ch (n - (d + 1)) ≤ 51) ∧ ch (n - (d + 1)) - 48 ≤ sn z (k - 1) then PS ch n d 3 k (ad z (k - 1) (nI (10 + (ch (n - (d + 1)) - 48)))) else (nI (n - (d + 1)), z))
/-- the hoists told are hoists -/
def JH (z : Nat → Int32) : Prop := ∀ h, h < 5 → zS z h = nI (sn z h) ∧ sn z h ≤ 4 ∧ ∀ p, p < sn z h → SG (zG z h p) p
def JJ (st k : Nat) (z : Nat → Int32) : Prop := JH z ∧ (∀ h, h < 5 → k ≤ h → sn z h = 0) ∧ k ≤ 5 ∧ (st = 0 ∨ 1 ≤ k) ∧ ((st = 1 ∨ st = 2) → sn z (k - 1) = 0) ∧ (st = 4 → sn z (k - 1) < 4) ∧ ((st = 3 ∨ st = 4) → 1 ≤ sn z (k - 1)) ∧ st ≤ 4
theorem ad_sn {z : Nat → Int32} {h : Nat} (x : Int32) (hs : sn z h < 4) : sn (ad z h x) h = sn z h + 1 ∧ zS (ad z h x) h = nI (sn z h + 1) ∧ zG (ad z h x) h (sn z h) = x ∧ (∀ p, p < sn z h → zG (ad z h x) h p = zG z h p) ∧ (∀ k, k ≠ h → zS (ad z h x) k = zS z k ∧ sn (ad z h x) k = sn z k ∧ ∀ p, p < 4 → zG (ad z h x) k p = zG z k p) := by
  have e1 : zS (ad z h x) h = nI (sn z h + 1) := by
    show ad z h x (38 + 5 * h) = _
    unfold ad
    rw [pk_un (by omega), pk_us]
  have e2 : ∀ k, k ≠ h → zS (ad z h x) k = zS z k := fun k hk => by
    show ad z h x (38 + 5 * k) = _
    unfold ad
    rw [pk_un (by omega), pk_un (by omega)]
    rfl
  refine ⟨?_, e1, ?_, fun p hp => ?_, fun k hk => ⟨e2 k hk, ?_, fun p hp => ?_⟩⟩
  · have e3 : sn (ad z h x) h = (nI (sn z h + 1)).toNatClampNeg := congrArg Int32.toNatClampNeg e1
    rw [e3, nI_clamp (by omega)]
  · show ad z h x (39 + 5 * h + sn z h) = _
    unfold ad
    rw [pk_us]
  · show ad z h x (39 + 5 * h + p) = _
    unfold ad
    rw [pk_un (by omega), pk_un (by omega)]
    rfl
  · exact congrArg Int32.toNatClampNeg (e2 k hk)
  · show ad z h x (39 + 5 * k + p) = _
    unfold ad
    rw [pk_un (by omega), pk_un (by omega)]
    rfl
theorem JH_ad {z : Nat → Int32} {h : Nat} {x : Int32} (hz : JH z) (hs : sn z h < 4) (hx : SG x (sn z h)) : JH (ad z h x) := by
  obtain ⟨a1, a2, a3, a4, a5⟩ := ad_sn x hs
  intro k hk
  by_cases q : k = h
  · subst q
    rw [a1, a2]
    refine ⟨rfl, by omega, fun p hp => ?_⟩
    by_cases qp : p = sn z k
    · rw [qp, a3]; exact hx
    · rw [a4 p (by omega)]; exact (hz k hk).2.2 p (by omega)
  · obtain ⟨b1, b2, b3⟩ := a5 k q
    have h4 := (hz k hk).2.1
    rw [b1, b2]
    refine ⟨(hz k hk).1, h4, fun p hp => ?_⟩
    rw [b3 p (by omega)]; exact (hz k hk).2.2 p hp
theorem JJ_ad {z : Nat → Int32} {st k : Nat} {x : Int32} (hz : JJ st k z) (hk : 1 ≤ k) (hs : sn z (k - 1) < 4) (hx : SG x (sn z (k - 1))) : JJ 3 k (ad z (k - 1) x) := by
  obtain ⟨j1, j2, j3, j4, j5, j6, j7, j8⟩ := hz
  obtain ⟨a1, a2, a3, a4, a5⟩ := ad_sn x hs
  refine ⟨JH_ad j1 hs hx, fun h hh hk2 => ?_, j3, Or.inr hk, fun q => by omega, fun q => by omega, fun _ => by omega, by omega⟩
  rw [(a5 h (by omega)).2.1]
  exact j2 h hh hk2
theorem JJ_0 {z : Nat → Int32} {k h : Nat} (hz : JJ 0 k z) (hk : k ≤ h) (hh : h < 5) : JJ 1 (h + 1) z := by
  obtain ⟨j1, j2, j3, j4, j5, j6, j7, j8⟩ := hz
  refine ⟨j1, fun h2 hh2 hk2 => j2 h2 hh2 (by omega), by omega, Or.inr (by omega), fun _ => ?_, fun q => by omega, fun q => by omega, by omega⟩
  rw [Nat.add_sub_cancel]
  exact j2 h hh hk
theorem JJ_2 {z : Nat → Int32} {k : Nat} (hz : JJ 1 k z) : JJ 2 k z := by
  obtain ⟨j1, j2, j3, j4, j5, j6, j7, j8⟩ := hz
  exact ⟨j1, j2, j3, Or.inr (by omega), fun _ => j5 (Or.inl rfl), fun q => by omega, fun q => by omega, by omega⟩
theorem JJ_30 {z : Nat → Int32} {k : Nat} (hz : JJ 3 k z) : JJ 0 k z := by
  obtain ⟨j1, j2, j3, j4, j5, j6, j7, j8⟩ := hz
  exact ⟨j1, j2, j3, Or.inl rfl, fun q => by omega, fun q => by omega, fun q => by omega, by omega⟩
theorem JJ_34 {z : Nat → Int32} {k : Nat} (hz : JJ 3 k z) (hs : sn z (k - 1) < 4) : JJ 4 k z := by
  obtain ⟨j1, j2, j3, j4, j5, j6, j7, j8⟩ := hz
  exact ⟨j1, j2, j3, Or.inr (by omega), fun q => by omega, fun _ => hs, fun _ => j7 (Or.inl rfl), by omega⟩
theorem SG_fl {f p : Nat} (h : f < 10) : SG (nI f) p := Or.inl ⟨f, h, rfl⟩
theorem SG_pe {q p : Nat} (h : 1 ≤ q) (h2 : q ≤ p) (h3 : q ≤ 3) : SG (nI (10 + q)) p := Or.inr ⟨q, h, h2, h3, rfl⟩
theorem PS_J (ch : Nat → Nat) {n : Nat} (hn : n ≤ 50) : ∀ (d st k : Nat) (z : Nat → Int32), JJ st k z → (PS ch n d st k z).1 = -6 → JH (PS ch n d st k z).2
  | 0, st, k, z, hj, _ => hj.1
  | d + 1, st, k, z, hj, h6 => by
    obtain ⟨j1, j2, j3, j4, j5, j6, j7, j8⟩ := id hj
    have hf : ∀ {p : Int32 × (Nat → Int32)}, (nI (n - (d + 1)), z).1 = -6 → JH p.2 := fun h => absurd h (nI_ne6 (by omega))
    rw [PS] at h6 ⊢
    rcases (show st = 0 ∨ st = 1 ∨ st = 2 ∨ st = 3 ∨ st = 4 by omega) with rfl | rfl | rfl | rfl | rfl
    · rw [if_pos rfl] at h6 ⊢
      split at h6
      · next q =>
        rw [if_pos q]
        have h5 := JJ_0 hj (h := ch (n - (d + 1)) - 48) (by omega) (by omega)
        rw [show ch (n - (d + 1)) - 48 + 1 = ch (n - (d + 1)) - 47 by omega] at h5
        exact PS_J ch hn d _ _ _ h5 h6
      · exact absurd h6 (nI_ne6 (by omega))
    · rw [if_neg (by omega), if_pos rfl] at h6 ⊢
      split at h6
      · next q => rw [if_pos q]; exact PS_J ch hn d _ _ _ (JJ_2 hj) h6
      · exact absurd h6 (nI_ne6 (by omega))
    · rw [if_neg (by omega), if_neg (by omega), if_pos rfl] at h6 ⊢
      split at h6
      · next q => rw [if_pos q]; exact PS_J ch hn d _ _ _ (JJ_ad hj (by omega) (by have := j5 (Or.inr rfl); omega) (SG_fl (by omega))) h6
      · exact absurd h6 (nI_ne6 (by omega))
    · rw [if_neg (by omega), if_neg (by omega), if_neg (by omega), if_pos rfl] at h6 ⊢
      split at h6
      · next q =>
        rw [if_pos q]
        split at h6
        · exact absurd h6 (nI_ne6 (by omega))
        · next q2 => rw [if_neg q2]; exact PS_J ch hn d _ _ _ (JJ_30 hj) h6
      · next q =>
        rw [if_neg q]
        split at h6
        · next q2 =>
          rw [if_pos q2]
          split at h6
          · exact absurd h6 (nI_ne6 (by omega))
          · next q3 => rw [if_neg q3]; exact PS_J ch hn d _ _ _ (JJ_34 hj (by omega)) h6
        · next q2 =>
          rw [if_neg q2]
          split at h6
          · next q3 => rw [if_pos q3]; exact PS_J ch hn d _ _ _ (JJ_ad hj (by omega) q3.2 (SG_fl (by omega))) h6
          · exact absurd h6 (nI_ne6 (by omega))
    · rw [if_neg (by omega), if_neg (by omega), if_neg (by omega), if_neg (by omega)] at h6 ⊢
      split at h6
      · next q => rw [if_pos q]; exact PS_J ch hn d _ _ _ (JJ_ad hj (by omega) (j6 rfl) (SG_pe (by omega) q.2 (by omega))) h6
      · exact absurd h6 (nI_ne6 (by omega))
-- the class
def kc (k : Nat) : Int32 := nI k - 1
theorem kc_s (k : Nat) (h : 1 ≤ k) : kc k = nI (k - 1) := by
  unfold kc
  obtain ⟨j, rfl⟩ : ∃ j, k = j + 1 := ⟨k - 1, by omega⟩
  rw [ns1, Nat.add_sub_cancel]
theorem nI_subI {a b : Nat} (ha : a < 1000) (hb : b < 1000) : (nI a - nI b).toInt = (a : Int) - b := by
  rw [Int32.toInt_sub, nJ_tI (by omega), nJ_tI (by omega)]
  exact Int.bmod_eq_of_le (by omega) (by omega)
theorem L48 : (48 : Int32) = nI 48 := rfl
theorem c_addK {K : Nat} {V : Wd} {z : Nat → Int32} {h : Nat} (hh : h < 5) (hz : JH z) (hs : sn z h < 4) (x : Int32) (hR : HS V K z) : ∃ V', f_X3_add K V (nI h) x = some V' ∧ HS V' K (ad z h x) ∧ ∀ c, c ≠ K + 1 → c ≠ K + 2 → V' c = V c := by
  have e8 : V (K + 2) h = nI (sn z h) := by rw [← (hR h hh).1]; exact (hz h hh).1
  have ei : nI h * 4 + nI (sn z h) = nI (4 * h + sn z h) := by simp only [L4, pk_mul, nI_add, Nat.mul_comm]
  unfold f_X3_add
  rw [bl_y (n := 5) (x := 5) rfl hh (by omega), if10, rdb (n := h) rfl hh (by omega), e8, bl_y (n := 4) (x := 4) rfl hs (by omega), if10, rdb (n := h) rfl hh (by omega), e8, st_e ei (by omega) (by omega), rdb (n := h) rfl hh (by omega), u2_ne (show K + 2 ≠ K + 1 by omega), e8, n1, st_n hh (by omega)]
  obtain ⟨a1, a2, a3, a4, a5⟩ := ad_sn (z := z) (h := h) x hs
  refine ⟨_, rfl, fun k hk => ?_, fun c h1 h2 => by rw [u2_ne h2, u2_ne h1]⟩
  by_cases qk : k = h
  · subst qk
    refine ⟨by rw [a2, u2_s], fun p hp hq => ?_⟩
    rw [a2, nJ_lt (by omega) (by omega)] at hq
    rw [u2_ne (by omega)]
    by_cases qp : p = sn z k
    · rw [qp, a3, u2_s]
    · rw [a4 p (by omega), u2_n (Or.inr (by omega))]
      exact (hR k hh).2 p hp (by rw [(hz k hh).1, nJ_lt (by omega) (by omega)]; omega)
  · obtain ⟨b1, b2, b3⟩ := a5 k qk
    refine ⟨by rw [b1, u2_n (Or.inr qk), u2_ne (by omega)]; exact (hR k hk).1, fun p hp hq => ?_⟩
    rw [b1] at hq
    rw [b3 p hp, u2_ne (by omega), u2_n (Or.inr (by omega))]
    exact (hR k hk).2 p hp hq
/-- what a parse of the class keeps -/
def FP (V V' : Wd) : Prop := (∀ c, c ≠ 101 → c ≠ 103 → c ≠ 104 → c ≠ 105 → V' c = V c) ∧ V' 101 1 = V 101 1
theorem FP.tr {V V1 V2 : Wd} (h : FP V V1) (g : FP V1 V2) : FP V V2 := ⟨fun c h1 h2 h3 h4 => (g.1 c h1 h2 h3 h4).trans (h.1 c h1 h2 h3 h4), g.2.trans h.2⟩
theorem FP_u {V : Wd} {j : Nat} (hj : j ≠ 1) (x : Int32) : FP V (u2 V 101 j x) := ⟨fun c h1 _ _ _ => u2_ne h1, u2_n (Or.inr (by omega))⟩
theorem is48 {c a b : Nat} (hc : c < 1000) (ha : a < 1000) : (48 + a ≤ c ∧ c < 48 + b) ↔ (nI a ≤ nI c - 48 ∧ (nI c - 48).toInt < b) := by
  rw [I_le, L48, nI_subI hc (by omega), nJ_tI (by omega)]
  omega
theorem fl_cases {c : Nat} (hc : c < 1000) : (48 ≤ c ∧ c ≤ 57 ∧ nI c - 48 = nI (c - 48) ∧ f_X8_isBelow (nI c - 48) 10 = 1) ∨ (¬(48 ≤ c ∧ c ≤ 57) ∧ f_X8_isBelow (nI c - 48) 10 = 0) := by
  by_cases h : 48 ≤ c ∧ c ≤ 57
  · have e : nI c - 48 = nI (c - 48) := by rw [L48, pk_sub (by omega)]
    exact Or.inl ⟨h.1, h.2, e, by rw [e]; exact bl_y (n := 10) (x := 10) rfl (by omega) (by omega)⟩
  · refine Or.inr ⟨h, bl_no (n := 10) ?_⟩
    rw [I_lt, I_le, L48, nI_subI hc (by omega), nJ_tI (by omega), show (0 : Int32).toInt = 0 from rfl]
    omega
theorem c_acc {V : Wd} {z : Nat → Int32} {st k c : Nat} (hj : JJ st k z) (hc1 : 33 ≤ c) (hc2 : c ≤ 126) (h3 : V 101 3 = kc k) (h4 : V 101 4 = nI st) (hH : HS V 103 z) : (∃ V' st' k' z', f_X7_accept V (nI c) = some (1, V') ∧ FP V V' ∧ V' 101 3 = kc k' ∧ V' 101 4 = nI st' ∧ HS V' 103 z' ∧ JJ st' k' z' ∧ ∀ ch n d, ch (n - (d + 1)) = c → PS ch n (d + 1) st k z = PS ch n d st' k' z') ∨ (∃ V', f_X7_accept V (nI c) = some (0, V') ∧ FP V V' ∧ ∀ ch n d, ch (n - (d + 1)) = c → PS ch n (d + 1) st k z = (nI (n - (d + 1)), z)) := by
  obtain ⟨j1, j2, j3, j4, j5, j6, j7, j8⟩ := id hj
  have f1 : isB (1 : Int32) := Or.inr rfl
  have f0 : isB (0 : Int32) := Or.inl rfl
  have FPr : FP V V := ⟨fun _ _ _ _ _ => rfl, rfl⟩
  have hflag : 1 ≤ k → (¬(48 ≤ c ∧ c ≤ 57) ∨ 4 ≤ sn z (k - 1)) → f_X7_acceptFlag V (nI c - 48) = some (0, V) := fun hk h => by
    unfold f_X7_acceptFlag
    rcases fl_cases (c := c) (by omega) with ⟨w1, w2, w3, w4⟩ | ⟨w1, w2⟩
    · rw [w4, if10, h3, kc_s k hk, c_sizeOf hH (by omega), obs, (j1 _ (by omega)).1, if_neg]
      rw [L4, nJ_lt (by have := (j1 (k - 1) (by omega)).2.1; omega) (by omega)]
      omega
    · rw [w2, if00]
  have hflag2 : 1 ≤ k → (48 ≤ c ∧ c ≤ 57) → sn z (k - 1) < 4 → ∃ V', f_X7_acceptFlag V (nI c - 48) = some (1, V') ∧ FP V V' ∧ V' 101 3 = kc k ∧ V' 101 4 = nI 3 ∧ HS V' 103 (ad z (k - 1) (nI (c - 48))) ∧ JJ 3 k (ad z (k - 1) (nI (c - 48))) := fun hk h hs => by
    unfold f_X7_acceptFlag
    rcases fl_cases (c := c) (by omega) with ⟨w1, w2, w3, w4⟩ | ⟨w1, w2⟩
    · obtain ⟨V1, a1, a2, a3⟩ := c_addK (K := 103) (h := k - 1) (by omega) j1 hs (nI (c - 48)) hH
      rw [w4, if10, h3, kc_s k hk, c_sizeOf hH (by omega), obs, (j1 _ (by omega)).1, if_pos (by rw [L4, nJ_lt (by omega) (by omega)]; omega), w3, a1, obs, lib_]
      refine ⟨_, rfl, FP.tr ⟨fun c h1 h2 h3 h4 => a3 c (by omega) (by omega), by rw [a3 101 (by omega) (by omega)]⟩ (FP_u (by omega) _), ?_, ?_, ?_, JJ_ad hj hk hs (SG_fl (by omega))⟩
      · rw [u2_n (Or.inr (by omega)), a3 101 (by omega) (by omega), h3, kc_s k hk]
      · rw [u2_s]; rfl
      · exact HS_fr (u2_ne (by omega)) (u2_ne (by omega)) a2
    · exact absurd h w1
  unfold f_X7_accept
  rw [h4]
  rcases (show st = 0 ∨ st = 1 ∨ st = 2 ∨ st = 3 ∨ st = 4 by omega) with rfl | rfl | rfl | rfl | rfl
  · rw [if_pos (show nI 0 = 0 from rfl)]
    unfold f_X7_acceptHalyard
    rw [h3]
    have ek : (kc k).toInt = (k : Int) - 1 := by unfold kc; rw [L1, nI_subI (by omega) (by omega)]; rfl
    have ec : (nI c - 48).toInt = (c : Int) - 48 := by rw [L48, nI_subI (by omega) (by omega)]; rfl
    by_cases q1 : 48 + k ≤ c
    · rw [if_neg (by rw [I_le, ek, ec]; omega)]
      by_cases q2 : c ≤ 52
      · rw [if_pos (by rw [I_lt, ec, show (5 : Int32).toInt = 5 from rfl]; omega), lib_, lib_, obs]
        dsimp only
        rw [if_pos f1]
        have e5 := JJ_0 hj (h := c - 48) (by omega) (by omega)
        rw [show c - 48 + 1 = c - 47 by omega] at e5
        refine Or.inl ⟨_, 1, c - 47, z, rfl, FP.tr (FP_u (by omega) _) (FP_u (by omega) _), ?_, ?_, ?_, e5, fun ch n d hc => ?_⟩
        · rw [u2_n (Or.inr (by omega)), u2_s, kc_s _ (by omega), L48, pk_sub (by omega)]
          congr 1
        · rw [u2_s]; rfl
        · exact HS_fr (by rw [u2_ne (by omega), u2_ne (by omega)]) (by rw [u2_ne (by omega), u2_ne (by omega)]) hH
        · rw [PS, if_pos rfl, hc, if_pos ⟨q1, q2⟩]
      · rw [if_neg (by rw [I_lt, ec, show (5 : Int32).toInt = 5 from rfl]; omega), obs]
        dsimp only
        rw [if_pos f0]
        refine Or.inr ⟨V, rfl, FPr, fun ch n d hc => ?_⟩
        rw [PS, if_pos rfl, hc, if_neg (by omega)]
    · rw [if_pos (by rw [I_le, ek, ec]; omega), obs]
      dsimp only
      rw [if_pos f0]
      refine Or.inr ⟨V, rfl, FPr, fun ch n d hc => ?_⟩
      rw [PS, if_pos rfl, hc, if_neg (by omega)]
  · rw [if_neg (by decide), if_pos (show nI 1 = 1 from rfl), lib_]
    by_cases q : c = 58
    · rw [if_pos (by rw [q]; rfl)]
      refine Or.inl ⟨_, 2, k, z, rfl, FP_u (by omega) _, ?_, ?_, HS_fr (u2_ne (by omega)) (u2_ne (by omega)) hH, JJ_2 hj, fun ch n d hc => ?_⟩
      · rw [u2_n (Or.inr (by omega))]; exact h3
      · rw [u2_s]; rfl
      · rw [PS, if_neg (by omega), if_pos rfl, hc, if_pos q]
    · rw [if_neg (by rw [show (58 : Int32) = nI 58 from rfl, nJ_eq (by omega) (by omega)]; exact q)]
      refine Or.inr ⟨_, rfl, FP_u (by omega) _, fun ch n d hc => ?_⟩
      rw [PS, if_neg (by omega), if_pos rfl, hc, if_neg q]
  · have hk : 1 ≤ k := by omega
    rw [if_neg (by decide), if_neg (by decide), if_pos (show nI 2 = 2 from rfl)]
    by_cases q : 48 ≤ c ∧ c ≤ 57
    · obtain ⟨V', a1, a2, a3, a4, a5, a6⟩ := hflag2 hk q (by have := j5 (Or.inr rfl); omega)
      rw [a1, obs]
      dsimp only
      rw [if_pos f1]
      refine Or.inl ⟨V', 3, k, _, rfl, a2, a3, a4, a5, a6, fun ch n d hc => ?_⟩
      rw [PS, if_neg (by omega), if_neg (by omega), if_pos rfl, hc, if_pos q]
    · rw [hflag hk (Or.inl q), obs]
      dsimp only
      rw [if_pos f0]
      refine Or.inr ⟨V, rfl, FPr, fun ch n d hc => ?_⟩
      rw [PS, if_neg (by omega), if_neg (by omega), if_pos rfl, hc, if_neg q]
  · have hk : 1 ≤ k := by omega
    rw [if_neg (by decide), if_neg (by decide), if_neg (by decide), if_pos (show nI 3 = 3 from rfl)]
    unfold f_X7_acceptMore
    by_cases q44 : c = 44
    · rw [if_pos (by rw [q44]; rfl), lib_, u2_n (Or.inr (by omega)), h3, kc_s k hk]
      by_cases q5 : 5 ≤ k
      · rw [if_pos (by rw [L4, nJ_le (by omega) (by omega)]; omega), obs]
        dsimp only
        rw [if_pos f0]
        refine Or.inr ⟨_, rfl, FP_u (by omega) _, fun ch n d hc => ?_⟩
        rw [PS, if_neg (by omega), if_neg (by omega), if_neg (by omega), if_pos rfl, hc, if_pos q44, if_pos q5]
      · rw [if_neg (by rw [L4, nJ_le (by omega) (by omega)]; omega), obs]
        dsimp only
        rw [if_pos f1]
        refine Or.inl ⟨_, 0, k, z, rfl, FP_u (by omega) _, ?_, ?_, HS_fr (u2_ne (by omega)) (u2_ne (by omega)) hH, JJ_30 hj, fun ch n d hc => ?_⟩
        · rw [u2_n (Or.inr (by omega))]; exact h3
        · rw [u2_s]; rfl
        · rw [PS, if_neg (by omega), if_neg (by omega), if_neg (by omega), if_pos rfl, hc, if_pos q44, if_neg q5]
    · rw [if_neg (by rw [show (44 : Int32) = nI 44 from rfl, nJ_eq (by omega) (by omega)]; exact q44)]
      by_cases q114 : c = 114
      · have hs4 := (j1 (k - 1) (by omega)).2.1
        rw [if_pos (by rw [q114]; rfl), lib_, u2_n (Or.inr (by omega)), h3, kc_s k hk, c_sizeOf (z := z) (HS_fr (u2_ne (by omega)) (u2_ne (by omega)) hH) (by omega), obs, (j1 _ (by omega)).1]
        by_cases q4 : 4 ≤ sn z (k - 1)
        · rw [if_pos (by rw [L4, nJ_le (by omega) (by omega)]; omega), obs]
          dsimp only
          rw [if_pos f0]
          refine Or.inr ⟨_, rfl, FP_u (by omega) _, fun ch n d hc => ?_⟩
          rw [PS, if_neg (by omega), if_neg (by omega), if_neg (by omega), if_pos rfl, hc, if_neg q44, if_pos q114, if_pos q4]
        · rw [if_neg (by rw [L4, nJ_le (by omega) (by omega)]; omega), obs]
          dsimp only
          rw [if_pos f1]
          refine Or.inl ⟨_, 4, k, z, rfl, FP_u (by omega) _, ?_, ?_, HS_fr (u2_ne (by omega)) (u2_ne (by omega)) hH, JJ_34 hj (by omega), fun ch n d hc => ?_⟩
          · rw [u2_n (Or.inr (by omega))]; exact h3
          · rw [u2_s]; rfl
          · rw [PS, if_neg (by omega), if_neg (by omega), if_neg (by omega), if_pos rfl, hc, if_neg q44, if_pos q114, if_neg q4]
      · rw [if_neg (by rw [show (114 : Int32) = nI 114 from rfl, nJ_eq (by omega) (by omega)]; exact q114)]
        by_cases q : (48 ≤ c ∧ c ≤ 57) ∧ sn z (k - 1) < 4
        · obtain ⟨V', a1, a2, a3, a4, a5, a6⟩ := hflag2 hk q.1 q.2
          rw [a1, obs]
          dsimp only
          rw [if_pos f1, obs]
          dsimp only
          rw [if_pos f1]
          refine Or.inl ⟨V', 3, k, _, rfl, a2, a3, a4, a5, a6, fun ch n d hc => ?_⟩
          rw [PS, if_neg (by omega), if_neg (by omega), if_neg (by omega), if_pos rfl, hc, if_neg q44, if_neg q114, if_pos q]
        · rw [hflag hk (by omega), obs]
          dsimp only
          rw [if_pos f0, obs]
          dsimp only
          rw [if_pos f0]
          refine Or.inr ⟨V, rfl, FPr, fun ch n d hc => ?_⟩
          rw [PS, if_neg (by omega), if_neg (by omega), if_neg (by omega), if_pos rfl, hc, if_neg q44, if_neg q114, if_neg q]
  · have hk : 1 ≤ k := by omega
    have hs4 := (j1 (k - 1) (by omega)).2.1
    rw [if_neg (by decide), if_neg (by decide), if_neg (by decide), if_neg (by decide)]
    unfold f_X7_acceptPennant
    have ec : (nI c - 48).toInt = (c : Int) - 48 := by rw [L48, nI_subI (by omega) (by omega)]; rfl
    have i1 : (1 : Int32).toInt = 1 := rfl
    have i3 : (3 : Int32).toInt = 3 := rfl
    by_cases q1 : 49 ≤ c
    · rw [if_neg (by rw [I_lt, ec, i1]; omega)]
      by_cases q3 : c ≤ 51
      · have e48 : nI c - 48 = nI (c - 48) := by rw [L48, pk_sub (by omega)]
        rw [if_neg (by rw [I_lt, ec, i3]; omega), h3, kc_s k hk, c_sizeOf hH (by omega), obs, (j1 _ (by omega)).1, e48]
        by_cases qs : c - 48 ≤ sn z (k - 1)
        · obtain ⟨V1, a1, a2, a3⟩ := c_addK (K := 103) (h := k - 1) (by omega) j1 (j6 rfl) (nI (10 + (c - 48))) hH
          rw [if_pos (by rw [nJ_le (by omega) (by omega)]; exact qs), L10, nI_add, a1, obs, lib_, obs]
          dsimp only
          rw [if_pos f1]
          refine Or.inl ⟨_, 3, k, _, rfl, FP.tr ⟨fun c h1 h2 h3 h4 => a3 c (by omega) (by omega), by rw [a3 101 (by omega) (by omega)]⟩ (FP_u (by omega) _), ?_, ?_, HS_fr (u2_ne (by omega)) (u2_ne (by omega)) a2, JJ_ad hj hk (j6 rfl) (SG_pe (by omega) qs (by omega)), fun ch n d hc => ?_⟩
          · rw [u2_n (Or.inr (by omega)), a3 101 (by omega) (by omega)]; exact h3
          · rw [u2_s]; rfl
          · rw [PS, if_neg (by omega), if_neg (by omega), if_neg (by omega), if_neg (by omega), hc, if_pos ⟨⟨q1, q3⟩, qs⟩]
        · rw [if_neg (by rw [nJ_le (by omega) (by omega)]; exact qs), obs]
          dsimp only
          rw [if_pos f0]
          refine Or.inr ⟨V, rfl, FPr, fun ch n d hc => ?_⟩
          rw [PS, if_neg (by omega), if_neg (by omega), if_neg (by omega), if_neg (by omega), hc, if_neg (fun h => qs h.2)]
      · rw [if_pos (by rw [I_lt, ec, i3]; omega), obs]
        dsimp only
        rw [if_pos f0]
        refine Or.inr ⟨V, rfl, FPr, fun ch n d hc => ?_⟩
        rw [PS, if_neg (by omega), if_neg (by omega), if_neg (by omega), if_neg (by omega), hc, if_neg (by omega)]
    · rw [if_pos (by rw [I_lt, ec, i1]; omega), obs]
      dsimp only
      rw [if_pos f0]
      refine Or.inr ⟨V, rfl, FPr, fun ch n d hc => ?_⟩
      rw [PS, if_neg (by omega), if_neg (by omega), if_neg (by omega), if_neg (by omega), hc, if_neg (by omega)]
theorem c_parse_l {ch : Nat → Nat} {n : Nat} (hn : n ≤ 50) (hch : ∀ i, i < n → 33 ≤ ch i ∧ ch i ≤ 126) : ∀ (d m : Nat) (V : Wd) (st k : Nat) (z : Nat → Int32), d ≤ n → d < m → V 101 1 = nI n → (∀ i, i < n → V 102 i = nI (ch i)) → V 101 3 = kc k → V 101 4 = nI st → HS V 103 z → JJ st k z → ∃ V', f_X7_parse_19 m V (nI (n - d)) = some ((PS ch n d st k z).1, V') ∧ ((PS ch n d st k z).1 = -6 → HS V' 103 (PS ch n d st k z).2) ∧ FP V V' := by
  intro d
  induction d with
  | zero =>
    intro m V st k z hd hm h1 h2 h3 h4 hH hj
    obtain ⟨m, rfl⟩ : ∃ j, m = j + 1 := ⟨m - 1, by omega⟩
    rw [f_X7_parse_19, h1, if_pos (by rw [nJ_le (by omega) (by omega)]; omega)]
    unfold f_X7_parse_54
    rw [h4, h1, PS]
    refine ⟨V, ?_, fun _ => hH, fun _ _ _ _ _ => rfl, rfl⟩
    have h8 := hj.2.2.2.2.2.2.2
    by_cases q : st = 3
    · rw [if_pos (by rw [q]; rfl), if_pos q]
    · rw [if_neg (by rw [L3, nJ_eq (by omega) (by omega)]; exact q), if_neg q]
  | succ d ih =>
    intro m V st k z hd hm h1 h2 h3 h4 hH hj
    obtain ⟨m, rfl⟩ : ∃ j, m = j + 1 := ⟨m - 1, by omega⟩
    obtain ⟨c1, c2⟩ := hch (n - (d + 1)) (by omega)
    rw [f_X7_parse_19, h1, if_neg (by rw [nJ_le (by omega) (by omega)]; omega), if_neg (by rw [show (50 : Int32) = nI 50 from rfl, nJ_le (by omega) (by omega)]; omega), rdb (n := n - (d + 1)) rfl (by omega) (by omega), h2 _ (by omega)]
    rcases c_acc hj c1 c2 h3 h4 hH with ⟨V1, st', k', z', a1, a2, a3, a4, a5, a6, a7⟩ | ⟨V1, a1, a2, a3⟩
    · rw [a1, obs]
      dsimp only
      rw [if_neg t10, n1, show n - (d + 1) + 1 = n - d by omega, a7 ch n d rfl]
      obtain ⟨V', b1, b2, b3⟩ := ih m V1 st' k' z' (by omega) (by omega) (by rw [a2.2]; exact h1) (fun i hi => by rw [a2.1 102 (by omega) (by omega) (by omega) (by omega)]; exact h2 i hi) a3 a4 a5 a6
      exact ⟨V', b1, b2, a2.tr b3⟩
    · rw [a1, obs]
      dsimp only
      rw [if_pos t00, a3 ch n d rfl]
      exact ⟨V1, rfl, fun h => absurd h (nI_ne6 (by omega)), a2⟩
def zn_ : Nat → Int32 := fun _ => 0
theorem zn_sn (h : Nat) : sn zn_ h = 0 := rfl
theorem JJ_n : JJ 0 0 zn_ := ⟨fun h _ => ⟨rfl, by rw [zn_sn]; omega, fun p hp => by rw [zn_sn] at hp; omega⟩, fun h _ _ => zn_sn h, by omega, Or.inl rfl, fun q => by omega, fun q => by omega, fun q => by omega, by omega⟩
theorem c_parse {V : Wd} {ch : Nat → Nat} {n : Nat} (hn : n ≤ 50) (hch : ∀ i, i < n → 33 ≤ ch i ∧ ch i ≤ 126) (h1 : V 101 1 = nI n) (h2 : ∀ i, i < n → V 102 i = nI (ch i)) : ∃ V', f_X7_parse V = some ((PS ch n n 0 0 zn_).1, V') ∧ ((PS ch n n 0 0 zn_).1 = -6 → HS V' 103 (PS ch n n 0 0 zn_).2) ∧ FP V V' := by
  have hFU := FU_v
  obtain ⟨V1, a1, a2, a3⟩ := c_clear 103 V
  unfold f_X7_parse
  rw [a1, obs, lib_, lib_]
  obtain ⟨V2, hV2⟩ : ∃ V2, u2 (u2 V1 101 3 (-1)) 101 4 0 = V2 := ⟨_, rfl⟩
  rw [hV2]
  have hf : FP V V2 := by
    rw [← hV2]
    exact FP.tr ⟨fun c h1 h2 h3 h4 => a3 c (by omega), by rw [a3 101 (by omega)]⟩ (FP.tr (FP_u (by omega) _) (FP_u (by omega) _))
  obtain ⟨V', b1, b2, b3⟩ := c_parse_l hn hch n FU_ V2 0 0 zn_ (by omega) (by omega) (by rw [hf.2]; exact h1) (fun i hi => by rw [hf.1 102 (by omega) (by omega) (by omega) (by omega)]; exact h2 i hi) (by rw [← hV2, u2_n (Or.inr (by omega)), u2_s]; decide) (by rw [← hV2, u2_s]; rfl) (fun h hh => ⟨by rw [← hV2, u2_ne (by omega), u2_ne (by omega)]; exact (a2 h hh).symm, fun p hp hq => absurd hq (nI_pos (by omega))⟩) JJ_n
  rw [Nat.sub_self] at b1
  exact ⟨V', b1, b2, hf.tr b3⟩

/-! Pure: the model's record. -/
theorem m_rec51 {s : Nat} (hs : s < 5) : ∀ (d n : Nat) (V : Wd), d ≤ 136 → d < n → V 112 2 = nI s → ∃ V', f_X9_record_51 n V (nI (136 - d)) = some V' ∧ (∀ c, c ≠ 112 → c ≠ 114 → V' c = V c) ∧ (∀ j, j ≠ 2 → V' 112 j = V 112 j) ∧ V' 112 2 = nI (s + 1) ∧ ∀ q, V' 114 q = if 136 * s + (136 - d) ≤ q ∧ q < 136 * s + 136 then V 113 (q - 136 * s) else V 114 q := by
  intro d
  induction d with
  | zero =>
    intro n V hd hn hV
    obtain ⟨n, rfl⟩ : ∃ k, n = k + 1 := ⟨n - 1, by omega⟩
    rw [f_X9_record_51, if_pos (by decide)]
    unfold f_X9_record_85 li_
    refine ⟨_, rfl, fun c h1 h2 => u2_ne h1, fun j hj => u2_n (Or.inr hj), ?_, fun q => ?_⟩
    · rw [u2_s, hV, n1]
    · rw [u2_ne (by decide), if_neg (by omega)]
  | succ d ih =>
    intro n V hd hn hV
    obtain ⟨n, rfl⟩ : ∃ k, n = k + 1 := ⟨n - 1, by omega⟩
    have e : V 112 2 * 136 + nI (136 - (d + 1)) = nI (136 * s + (136 - (d + 1))) := by rw [hV, L136, pk_mul, nI_add, Nat.mul_comm]
    rw [f_X9_record_51, if_neg (by rw [L136, nJ_le (by omega) (by omega)]; omega), rdb (n := 136 - (d + 1)) rfl (by omega) (by decide), st_e e (by omega) (by decide), n1, show 136 - (d + 1) + 1 = 136 - d by omega]
    obtain ⟨V', g1, g2, g3, g4, g5⟩ := ih n (u2 V 114 (136 * s + (136 - (d + 1))) (V 113 (136 - (d + 1)))) (by omega) (by omega) (by rw [u2_ne (by decide)]; exact hV)
    refine ⟨V', g1, fun c h1 h2 => by rw [g2 c h1 h2, u2_ne h2], fun j hj => by rw [g3 j hj, u2_ne (by decide)], g4, fun q => ?_⟩
    rw [g5 q, u2_ne (show (113 : Nat) ≠ 114 by decide), u2_at]
    by_cases h1 : 136 * s + (136 - d) ≤ q ∧ q < 136 * s + 136
    · have h2 : 136 * s + (136 - (d + 1)) ≤ q ∧ q < 136 * s + 136 := by omega
      rw [if_pos h1, if_pos h2]
    · rw [if_neg h1]
      by_cases h3 : q = 136 * s + (136 - (d + 1))
      · have h2 : 136 * s + (136 - (d + 1)) ≤ q ∧ q < 136 * s + 136 := by omega
        rw [if_pos h2, h3, pk_us, show 136 * s + (136 - (d + 1)) - 136 * s = 136 - (d + 1) by omega]
      · have h2 : ¬(136 * s + (136 - (d + 1)) ≤ q ∧ q < 136 * s + 136) := by omega
        rw [if_neg h2, pk_un h3]
theorem m_rec10 : ∀ (d n : Nat) (V : Wd), d ≤ 544 → d < n → ∃ V', f_X9_record_10 n V (nI (544 - d)) = f_X9_record_39 V' ∧ (∀ c, c ≠ 114 → V' c = V c) ∧ ∀ q, V' 114 q = if 544 - d ≤ q ∧ q < 544 then V 114 (q + 136) else V 114 q := by
  intro d
  induction d with
  | zero =>
    intro n V hd hn
    obtain ⟨n, rfl⟩ : ∃ k, n = k + 1 := ⟨n - 1, by omega⟩
    rw [f_X9_record_10, if_pos (by decide)]
    exact ⟨V, rfl, fun _ _ => rfl, fun q => by rw [if_neg (by omega)]⟩
  | succ d ih =>
    intro n V hd hn
    obtain ⟨n, rfl⟩ : ∃ k, n = k + 1 := ⟨n - 1, by omega⟩
    have e : nI (544 - (d + 1)) + 136 = nI (544 - (d + 1) + 136) := by rw [L136, nI_add]
    rw [f_X9_record_10, if_neg (by rw [show (544 : Int32) = nI 544 from rfl, nJ_le (by omega) (by omega)]; omega), rdb e (by omega) (by decide), st_n (by omega) (by decide), n1, show 544 - (d + 1) + 1 = 544 - d by omega]
    obtain ⟨V', g1, g2, g3⟩ := ih n (u2 V 114 (544 - (d + 1)) (V 114 (544 - (d + 1) + 136))) (by omega) (by omega)
    refine ⟨V', g1, fun c hc => by rw [g2 c hc, u2_ne hc], fun q => ?_⟩
    rw [g3 q, u2_at]
    by_cases h1 : 544 - d ≤ q ∧ q < 544
    · have h2 : 544 - (d + 1) ≤ q ∧ q < 544 := by omega
      rw [if_pos h1, if_pos h2, pk_un (by omega)]
    · rw [if_neg h1]
      by_cases h3 : q = 544 - (d + 1)
      · have h2 : 544 - (d + 1) ≤ q ∧ q < 544 := by omega
        rw [if_pos h2, h3, pk_us]
      · have h2 : ¬(544 - (d + 1) ≤ q ∧ q < 544) := by omega
        rw [if_neg h2, pk_un h3]
theorem Z136 : (0 : Int32) = nI (136 - 136) := rfl
theorem Z544 : (0 : Int32) = nI (544 - 544) := rfl
theorem FU_v : 545 ≤ FU_ := by unfold FU_; omega
theorem m_rec_4 {V1 : Wd} (h2 : V1 112 2 = nI 5) : ∃ V2, f_X9_record_39 V1 = some V2 ∧ (∀ c, c ≠ 112 → c ≠ 114 → V2 c = V1 c) ∧ (∀ j, j ≠ 2 → V2 112 j = V1 112 j) ∧ V2 112 2 = nI 5 ∧ ∀ q, V2 114 q = if 136 * 4 ≤ q ∧ q < 136 * 4 + 136 then V1 113 (q - 136 * 4) else V1 114 q := by
  have hv : u2 V1 112 2 (V1 112 2 - 1) 112 2 = nI 4 := by
    rw [u2_s, h2]
    exact ns1 4
  have hF := FU_v
  obtain ⟨V2, b1, b2, b3, b4, b5⟩ := m_rec51 (s := 4) (by omega) 136 FU_ (u2 V1 112 2 (V1 112 2 - 1)) (Nat.le_refl _) (by omega) hv
  unfold f_X9_record_39
  rw [lib_, Z136]
  refine ⟨V2, b1, fun c h1 h2 => by rw [b2 c h1 h2, u2_ne h1], fun j hj => by rw [b3 j hj, u2_n (Or.inr hj)], b4, fun q => ?_⟩
  rw [b5, u2_ne (by omega), u2_ne (by omega), Nat.sub_self, Nat.add_zero]
theorem m_rec_s {V : Wd} {s : Nat} (hs : s < 5) (h2 : V 112 2 = nI s) : ∃ V2, f_X9_record_51 FU_ V 0 = some V2 ∧ (∀ c, c ≠ 112 → c ≠ 114 → V2 c = V c) ∧ (∀ j, j ≠ 2 → V2 112 j = V 112 j) ∧ V2 112 2 = nI (s + 1) ∧ ∀ q, V2 114 q = if 136 * s ≤ q ∧ q < 136 * s + 136 then V 113 (q - 136 * s) else V 114 q := by
  have hF := FU_v
  obtain ⟨V2, b1, b2, b3, b4, b5⟩ := m_rec51 hs 136 FU_ V (Nat.le_refl _) (by omega) h2
  rw [Z136]
  refine ⟨V2, b1, b2, b3, b4, fun q => ?_⟩
  rw [b5, Nat.sub_self, Nat.add_zero]
theorem m_rec_0 (V : Wd) : ∃ V', f_X9_record_10 FU_ V 0 = f_X9_record_39 V' ∧ (∀ c, c ≠ 114 → V' c = V c) ∧ ∀ q, V' 114 q = if q < 544 then V 114 (q + 136) else V 114 q := by
  have hF := FU_v
  obtain ⟨V1, a1, a2, a3⟩ := m_rec10 544 FU_ V (Nat.le_refl _) (by omega)
  rw [Z544]
  refine ⟨V1, a1, a2, fun q => ?_⟩
  rw [a3, Nat.sub_self]
  by_cases h : q < 544
  · rw [if_pos h, if_pos ⟨Nat.zero_le _, h⟩]
  · rw [if_neg h, if_neg (fun x => h x.2)]
theorem m_record {V : Wd} {s : Nat} (hs : s ≤ 5) (h2 : V 112 2 = nI s) : ∃ V', f_X9_record V = some V' ∧ MRec V V' s (V 113) := by
  unfold f_X9_record
  rw [h2]
  by_cases q5 : s = 5
  · subst q5
    rw [if_pos (show nI 5 = 5 from rfl)]
    obtain ⟨V1, a1, a2, a3⟩ := m_rec_0 V
    obtain ⟨V2, b1, b2, b3, b4, b5⟩ := m_rec_4 (V1 := V1) (by rw [a2 112 (by omega)]; exact h2)
    rw [a1]
    refine ⟨V2, b1, fun c h1 h2 => by rw [b2 c h1 h2, a2 c h2], fun j hj => by rw [b3 j hj, a2 112 (by omega)], by rw [b4, if_pos rfl], fun i j hi hj => ?_⟩
    rw [b5, a2 113 (by omega), a3, if_pos rfl, if_pos rfl]
    by_cases q : i = 4
    · subst q
      rw [if_pos ⟨by omega, by omega⟩, if_pos rfl, show 136 * 4 + j - 136 * 4 = j by omega]
    · rw [if_neg (by omega), if_neg q, if_pos (by omega), show 136 * i + j + 136 = 136 * (i + 1) + j by omega]
  · rw [if_neg (by rw [L5, nJ_eq (by omega) (by omega)]; exact q5)]
    obtain ⟨V2, b1, b2, b3, b4, b5⟩ := m_rec_s (s := s) (by omega) h2
    refine ⟨V2, b1, b2, b3, by rw [b4, if_neg q5], fun i j hi hj => ?_⟩
    rw [b5, if_neg q5, if_neg q5]
    by_cases q : i = s
    · subst q
      rw [if_pos ⟨by omega, by omega⟩, if_pos rfl, show 136 * i + j - 136 * i = j by omega]
    · rw [if_neg (by omega), if_neg q]
theorem m_down {V : Wd} {s : Nat} (hs : s ≤ 5) (h2 : V 112 2 = nI s) : ∃ V0 V', f_X9_recordAndDown V = some V' ∧ MRec V V0 s (V 113) ∧ V' = u2 V0 113 4 0 := by
  obtain ⟨V1, g1, g2⟩ := m_record hs h2
  unfold f_X9_recordAndDown
  rw [g1, obs, zs4]
  exact ⟨V1, _, rfl, g2, rfl⟩
-- rows that agree on the 136 places
theorem cnA_zc {z z' : Nat → Int32} (hz : SZ z) (hS : ∀ h, h < 5 → zS z' h = zS z h) (hG : ∀ h p, h < 5 → p < sn z h → zG z' h p = zG z h p) (x : Int32) : ∀ n, n ≤ 5 → cnA z' x n = cnA z x n
  | 0, _ => rfl
  | n + 1, hn => by
    have h1 := hS n (by omega)
    rw [cnA, cnA, cnA_zc hz hS hG x n (by omega), h1]
    congr 1
    exact cw_congr (fun p hp => by rw [hG n p (by omega) hp])
theorem RS_zc {V : Wd} {k : Nat} {z z' : Nat → Int32} (h : ∀ j, j < 136 → z' j = z j) (hR : RS V k z) : RS V k z' := by
  obtain ⟨⟨h0, h1, h2, h3, h4⟩, hF, hH, hB, hL⟩ := hR
  have eS : ∀ m, m < 5 → zS z' m = zS z m := fun m hm => h _ (by omega)
  refine ⟨⟨by rw [h 0 (by omega)]; exact h0, by rw [h 1 (by omega)]; exact h1, by rw [h 2 (by omega)]; exact h2, by rw [h 3 (by omega)]; exact h3, by rw [h 4 (by omega)]; exact h4⟩, fun f hf => ?_, fun m hm => ?_, ⟨?_, fun e he hq => ?_⟩, ⟨?_, ?_, fun m hm hq => ?_⟩⟩
  · rw [h _ (by omega), h _ (by omega), h _ (by omega)]; exact hF f hf
  · rw [eS m hm]
    refine ⟨(hH m hm).1, fun p hp hq => ?_⟩
    rw [show zG z' m p = zG z m p from h _ (by omega)]
    exact (hH m hm).2 p hp hq
  · rw [h 5 (by omega)]; exact hB.1
  · rw [h 5 (by omega)] at hq
    rw [h _ (by omega), h _ (by omega)]
    exact hB.2 e he hq
  · rw [h 6 (by omega)]; exact hL.1
  · rw [h 7 (by omega)]; exact hL.2.1
  · rw [h 6 (by omega)] at hq
    rw [h _ (by omega)]
    refine ⟨(hL.2.2 m hm hq).1, fun i hi hqi => ?_⟩
    rw [h _ (by omega)]
    exact (hL.2.2 m hm hq).2 i hi hqi
theorem VZ_of {z z' : Nat → Int32} (hv : VZ z) (h34 : z' 3 = z 3 ∧ z' 4 = z 4) (h0 : z' 0 = z 0) (h5 : ∀ j, 5 ≤ j → j < 136 → z' j = z j) : VZ z' := by
  have hsz := hv.vr.sz
  have eS : ∀ m, m < 5 → zS z' m = zS z m := fun m hm => h5 _ (by omega) (by omega)
  obtain ⟨a, ⟨b, b2⟩, ⟨n, c1, c2, c3⟩, ⟨k, d1, d2, d3⟩, e, f⟩ := hv
  refine ⟨by rw [h34.1]; exact a, ⟨by rw [h34.2]; exact b, fun hq => ?_⟩, ⟨n, c1, by rw [h5 5 (by omega) (by omega)]; exact c2, fun e he => ?_⟩, ⟨k, d1, by rw [h5 6 (by omega) (by omega)]; exact d2, fun m hm => ?_⟩, fun m hm => ?_, fun x hx => ?_⟩
  · rw [h34.2] at hq
    obtain ⟨m, hm, e⟩ := b2 hq
    exact ⟨m, hm, by rw [eS m hm]; exact e⟩
  · rw [h5 _ (by omega) (by omega), h5 _ (by omega) (by omega)]; exact c3 e he
  · rw [h5 _ (by omega) (by omega)]; exact d3 m hm
  · obtain ⟨n, g1, g2, g3⟩ := e m hm
    refine ⟨n, g1, by rw [eS m hm]; exact g2, fun p hp => ?_⟩
    rw [show zG z' m p = zG z m p from h5 _ (by omega) (by omega)]
    exact g3 p hp
  · rw [cnA_zc hsz eS (fun m p hm hp => h5 _ (by omega) (by have := (hsz m hm).2; omega)) _ 5 (by decide), h0]
    exact f x hx
theorem VZ_zc {z z' : Nat → Int32} (h : ∀ j, j < 136 → z' j = z j) (hv : VZ z) : VZ z' := VZ_of hv ⟨h 3 (by omega), h 4 (by omega)⟩ (h 0 (by omega)) (fun j _ hj => h j hj)
/-- what the two histories of V have in common -/
def HX (V : Wd) (s nx : Nat) : Prop := s ≤ 5 ∧ nx < 5 ∧ V 29 2 = nI s ∧ V 112 2 = nI s ∧ V 29 1 = nI nx ∧ ∀ i, i < s → RS V (31 + 14 * ((nx + 5 - s + i) % 5)) (fun j => V 114 (136 * i + j)) ∧ VZ (fun j => V 114 (136 * i + j))
/-- both have recorded -/
theorem HI_rec {V V1 V2 V3 W : Wd} {s nx : Nat} {z : Nat → Int32} (hx : HX V s nx) (hc : CRec V V1 s nx z) (he : ∀ c, 28 < c → c < 101 → V2 c = V1 c) (h4 : V2 114 = V 114) (h2 : V2 112 2 = V 112 2) (hm : MRec V2 W s z) (hf : (∀ c, 28 < c → c < 101 → V3 c = W c) ∧ V3 114 = W 114 ∧ V3 112 2 = W 112 2) (hz : VZ z) : HI V3 := by
  obtain ⟨hs, hn, e1, e2, e3, hh⟩ := hx
  obtain ⟨c1, c2, c3, c4, c5⟩ := hc
  obtain ⟨m1, m2, m3, m4⟩ := hm
  obtain ⟨f1, f2, f3⟩ := hf
  have hcell : ∀ c, 28 < c → c < 101 → V3 c = V1 c := fun c h1 h2 => by rw [f1 c h1 h2, m1 c (by omega) (by omega), he c h1 h2]
  refine ⟨if s = 5 then 5 else s + 1, (nx + 1) % 5, by split <;> omega, by omega, by rw [hcell 29 (by omega) (by omega)]; exact c3, by rw [f3]; exact m3, by rw [hcell 29 (by omega) (by omega)]; exact c2, fun i hi => ?_⟩
  have hi5 : i < 5 := by split at hi <;> omega
  by_cases q : i = (if s = 5 then 4 else s)
  · have ez : ∀ j, j < 136 → (fun j => V3 114 (136 * i + j)) j = z j := fun j hj => by
      show V3 114 (136 * i + j) = z j
      rw [f2, m4 i j hi5 hj, if_pos q]
    have en : ((nx + 1) % 5 + 5 - (if s = 5 then 5 else s + 1) + i) % 5 = nx := by
      by_cases q5 : s = 5
      · rw [if_pos q5] at q ⊢; omega
      · rw [if_neg q5] at q ⊢; omega
    rw [en]
    exact ⟨RS_zc ez (RS_frame (fun c h1 h2 => hcell c (by omega) (by omega)) c4), VZ_zc ez hz⟩
  · obtain ⟨i0, hi0, hie⟩ : ∃ i0, i0 < s ∧ (if s = 5 then i + 1 else i) = i0 := ⟨_, by by_cases q5 : s = 5 <;> simp only [q5, if_pos, if_neg, if_true, if_false, reduceIte] at * <;> omega, rfl⟩
    have ez : ∀ j, j < 136 → (fun j => V3 114 (136 * i + j)) j = (fun j => V 114 (136 * i0 + j)) j := fun j hj => by
      show V3 114 (136 * i + j) = V 114 (136 * i0 + j)
      rw [f2, m4 i j hi5 hj, if_neg q, h4, ← hie]
      by_cases q5 : s = 5
      · rw [if_pos q5, if_pos q5]
      · rw [if_neg q5, if_neg q5]
    have en : ((nx + 1) % 5 + 5 - (if s = 5 then 5 else s + 1) + i) % 5 = (nx + 5 - s + i0) % 5 ∧ (nx + 5 - s + i0) % 5 ≠ nx := by
      by_cases q5 : s = 5
      · rw [if_pos q5] at q hie ⊢; omega
      · rw [if_neg q5] at q hie ⊢; omega
    rw [en.1]
    obtain ⟨r1, r2⟩ := hh i0 hi0
    exact ⟨RS_zc ez (RS_frame (fun c h1 h2 => by rw [hcell c (by omega) (by omega), c5 _ (Nat.mod_lt _ (by decide)) en.2 c h1 h2]) r1), VZ_zc ez r2⟩

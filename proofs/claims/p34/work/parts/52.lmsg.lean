/-! Pure: the law's hoists, messages, counts, exchange. -/
theorem sn0 {z : Nat → Int32} (hv : VR z) {h : Nat} (hh : h < 5) : zS z h ≤ 0 ↔ sn z h = 0 := by
  obtain ⟨e1, h4, -⟩ := hv.sn hh
  rw [e1, L0, nJ_le (by omega) (by omega)]
  omega
/-- a hoist is up: its top sign is none of the law's -1 -/
theorem top_lt {V : Wd} {z : Nat → Int32} (hR : RR V z) {h : Nat} (hh : h < 5) : V 119 (4 * h) < 0 ↔ sn z h = 0 := by
  obtain ⟨e1, h4, hs⟩ := hR.1.sn hh
  have e := hR.2.2.2.1 h 0 hh (by omega)
  rw [Nat.add_zero] at e
  rw [e]
  by_cases q : sn z h = 0
  · rw [if_neg (by omega)]
    exact ⟨fun _ => q, fun _ => by decide⟩
  · rw [if_pos (by omega)]
    obtain ⟨k, hk, ek⟩ := SG_nI (hs 0 (by omega))
    rw [ek]
    exact ⟨fun h => absurd h (nI_pos (by omega)), fun h => absurd h q⟩
theorem l_hoists_l {V : Wd} {z : Nat → Int32} (hR : RR V z) : ∀ (d n : Nat), d ≤ 5 → d < n → f_L_hoists_4 V n (nI (hc_ z (5 - d))) (nI (5 - d)) = some (nI (hc_ z 5)) := by
  intro d
  induction d with
  | zero =>
    intro n hd hn
    obtain ⟨n, rfl⟩ : ∃ k, n = k + 1 := ⟨n - 1, by omega⟩
    rw [f_L_hoists_4, if_pos (by decide)]
  | succ d ih =>
    intro n hd hn
    obtain ⟨n, rfl⟩ : ∃ k, n = k + 1 := ⟨n - 1, by omega⟩
    obtain ⟨h, hh⟩ : ∃ h, h = 5 - (d + 1) := ⟨_, rfl⟩
    have h3 := ih n (by omega) (by omega)
    rw [show 5 - d = h + 1 by omega, hc_] at h3
    rw [f_L_hoists_4, ← hh, if_neg (by rw [L5, nJ_le (by omega) (by omega)]; omega), rdb (n := 4 * h) (i40 h) (by omega) (by omega), n1 h]
    have ht := top_lt hR (h := h) (by omega)
    have h0 := sn0 hR.1 (h := h) (by omega)
    by_cases q : sn z h = 0
    · rw [if_pos (h0.mpr q)] at h3
      rw [if_pos (ht.mpr q), lib_, add0]
      exact h3
    · rw [if_neg (fun x => q (h0.mp x))] at h3
      rw [if_neg (fun x => q (ht.mp x)), lib_, n1]
      exact h3
theorem l_hoists {V : Wd} {z : Nat → Int32} (hR : RR V z) : f_L_hoists V = some (nI (hc_ z 5)) := by
  have hF := FU_v
  exact l_hoists_l hR 5 FU_ (by omega) (by omega)
theorem RW_neg {z : Nat → Int32} (hv : VR z) (first str : Int32) (h : Nat) : (RW z first str h = -6 ∧ RW z first str h < 0) ∨ (RW z first str h ≠ -6 ∧ ¬ RW z first str h < 0) := by
  unfold RW
  cases rc (T_ z first str h) (sn z h) with
  | none => exact Or.inl ⟨rfl, by show (-6 : Int32) < 0; decide⟩
  | some c =>
    rcases wz_cases hv c with e | ⟨w, hw, e⟩
    · exact Or.inl ⟨e, by show wz z c < 0; rw [e]; decide⟩
    · exact Or.inr ⟨by show wz z c ≠ -6; rw [e]; exact nI_ne6 (by omega), by show ¬ wz z c < 0; rw [e]; exact nI_pos (by omega)⟩
theorem l_known_l {V : Wd} {z : Nat → Int32} (hR : RR V z) {s : Nat} (hs : s < 2) : ∀ (d n a : Nat), d ≤ 5 → d < n → a + d < 1000 → f_L_known_6 V (nI s) n (nI a) (nI (5 - d)) = some (nI (a + kn (sfx (WM z (nI s)) d))) := by
  intro d
  induction d with
  | zero =>
    intro n a hd hn ha
    obtain ⟨n, rfl⟩ : ∃ k, n = k + 1 := ⟨n - 1, by omega⟩
    rw [f_L_known_6, if_pos (by decide)]
    rfl
  | succ d ih =>
    intro n a hd hn ha
    obtain ⟨n, rfl⟩ : ∃ k, n = k + 1 := ⟨n - 1, by omega⟩
    obtain ⟨h, hh⟩ : ∃ h, h = 5 - (d + 1) := ⟨_, rfl⟩
    have ht := top_lt hR (h := h) (by omega)
    rw [f_L_known_6, sfx, ← hh, if_neg (by rw [L5, nJ_le (by omega) (by omega)]; omega), rdb (n := 4 * h) (i40 h) (by omega) (by omega), n1 h, show h + 1 = 5 - d by omega]
    by_cases q : sn z h = 0
    · have e7 : WM z (nI s) h = -7 := by unfold WM WR; rw [if_pos q]
      rw [if_pos (ht.mpr q), lib_, add0, if_pos e7]
      exact ih n a (by omega) (by omega) (by omega)
    · have eW : WM z (nI s) h = RW z (fst_ z (nI s)) (z 1) h := by unfold WM WR; rw [if_neg q]
      have e7 : WM z (nI s) h ≠ -7 := by rw [eW]; exact RW_ne hR.1 _ _ _
      rw [if_neg (fun x => q (ht.mp x)), l_word hR hs (by omega), obs, if_neg e7, kn, eW]
      rcases RW_neg hR.1 (fst_ z (nI s)) (z 1) h with ⟨g1, g2⟩ | ⟨g1, g2⟩
      · rw [if_pos g2, if_pos g1, lib_, add0]
        exact ih n a (by omega) (by omega) (by omega)
      · rw [if_neg g2, if_neg g1, lib_, n1, show a + (kn (sfx (WM z (nI s)) d) + 1) = (a + 1) + kn (sfx (WM z (nI s)) d) by omega]
        exact ih n (a + 1) (by omega) (by omega) (by omega)
theorem l_known {V : Wd} {z : Nat → Int32} (hR : RR V z) {s : Nat} (hs : s < 2) : f_L_known V (nI s) = some (nI (kn (ML (WM z (nI s)) (nI s)))) := by
  have hF := FU_v
  have h1 := l_known_l hR hs 5 FU_ 0 (by omega) (by omega) (by omega)
  rw [Nat.zero_add] at h1
  rw [ML_kn]
  exact h1
theorem l_hoistsL {V : Wd} {z : Nat → Int32} (hR : RR V z) (side : Int32) : f_L_hoists V = some (nI (ML (WM z side) side).length) := by
  rw [l_hoists hR, ML_len]
  exact congrArg (fun n => some (nI n)) (hc_len hR.1 _ _).symm
theorem l_nth_l {V : Wd} {z : Nat → Int32} (hR : RR V z) {s : Nat} (hs : s < 2) (x2 : Int32) : ∀ (d n i : Nat), d ≤ 5 → d < n → i < (sfx (fun k => WM z (nI s) (sd (nI s) k)) d).length → ∃ h, h < 5 ∧ f_L_nth_5 V (nI s) x2 n (nI i) (nI (5 - d)) = some (nI h) ∧ RW z (fst_ z (nI s)) (z 1) h = (sfx (fun k => WM z (nI s) (sd (nI s) k)) d).getD i (-6) := by
  intro d
  induction d with
  | zero => intro n i hd hn hi; exact absurd hi (Nat.not_lt_zero _)
  | succ d ih =>
    intro n i hd hn hi
    obtain ⟨n, rfl⟩ : ∃ k, n = k + 1 := ⟨n - 1, by omega⟩
    obtain ⟨k, hk⟩ : ∃ k, k = 5 - (d + 1) := ⟨_, rfl⟩
    obtain ⟨h, hh⟩ : ∃ h, h = sd (nI s) k := ⟨_, rfl⟩
    have h5 : h < 5 := by rw [hh]; exact sd_lt _ (by omega)
    have ht := top_lt hR h5
    have hl5 : (sfx (fun k => WM z (nI s) (sd (nI s) k)) (d + 1)).length ≤ 5 := Nat.le_trans (sfx_len _ _) (by omega)
    have go : f_L_nth_5 V (nI s) x2 (n + 1) (nI i) (nI k) = f_L_nth_24 V (nI s) x2 (fun a3 a4 => f_L_nth_5 V (nI s) x2 n a3 a4) (nI i) (nI k) (nI h) := by
      rw [f_L_nth_5, if_neg (by rw [L5, nJ_le (by omega) (by omega)]; omega), hh]
      unfold sd
      rcases (show s = 0 ∨ s = 1 by omega) with rfl | rfl
      · rw [if_pos (show nI 0 = 0 from rfl), if_pos (show nI 0 = 0 from rfl)]
      · rw [if_neg (show ¬ nI 1 = 0 by decide), if_neg (show ¬ nI 1 = 0 by decide), L4, pk_sub (by omega)]
    rw [sfx, ← hk] at hi ⊢
    rw [← hh] at hi ⊢
    rw [go]
    unfold f_L_nth_24
    rw [rdb (n := 4 * h) (i40 h) (by omega) (by omega), n1 k, show k + 1 = 5 - d by omega]
    by_cases q : sn z h = 0
    · have e7 : WM z (nI s) h = -7 := by unfold WM WR; rw [if_pos q]
      rw [if_pos e7] at hi ⊢
      have hl := sfx_len (fun k => WM z (nI s) (sd (nI s) k)) d
      rw [if_pos (ht.mpr q), lib_, show nI i - 0 = nI i by rw [L0, pk_sub (Nat.zero_le _), Nat.sub_zero], if_pos (nI_pos' (by omega))]
      exact ih n i (by omega) (by omega) hi
    · have eW : WM z (nI s) h = RW z (fst_ z (nI s)) (z 1) h := by unfold WM WR; rw [if_neg q]
      have e7 : WM z (nI s) h ≠ -7 := by rw [eW]; exact RW_ne hR.1 _ _ _
      rw [if_neg e7] at hi ⊢
      have hl := sfx_len (fun k => WM z (nI s) (sd (nI s) k)) d
      rw [List.length_cons] at hi
      rw [if_neg (fun x => q (ht.mp x)), lib_]
      cases i with
      | zero =>
        rw [if_neg (by decide)]
        exact ⟨h, h5, rfl, eW.symm⟩
      | succ i =>
        rw [ns1, if_pos (nI_pos' (by omega))]
        obtain ⟨h', g1, g2, g3⟩ := ih n i (by omega) (by omega) (by omega)
        exact ⟨h', g1, g2, by rw [g3]; rfl⟩
/-- the law's i-th word of a side -/
theorem l_nth {V : Wd} {z : Nat → Int32} (hR : RR V z) {s i : Nat} (hs : s < 2) (hi : i < (ML (WM z (nI s)) (nI s)).length) : ∃ h, h < 5 ∧ f_L_nth V (nI s) (nI i) = some (nI h) ∧ f_L_word V (nI s) (nI h) = some ((ML (WM z (nI s)) (nI s)).getD i (-6)) := by
  have hF := FU_v
  obtain ⟨h, h1, h2, h3⟩ := l_nth_l hR hs (nI i) 5 FU_ i (by omega) (by omega) hi
  refine ⟨h, h1, h2, ?_⟩
  rw [l_word hR hs h1, h3]
  rfl
theorem EQ_list {l0 l1 : List Int32} (hl : l0.length = l1.length) (h : EQ_ l0 l1 0) : l0 = l1 := by
  apply List.ext_getElem? 
  intro i
  by_cases q : i < l0.length
  · have h1 := h i (Nat.zero_le _) q
    rw [List.getD_eq_getElem?_getD, List.getD_eq_getElem?_getD, List.getElem?_eq_getElem q, List.getElem?_eq_getElem (by omega)] at h1
    rw [List.getElem?_eq_getElem q, List.getElem?_eq_getElem (by omega)]
    exact congrArg some h1
  · rw [List.getElem?_eq_none (by omega), List.getElem?_eq_none (by omega)]
theorem l_same_0 (V : Wd) (n : Nat) (x4 x6 : Int32) : f_L_same_47 V (n + 1) x4 0 x6 = some 0 := by
  rw [f_L_same_47, if_pos (Or.inl rfl : isB (0 : Int32)), if_pos t00]
  split <;> rfl
theorem l_same_l {V : Wd} {z : Nat → Int32} (hR : RR V z) {L0 L1 : List Int32} (h0 : ML (WM z 0) 0 = L0) (h1 : ML (WM z 1) 1 = L1) (hl : L0.length = L1.length) : ∀ (d n : Nat), d ≤ L0.length → d + 1 < n → (EQ_ L0 L1 (L0.length - d) ∧ f_L_same_47 V n (nI L0.length) 1 (nI (L0.length - d)) = some 1) ∨ (¬ EQ_ L0 L1 (L0.length - d) ∧ f_L_same_47 V n (nI L0.length) 1 (nI (L0.length - d)) = some 0) := by
  have hl5 : L0.length ≤ 5 := by rw [← h0]; exact ML_len5 _ _
  intro d
  induction d with
  | zero =>
    intro n hd hn
    obtain ⟨n, rfl⟩ : ∃ k, n = k + 1 := ⟨n - 1, by omega⟩
    refine Or.inl ⟨fun j h1 h2 => absurd h2 (by omega), ?_⟩
    rw [f_L_same_47, if_pos (by rw [nJ_le (by omega) (by omega)]; omega), if_pos (Or.inr rfl : isB (1 : Int32))]
  | succ d ih =>
    intro n hd hn
    obtain ⟨n, rfl⟩ : ∃ k, n = k + 1 := ⟨n - 1, by omega⟩
    obtain ⟨n, rfl⟩ : ∃ k, n = k + 1 := ⟨n - 1, by omega⟩
    obtain ⟨i, hi⟩ : ∃ i, i = L0.length - (d + 1) := ⟨_, rfl⟩
    obtain ⟨a, ha, a1, a2⟩ := l_nth hR (s := 0) (i := i) (by omega) (show i < (ML (WM z 0) 0).length by rw [h0]; omega)
    obtain ⟨b, hb, b1, b2⟩ := l_nth hR (s := 1) (i := i) (by omega) (show i < (ML (WM z 1) 1).length by rw [h1]; omega)
    rw [show ML (WM z (nI 0)) (nI 0) = L0 from h0] at a2
    rw [show ML (WM z (nI 1)) (nI 1) = L1 from h1] at b2
    rw [← hi, f_L_same_47, if_neg (by rw [nJ_le (by omega) (by omega)]; omega), if_neg t10, show f_L_nth V 0 (nI i) = some (nI a) from a1, obs, show f_L_word V 0 (nI a) = some (L0.getD i (-6)) from a2, obs, show f_L_nth V 1 (nI i) = some (nI b) from b1, obs, show f_L_word V 1 (nI b) = some (L1.getD i (-6)) from b2, obs, n1]
    rw [show L0.length - d = i + 1 by omega] at ih
    by_cases q : L0.getD i (-6) = L1.getD i (-6)
    · rw [if_pos q]
      rcases ih (n + 1) (by omega) (by omega) with ⟨g1, g2⟩ | ⟨g1, g2⟩
      · refine Or.inl ⟨fun j h1 h2 => ?_, g2⟩
        by_cases e : j = i
        · rw [e]; exact q
        · exact g1 j (by omega) h2
      · exact Or.inr ⟨fun hx => g1 (fun j h1 h2 => hx j (by omega) h2), g2⟩
    · rw [if_neg q]
      exact Or.inr ⟨fun hx => q (hx i (Nat.le_refl _) (by omega)), l_same_0 V n _ _⟩
theorem l_same {V : Wd} {z : Nat → Int32} (hR : RR V z) : f_L_same V = some (ag (ML (WM z 0) 0) (ML (WM z 1) 1)) := by
  have hF := FU_v
  obtain ⟨n, hn⟩ : ∃ n, FU_ = n + 1 := ⟨FU_ - 1, by omega⟩
  have k0 := l_known hR (s := 0) (by omega)
  have k1 := l_known hR (s := 1) (by omega)
  obtain ⟨L0, h0⟩ : ∃ L, ML (WM z 0) 0 = L := ⟨_, rfl⟩
  obtain ⟨L1, h1⟩ : ∃ L, ML (WM z 1) 1 = L := ⟨_, rfl⟩
  have hl : L0.length = L1.length := by
    rw [← h0, ← h1, ML_len, ML_len]
    exact (hc_len hR.1 _ _).trans (hc_len hR.1 _ _).symm
  have hl5 : L0.length ≤ 5 := by rw [← h0]; exact ML_len5 _ _
  rw [show ML (WM z (nI 0)) (nI 0) = L0 from h0] at k0
  rw [show ML (WM z (nI 1)) (nI 1) = L1 from h1] at k1
  have e0 := kn_le L0
  have e1 := kn_le L1
  unfold f_L_same
  rw [l_hoistsL hR 0, h0, h1, obs]
  have hz : ∀ x4 x6 : Int32, f_L_same_47 V FU_ x4 0 x6 = some 0 := fun x4 x6 => by rw [hn]; exact l_same_0 V n x4 x6
  by_cases q0 : L0.length = 0
  · rw [if_pos (by rw [q0]; decide), hz]
    unfold ag
    rw [if_neg (fun h => h.1.1 q0)]
  · rw [if_neg (by rw [show (0 : Int32) = nI 0 from rfl, nJ_le (by omega) (by omega)]; omega), show f_L_known V 0 = some (nI (kn L0)) from k0, obs]
    by_cases q1 : kn L0 = L0.length
    · rw [if_pos (by rw [q1]), show f_L_known V 1 = some (nI (kn L1)) from k1, obs]
      by_cases q2 : kn L1 = L0.length
      · rw [if_pos (by rw [q2])]
        have h3 := l_same_l hR h0 h1 hl L0.length FU_ (Nat.le_refl _) (by omega)
        rw [Nat.sub_self] at h3
        rcases h3 with ⟨g1, g2⟩ | ⟨g1, g2⟩
        · rw [show f_L_same_47 V FU_ (nI L0.length) 1 0 = some 1 from g2]
          unfold ag
          rw [if_pos ⟨⟨q0, q1⟩, EQ_list hl g1⟩]
        · rw [show f_L_same_47 V FU_ (nI L0.length) 1 0 = some 0 from g2]
          unfold ag
          rw [if_neg (fun h => g1 (fun j _ _ => by rw [h.2]))]
      · rw [if_neg (by rw [nJ_eq (by omega) (by omega)]; exact q2), hz]
        unfold ag
        rw [if_neg (fun h => q2 (by rw [← h.2]; exact q1))]
    · rw [if_neg (by rw [nJ_eq (by omega) (by omega)]; exact q1), hz]
      unfold ag
      rw [if_neg (fun h => q1 h.1.2)]
theorem cw_s (p : Nat → Prop) [DecidablePred p] (n : Nat) : cw p (n + 1) = cw p n + (if p n then 1 else 0) := by
  rw [cw]
  split <;> rfl

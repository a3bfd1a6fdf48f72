/-! Pure: copies of a State, the two histories. -/
theorem cp_at {V : Wd} {a b n j : Nat} (h : j < n) : cp2 V a b 0 0 n b j = V a j := by
  unfold cp2
  rw [uf_at, pk_cpy_in (by omega) (by omega), Nat.zero_add, Nat.sub_zero]
theorem cp_ne {V : Wd} {a b n c : Nat} (h : c ≠ b) : cp2 V a b 0 0 n c = V c := uf_ne h
theorem c_cp1 {k k1 : Nat} (hd : k + 3 < k1 ∨ k1 + 3 < k) (V : Wd) : ∃ V', f_X1_copyFrom k k1 V = some V' ∧ (∀ c, c ≤ k ∨ k + 3 < c → V' c = V c) ∧ ∀ z, FS V k1 z → FS V' k z := by
  unfold f_X1_copyFrom li_
  refine ⟨_, rfl, fun c hc => ?_, fun z h f hf => ?_⟩
  · rw [cp_ne (by omega), cp_ne (by omega), cp_ne (by omega)]
  · obtain ⟨h1, h2, h3⟩ := h f hf
    refine ⟨?_, ?_, ?_⟩
    · rw [cp_ne (by omega), cp_ne (by omega), cp_at hf]; exact h1
    · rw [cp_ne (by omega), cp_at hf, cp_ne (by omega)]; exact h2
    · rw [cp_at hf, cp_ne (by omega), cp_ne (by omega)]; exact h3
theorem c_cp3 {k k1 : Nat} (hd : k + 2 < k1 ∨ k1 + 2 < k) (V : Wd) : ∃ V', f_X3_copyFrom k k1 V = some V' ∧ (∀ c, c ≤ k ∨ k + 2 < c → V' c = V c) ∧ ∀ z, HS V k1 z → HS V' k z := by
  unfold f_X3_copyFrom li_
  refine ⟨_, rfl, fun c hc => ?_, fun z h f hf => ?_⟩
  · rw [cp_ne (by omega), cp_ne (by omega)]
  · obtain ⟨h1, h2⟩ := h f hf
    refine ⟨?_, fun p hp hq => ?_⟩
    · rw [cp_at hf, cp_ne (by omega)]; exact h1
    · rw [cp_ne (by omega), cp_at (by omega)]; exact h2 p hp hq
theorem c_cp0 {k k1 : Nat} (hd : k + 2 < k1 ∨ k1 + 2 < k) (V : Wd) : ∃ V', f_X0_copyFrom k k1 V = some V' ∧ (∀ c, c < k ∨ k + 2 < c → V' c = V c) ∧ ∀ z, BS V k1 z → BS V' k z := by
  unfold f_X0_copyFrom li_
  refine ⟨_, rfl, fun c hc => ?_, fun z h => ?_⟩
  · rw [u2_ne (by omega), cp_ne (by omega), cp_ne (by omega)]
  · obtain ⟨h1, h2⟩ := h
    refine ⟨?_, fun e he hq => ?_⟩
    · rw [u2_s, cp_ne (by omega), cp_ne (by omega)]; exact h1
    · have h3 := h2 e he hq
      refine ⟨?_, ?_⟩
      · rw [u2_ne (by omega), cp_ne (by omega), cp_at he]; exact h3.1
      · rw [u2_ne (by omega), cp_at he, cp_ne (by omega)]; exact h3.2
theorem c_cp4 {k k1 : Nat} (hd : k + 2 < k1 ∨ k1 + 2 < k) (V : Wd) : ∃ V', f_X4_copyFrom k k1 V = some V' ∧ (∀ c, c < k ∨ k + 2 < c → V' c = V c) ∧ ∀ z, LGS V k1 z → LGS V' k z := by
  unfold f_X4_copyFrom li_
  refine ⟨_, rfl, fun c hc => ?_, fun z h => ?_⟩
  · rw [u2_ne (by omega), u2_ne (by omega), cp_ne (by omega), cp_ne (by omega)]
  · obtain ⟨h1, h2, h3⟩ := h
    refine ⟨?_, ?_, fun m hm hq => ?_⟩
    · rw [u2_n (Or.inr (by decide)), u2_s, cp_ne (by omega), cp_ne (by omega)]; exact h1
    · rw [u2_s, u2_ne (by omega), cp_ne (by omega), cp_ne (by omega)]; exact h2
    · obtain ⟨h4, h5⟩ := h3 m hm hq
      refine ⟨?_, fun i hi hqi => ?_⟩
      · rw [u2_ne (by omega), u2_ne (by omega), cp_at hm, cp_ne (by omega)]; exact h4
      · rw [u2_ne (by omega), u2_ne (by omega), cp_ne (by omega), cp_at (by omega)]; exact h5 i hi hqi
theorem c_cp6 {k k1 : Nat} (hd : k + 14 ≤ k1 ∨ k1 + 14 ≤ k) (V : Wd) : ∃ V', f_X6_copyFrom k k1 V = some V' ∧ (∀ c, c < k ∨ k + 14 ≤ c → V' c = V c) ∧ ∀ z, RS V k1 z → RS V' k z := by
  obtain ⟨V1, a1, a2, a3⟩ := c_cp1 (k := k + 1) (k1 := k1 + 1) (by omega) V
  obtain ⟨V2, b1, b2, b3⟩ := c_cp3 (k := k + 5) (k1 := k1 + 5) (by omega) V1
  obtain ⟨V3, c1, c2, c3⟩ := c_cp0 (k := k + 8) (k1 := k1 + 8) (by omega) V2
  obtain ⟨V4, d1, d2, d3⟩ := c_cp4 (k := k + 11) (k1 := k1 + 11) (by omega) V3
  have ek : V4 k1 = V k1 := by rw [d2 k1 (by omega), c2 k1 (by omega), b2 k1 (by omega), a2 k1 (by omega)]
  have hk : k1 ≠ k := by omega
  unfold f_X6_copyFrom
  rw [a1, obs, b1, obs, c1, obs, d1, obs]
  unfold li_
  have hfr : ∀ c, c ≠ k → ∀ a b d e f : Int32, u2 (u2 (u2 (u2 (u2 V4 k 4 a) k 5 b) k 6 d) k 7 e) k 8 f c = V4 c := fun c hc a b d e f => by
    rw [u2_ne hc, u2_ne hc, u2_ne hc, u2_ne hc, u2_ne hc]
  refine ⟨_, rfl, fun c hc => ?_, fun z h => ?_⟩
  · rw [hfr c (by omega), d2 c (by omega), c2 c (by omega), b2 c (by omega), a2 c (by omega)]
  · obtain ⟨⟨h0, h1, h2, h3, h4⟩, hF, hH, hB, hL⟩ := h
    refine ⟨⟨?_, ?_, ?_, ?_, ?_⟩, ?_, ?_, ?_, ?_⟩
    · rw [u2_n (Or.inr (by decide)), u2_n (Or.inr (by decide)), u2_n (Or.inr (by decide)), u2_n (Or.inr (by decide)), u2_s, ek]; exact h0
    · rw [u2_n (Or.inr (by decide)), u2_n (Or.inr (by decide)), u2_n (Or.inr (by decide)), u2_s, u2_ne hk, ek]; exact h1
    · rw [u2_n (Or.inr (by decide)), u2_n (Or.inr (by decide)), u2_s, u2_ne hk, u2_ne hk, ek]; exact h2
    · rw [u2_n (Or.inr (by decide)), u2_s, u2_ne hk, u2_ne hk, u2_ne hk, ek]; exact h3
    · rw [u2_s, u2_ne hk, u2_ne hk, u2_ne hk, u2_ne hk, ek]; exact h4
    · refine FS_fr (V := V1) ?_ ?_ ?_ (a3 z hF) <;> rw [hfr _ (by omega), d2 _ (by omega), c2 _ (by omega), b2 _ (by omega)]
    · refine HS_fr (V := V2) ?_ ?_ (b3 z (HS_fr (a2 _ (by omega)) (a2 _ (by omega)) hH)) <;> rw [hfr _ (by omega), d2 _ (by omega), c2 _ (by omega)]
    · refine BS_fr (V := V3) ?_ ?_ ?_ (c3 z (BS_fr (V := V) ?_ ?_ ?_ hB)) <;> first | rw [hfr _ (by omega), d2 _ (by omega)] | rw [b2 _ (by omega), a2 _ (by omega)]
    · refine LGS_fr (V := V4) ?_ ?_ ?_ ?_ (d3 z (LGS_fr (V := V) ?_ ?_ ?_ ?_ hL)) <;> first | rw [hfr _ (by omega)] | rw [c2 _ (by omega), b2 _ (by omega), a2 _ (by omega)]
/-- the class's history after a record: the slot of nx holds z, the others stay -/
def CRec (V V1 : Wd) (s nx : Nat) (z : Nat → Int32) : Prop :=
  (∀ c, c < 29 ∨ c = 30 ∨ 100 < c → V1 c = V c) ∧ V1 29 1 = nI ((nx + 1) % 5) ∧ V1 29 2 = nI (if s = 5 then 5 else s + 1) ∧ RS V1 (31 + 14 * nx) z ∧ ∀ i, i < 5 → i ≠ nx → ∀ c, 31 + 14 * i ≤ c → c < 31 + 14 * i + 14 → V1 c = V c
theorem i5 {n : Nat} (h : n < 5) : nI n + 1 - (nI n + 1) / 5 * 5 = nI ((n + 1) % 5) := by
  rcases (show n = 0 ∨ n = 1 ∨ n = 2 ∨ n = 3 ∨ n = 4 by omega) with rfl | rfl | rfl | rfl | rfl <;> decide
theorem j5 {n : Nat} (h : n ≤ 5) : (if 5 < nI n + 1 then 5 else nI n + 1) = nI (if n = 5 then 5 else n + 1) := by
  rcases (show n = 0 ∨ n = 1 ∨ n = 2 ∨ n = 3 ∨ n = 4 ∨ n = 5 by omega) with rfl | rfl | rfl | rfl | rfl | rfl <;> decide
theorem c_slot (V : Wd) {n : Nat} (h : n < 5) : f_X2_slotAt V (nI n) = some (some (31 + 14 * n)) := by
  unfold f_X2_slotAt
  rw [bl_y (n := 5) (x := 5) rfl h (by decide), if_neg (by decide)]
  rcases (show n = 0 ∨ n = 1 ∨ n = 2 ∨ n = 3 ∨ n = 4 by omega) with rfl | rfl | rfl | rfl | rfl <;> rfl
theorem kd_slot {n : Nat} (h : n < 5) : kd (31 + 14 * n) = 1 := by
  rcases (show n = 0 ∨ n = 1 ∨ n = 2 ∨ n = 3 ∨ n = 4 by omega) with rfl | rfl | rfl | rfl | rfl <;> rfl
theorem c_record {V : Wd} {s nx : Nat} {z : Nat → Int32} (hs : s ≤ 5) (hn : nx < 5) (h2 : V 29 2 = nI s) (h1 : V 29 1 = nI nx) (hR : RS V 1 z) : ∃ V1, f_X2_record 1 V = some V1 ∧ CRec V V1 s nx z := by
  unfold f_X2_record
  rw [h1, c_slot V hn, obs]
  dsimp only
  rw [if_pos (kd_slot hn)]
  obtain ⟨V3, g1, g2, g3⟩ := c_cp6 (k := 31 + 14 * nx) (k1 := 1) (by omega) V
  rw [g1, obs]
  unfold li_
  have e29 : V3 29 = V 29 := g2 29 (by omega)
  refine ⟨_, rfl, fun c hc => ?_, ?_, ?_, RS_frame (V := V3) (fun c h1 h2 => ?_) (g3 z hR), fun i hi hne c hc1 hc2 => ?_⟩
  · by_cases q : c = 29
    · omega
    · rw [u2_ne q, u2_ne q, g2 c (by omega)]
  · rw [u2_n (Or.inr (by decide)), u2_s, e29, h1, i5 hn]
  · rw [u2_s, u2_n (Or.inr (by decide)), e29, h2, j5 hs]
  · rw [u2_ne (by omega), u2_ne (by omega)]
  · rw [u2_ne (by omega), u2_ne (by omega), g2 c (by omega)]
theorem c_down {V : Wd} {s nx : Nat} {z : Nat → Int32} (hs : s ≤ 5) (hn : nx < 5) (h2 : V 29 2 = nI s) (h1 : V 29 1 = nI nx) (hR : RS V 1 z) : ∃ V0 V1, f_X8_recordAndBringPennantDown V = some V1 ∧ CRec V V0 s nx z ∧ V1 = u2 V0 1 8 0 := by
  obtain ⟨V1, g1, g2⟩ := c_record hs hn h2 h1 hR
  unfold f_X8_recordAndBringPennantDown
  rw [g1, obs]
  exact ⟨V1, _, rfl, g2, rfl⟩
/-- the model's history after a record of the row z -/
def MRec (V V1 : Wd) (s : Nat) (z : Nat → Int32) : Prop :=
  (∀ c, c ≠ 112 → c ≠ 114 → V1 c = V c) ∧ (∀ j, j ≠ 2 → V1 112 j = V 112 j) ∧ V1 112 2 = nI (if s = 5 then 5 else s + 1) ∧ ∀ i j, i < 5 → j < 136 → V1 114 (136 * i + j) = if i = (if s = 5 then 4 else s) then z j else if s = 5 then V 114 (136 * (i + 1) + j) else V 114 (136 * i + j)

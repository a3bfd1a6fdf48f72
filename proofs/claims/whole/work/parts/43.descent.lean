/-! Pure: the model's errorPosition. -/
def T7 (V : Wd) (z : Nat → Int32) : Prop := ∀ j, j < 25 → V 117 j = z (38 + j)
def MS (V : Wd) (n : Nat) (ch : Nat → Nat) (d k : Nat) (z : Nat → Int32) : Prop := V 112 6 = nI n ∧ (∀ i, i < n → V 116 i = nI (ch i)) ∧ V 112 9 = nI (n - d) ∧ V 112 10 = -6 ∧ V 112 8 = kc k ∧ T7 V z
def FM (V V' : Wd) : Prop := (∀ c, c ≠ 112 → c ≠ 117 → V' c = V c) ∧ ∀ j, j ≠ 8 → j ≠ 9 → j ≠ 10 → V' 112 j = V 112 j
theorem FM.rf (V : Wd) : FM V V := ⟨fun _ _ _ => rfl, fun _ _ _ _ => rfl⟩
theorem FM.tr {V V1 V2 : Wd} (h : FM V V1) (g : FM V1 V2) : FM V V2 := ⟨fun c h1 h2 => (g.1 c h1 h2).trans (h.1 c h1 h2), fun j h1 h2 h3 => (g.2 j h1 h2 h3).trans (h.2 j h1 h2 h3)⟩
theorem FM_u {V : Wd} {j : Nat} (hj : j = 8 ∨ j = 9 ∨ j = 10) (x : Int32) : FM V (u2 V 112 j x) := ⟨fun c h1 _ => u2_ne h1, fun i h1 h2 h3 => u2_n (Or.inr (by omega))⟩
theorem m_letter {V : Wd} {n : Nat} {ch : Nat → Nat} {d k : Nat} {z : Nat → Int32} (hn : n ≤ 50) (hd : d ≤ n) (h : MS V n ch d k z) : f_X9_letter V = some (if d = 0 then -6 else nI (ch (n - d))) := by
  obtain ⟨a1, a2, a3, a4, a5, a6⟩ := h
  unfold f_X9_letter
  rw [a1, a3]
  by_cases q : d = 0
  · rw [if_pos (by rw [nJ_le (by omega) (by omega)]; omega), if_pos q]
  · rw [if_neg (by rw [nJ_le (by omega) (by omega)]; omega), rdb (n := n - d) rfl (by omega) (by omega), a2 _ (by omega), if_neg q]
theorem m_letter_some {V : Wd} {n p : Nat} (hn : n ≤ 50) (hp : p < 100) (h6 : V 112 6 = nI n) (h9 : V 112 9 = nI p) : ∃ x, f_X9_letter V = some x := by
  unfold f_X9_letter
  rw [h6, h9]
  by_cases q : n ≤ p
  · exact ⟨_, if_pos (by rw [nJ_le (by omega) (by omega)]; exact q)⟩
  · rw [if_neg (by rw [nJ_le (by omega) (by omega)]; exact q), rdb (n := p) rfl (by omega) (by omega)]
    exact ⟨_, rfl⟩
theorem m_want1 {V : Wd} {n : Nat} {ch : Nat → Nat} {d k : Nat} {z : Nat → Int32} (hd : d + 1 ≤ n) (h : MS V n ch (d + 1) k z) : ∃ V', f_X9_wants V 1 = some V' ∧ MS V' n ch d k z ∧ FM V V' := by
  obtain ⟨a1, a2, a3, a4, a5, a6⟩ := h
  unfold f_X9_wants
  rw [if_pos a4, if_neg t10, lib_, lib_, u2_n (Or.inr (by omega)), a3, n1, show n - (d + 1) + 1 = n - d by omega]
  refine ⟨_, rfl, ⟨?_, fun i hi => ?_, ?_, ?_, ?_, fun j hj => ?_⟩, FM.tr (FM_u (by omega) _) (FM_u (by omega) _)⟩
  · rw [u2_n (Or.inr (by omega)), u2_n (Or.inr (by omega))]; exact a1
  · rw [u2_ne (by omega), u2_ne (by omega)]; exact a2 i hi
  · rw [u2_s]
  · rw [u2_n (Or.inr (by omega)), u2_s]
  · rw [u2_n (Or.inr (by omega)), u2_n (Or.inr (by omega))]; exact a5
  · rw [u2_ne (by omega), u2_ne (by omega)]; exact a6 j hj
/-- a letter that is not wanted: the place of the first is kept -/
def ER (V V' : Wd) (n p : Nat) : Prop := V' 112 10 = nI p ∧ (∃ q, q < 100 ∧ V' 112 9 = nI q) ∧ V' 112 6 = nI n ∧ FM V V'
theorem m_want0 {V : Wd} {n : Nat} {ch : Nat → Nat} {d k : Nat} {z : Nat → Int32} (hn : n ≤ 50) (h : MS V n ch d k z) : ∃ V', f_X9_wants V 0 = some V' ∧ ER V V' n (n - d) := by
  obtain ⟨a1, a2, a3, a4, a5, a6⟩ := h
  unfold f_X9_wants
  rw [if_pos a4, if_pos t00, lib_, lib_, u2_n (Or.inr (by omega)), a3, n1]
  refine ⟨_, rfl, ?_, ⟨n - d + 1, by omega, by rw [u2_s]⟩, ?_, FM.tr (FM_u (by omega) _) (FM_u (by omega) _)⟩
  · rw [u2_n (Or.inr (by omega)), u2_s]
  · rw [u2_n (Or.inr (by omega)), u2_n (Or.inr (by omega))]; exact a1
theorem m_wantE {V : Wd} (h : ¬ V 112 10 = -6) (x : Int32) : f_X9_wants V x = some V := by
  unfold f_X9_wants
  rw [if_neg h]
theorem ER.ne {V V' : Wd} {n p : Nat} (hp : p < 100) (h : ER V V' n p) : ¬ V' 112 10 = -6 := by rw [h.1]; exact nI_ne6 (by omega)
theorem FU_s : ∃ m, FU_ = m + 1 ∧ 544 ≤ m := ⟨FU_ - 1, by have := FU_v; omega, by have := FU_v; omega⟩
theorem m_l49E {V : Wd} (h : ¬ V 112 10 = -6) (x : Int32) : f_X9_readHoist_49 FU_ V x = some V := by
  obtain ⟨m, hm, -⟩ := FU_s
  rw [hm, f_X9_readHoist_49, if_neg h]
def POST (m : Nat) (V6 : Wd) : Option (Int32 × Wd) :=
  if (V6 112 10) = (-6) then
      (if (V6 112 6) ≤ (V6 112 9) then
      (f_X9_errorPosition_71 (fun V1 a1 => f_X9_errorPosition_39 m V1 a1) V6)
    else
      (f_X9_errorPosition_72 (fun V1 a1 => f_X9_errorPosition_39 m V1 a1) V6 1))
    else
      (f_X9_errorPosition_71 (fun V1 a1 => f_X9_errorPosition_39 m V1 a1) V6)
theorem m_71 {m : Nat} (V : Wd) : f_X9_errorPosition_71 (fun V1 a1 => f_X9_errorPosition_39 (m + 1) V1 a1) V = some (V 112 10, V) := by
  unfold f_X9_errorPosition_71 f_X9_errorPosition_72
  rw [if_pos t00]
  show f_X9_errorPosition_39 (m + 1) V 0 = _
  rw [f_X9_errorPosition_39, if_pos t00]
theorem m_postE {m : Nat} {V : Wd} (h : ¬ V 112 10 = -6) : POST (m + 1) V = some (V 112 10, V) := by
  unfold POST
  rw [if_neg h, m_71]
theorem m_figure {V : Wd} {a b : Int32} {n : Nat} {ch : Nat → Nat} {d k : Nat} {z : Nat → Int32} (hn : n ≤ 50) (hd : d ≤ n) (h : MS V n ch d k z) (hc : ∀ i, i < n → 33 ≤ ch i ∧ ch i ≤ 126) {lo hi : Nat} (ea : a = nI lo) (eb : b = nI hi) (hlo : lo < 100) (hhi : hi < 100) : (∃ e V', d = e + 1 ∧ 48 + lo ≤ ch (n - d) ∧ ch (n - d) ≤ 48 + hi ∧ f_X9_figure V a b = some (nI (ch (n - d) - 48), V') ∧ MS V' n ch e k z ∧ FM V V') ∨ (∃ y V', (d = 0 ∨ ¬(48 + lo ≤ ch (n - d) ∧ ch (n - d) ≤ 48 + hi)) ∧ f_X9_figure V a b = some (y, V') ∧ ER V V' n (n - d)) := by
  unfold f_X9_figure
  rw [m_letter hn hd h, obs, lib_]
  rcases Nat.eq_zero_or_pos d with q | q
  · rw [if_pos q]
    obtain ⟨V', b1, b2⟩ := m_want0 hn h
    have hz : f_X9_in (-6 - 48) a b = 0 := in_no (Or.inl (by
      rw [I_lt, ea, nJ_tI (by omega), show (-6 - 48 : Int32).toInt = -54 from by decide]
      omega))
    rw [hz, b1, obs]
    exact Or.inr ⟨_, V', Or.inl q, rfl, b2⟩
  · rw [if_neg (by omega)]
    obtain ⟨c1, c2⟩ := hc (n - d) (by omega)
    have ec : (nI (ch (n - d)) - 48).toInt = (ch (n - d) : Int) - 48 := by rw [L48, nI_subI (by omega) (by omega)]; rfl
    by_cases qc : 48 + lo ≤ ch (n - d) ∧ ch (n - d) ≤ 48 + hi
    · obtain ⟨e, rfl⟩ : ∃ e, d = e + 1 := ⟨d - 1, by omega⟩
      obtain ⟨V', b1, b2, b3⟩ := m_want1 hd h
      rw [in_yes (by rw [I_le, ea, nJ_tI (by omega), ec]; omega) (by rw [I_le, eb, nJ_tI (by omega), ec]; omega), b1, obs]
      refine Or.inl ⟨e, V', rfl, qc.1, qc.2, ?_, b2, b3⟩
      rw [L48, pk_sub (by omega)]
    · obtain ⟨V', b1, b2⟩ := m_want0 hn h
      rw [in_no (by rw [I_lt, I_lt, ea, eb, nJ_tI (by omega), nJ_tI (by omega), ec]; omega), b1, obs]
      exact Or.inr ⟨_, V', Or.inr qc, rfl, b2⟩
theorem m_r90 {V : Wd} {n : Nat} {ch : Nat → Nat} {d k : Nat} {z : Nat → Int32} (hz : JH z) (hk : 1 ≤ k) (hk5 : k ≤ 5) (hs : sn z (k - 1) < 4) (h : MS V n ch d k z) (x : Int32) : ∃ V', f_X9_readSign_90 (nI (k - 1)) V x = some V' ∧ MS V' n ch d k (ad z (k - 1) x) ∧ FM V V' := by
  obtain ⟨a1, a2, a3, a4, a5, a6⟩ := h
  have e5 : (5 : Int32) * nI (k - 1) = nI (5 * (k - 1)) := by simp only [L5, pk_mul]
  have er : V 117 (5 * (k - 1)) = nI (sn z (k - 1)) := by rw [a6 _ (by omega)]; exact (hz _ (by omega)).1
  unfold f_X9_readSign_90
  rw [if_pos a4, e5, rdb (n := 5 * (k - 1)) rfl (by omega) (by omega), er, n1, st_n (by omega) (by omega), rdb (n := 5 * (k - 1)) rfl (by omega) (by omega), u2_s, nI_add, st_n (by omega) (by omega)]
  refine ⟨_, rfl, ⟨?_, fun i hi => ?_, ?_, ?_, ?_, fun j hj => ?_⟩, ⟨fun c h1 h2 => by rw [u2_ne h2, u2_ne h2], fun j h1 h2 h3 => by rw [u2_ne (by omega), u2_ne (by omega)]⟩⟩
  · rw [u2_ne (by omega), u2_ne (by omega)]; exact a1
  · rw [u2_ne (by omega), u2_ne (by omega)]; exact a2 i hi
  · rw [u2_ne (by omega), u2_ne (by omega)]; exact a3
  · rw [u2_ne (by omega), u2_ne (by omega)]; exact a4
  · rw [u2_ne (by omega), u2_ne (by omega)]; exact a5
  · rw [u2_at, u2_at]
    unfold ad
    by_cases q1 : j = 5 * (k - 1) + (sn z (k - 1) + 1)
    · rw [q1, pk_us, show 38 + (5 * (k - 1) + (sn z (k - 1) + 1)) = 39 + 5 * (k - 1) + sn z (k - 1) by omega, pk_us]
    · rw [pk_un q1, pk_un (show 38 + j ≠ 39 + 5 * (k - 1) + sn z (k - 1) by omega)]
      by_cases q2 : j = 5 * (k - 1)
      · rw [q2, pk_us, pk_us]
      · rw [pk_un q2, pk_un (by omega)]
        exact a6 j hj
theorem m_90E {V : Wd} (h : ¬ V 112 10 = -6) (x y : Int32) : f_X9_readSign_90 x V y = some V := by
  unfold f_X9_readSign_90
  rw [if_neg h]
theorem m_next {V : Wd} {n : Nat} {ch : Nat → Nat} {d k s : Nat} {z : Nat → Int32} (hn : n ≤ 50) (hd : d ≤ n) (h : MS V n ch d k z) (hc : ∀ i, i < n → 33 ≤ ch i ∧ ch i ≤ 126) (hs : s < 100) : f_X9_isSignNext V (nI s) = some (if d ≠ 0 ∧ ((48 ≤ ch (n - d) ∧ ch (n - d) ≤ 57) ∨ (ch (n - d) = 114 ∧ 1 ≤ s)) then 1 else 0) := by
  unfold f_X9_isSignNext
  rw [m_letter hn hd h, obs, obs]
  by_cases q : d = 0
  · have hq : ¬(d ≠ 0 ∧ ((48 ≤ ch (n - d) ∧ ch (n - d) ≤ 57) ∨ (ch (n - d) = 114 ∧ 1 ≤ s))) := fun h => h.1 q
    rw [if_pos q, show f_X9_in (-6) 48 57 = 0 from by decide, if00, if_neg (show ¬ (-6 : Int32) = 114 by decide), if_neg hq]
  · rw [if_neg q]
    obtain ⟨c1, c2⟩ := hc (n - d) (by omega)
    by_cases q1 : 48 ≤ ch (n - d) ∧ ch (n - d) ≤ 57
    · rw [in_yes (by rw [L48, nJ_le (by omega) (by omega)]; exact q1.1) (by rw [show (57 : Int32) = nI 57 from rfl, nJ_le (by omega) (by omega)]; exact q1.2), if10, if_pos ⟨q, Or.inl q1⟩]
    · rw [in_no (by rw [L48, show (57 : Int32) = nI 57 from rfl, nJ_lt (by omega) (by omega), nJ_lt (by omega) (by omega)]; omega), if00]
      by_cases q2 : ch (n - d) = 114
      · rw [if_pos (by rw [q2]; rfl)]
        by_cases q3 : s = 0
        · rw [if_pos (by rw [q3]; decide), if_neg (by omega)]
        · rw [if_neg (by rw [L0, nJ_le (by omega) (by omega)]; omega), if_pos ⟨q, Or.inr ⟨q2, by omega⟩⟩]
      · rw [if_neg (by rw [show (114 : Int32) = nI 114 from rfl, nJ_eq (by omega) (by omega)]; exact q2), if_neg (by omega)]
/-- a sign is read, or the place where it is none is kept -/
theorem m_sign {V : Wd} {n : Nat} {ch : Nat → Nat} {d k : Nat} {z : Nat → Int32} (hn : n ≤ 50) (hd : d ≤ n) (hz : JH z) (hk : 1 ≤ k) (hk5 : k ≤ 5) (hs : sn z (k - 1) < 4) (h : MS V n ch d k z) (hc : ∀ i, i < n → 33 ≤ ch i ∧ ch i ≤ 126) :
    (∃ e V', d = e + 1 ∧ (48 ≤ ch (n - d) ∧ ch (n - d) ≤ 57) ∧ f_X9_readSign V (nI (k - 1)) = some V' ∧ MS V' n ch e k (ad z (k - 1) (nI (ch (n - d) - 48))) ∧ FM V V') ∨
    (∃ e V', d = e + 2 ∧ (ch (n - d) = 114 ∧ 1 ≤ sn z (k - 1)) ∧ ((49 ≤ ch (n - (e + 1)) ∧ ch (n - (e + 1)) ≤ 51) ∧ ch (n - (e + 1)) - 48 ≤ sn z (k - 1)) ∧ f_X9_readSign V (nI (k - 1)) = some V' ∧ MS V' n ch e k (ad z (k - 1) (nI (10 + (ch (n - (e + 1)) - 48)))) ∧ FM V V') ∨
    (∃ e V', d = e + 1 ∧ (ch (n - d) = 114 ∧ 1 ≤ sn z (k - 1)) ∧ (e = 0 ∨ ¬((49 ≤ ch (n - e) ∧ ch (n - e) ≤ 51) ∧ ch (n - e) - 48 ≤ sn z (k - 1))) ∧ f_X9_readSign V (nI (k - 1)) = some V' ∧ ER V V' n (n - e)) ∨
    (∃ V', (d = 0 ∨ ¬((48 ≤ ch (n - d) ∧ ch (n - d) ≤ 57) ∨ (ch (n - d) = 114 ∧ 1 ≤ sn z (k - 1)))) ∧ f_X9_readSign V (nI (k - 1)) = some V' ∧ ER V V' n (n - d)) := by
  obtain ⟨a1, a2, a3, a4, a5, a6⟩ := id h
  have e5 : (5 : Int32) * nI (k - 1) = nI (5 * (k - 1)) := by simp only [L5, pk_mul]
  have er : V 117 (5 * (k - 1)) = nI (sn z (k - 1)) := by rw [a6 _ (by omega)]; exact (hz _ (by omega)).1
  unfold f_X9_readSign
  rw [e5, rdb (n := 5 * (k - 1)) rfl (by omega) (by omega), er, m_next hn hd h hc (by omega), obs]
  by_cases q : d ≠ 0 ∧ ((48 ≤ ch (n - d) ∧ ch (n - d) ≤ 57) ∨ (ch (n - d) = 114 ∧ 1 ≤ sn z (k - 1)))
  · rw [if_pos q]
    obtain ⟨e, rfl⟩ : ∃ e, d = e + 1 := ⟨d - 1, by omega⟩
    obtain ⟨V3, b1, b2, b3⟩ := m_want1 hd h
    obtain ⟨d1, d2, d3, d4, d5, d6⟩ := id b2
    have ep : V3 112 9 - 1 = nI (n - (e + 1)) := by rw [d3, show n - e = (n - (e + 1)) + 1 by omega, ns1]
    have hr : ∀ {β : Type} (g : Int32 → Option β), (rd_ (V3 116) 50 (V3 112 9 - 1)).bind g = g (nI (ch (n - (e + 1)))) := fun g => by
      rw [rdb ep (by omega) (by omega), d2 _ (by omega)]
    obtain ⟨c1, c2⟩ := hc (n - (e + 1)) (by omega)
    rw [b1, obs, if_pos d4, hr]
    unfold f_X9_readSign_45
    rw [if_pos d4, hr]
    by_cases q1 : ch (n - (e + 1)) = 114
    · rw [if_pos (by rw [q1]; rfl)]
      have hs1 : 1 ≤ sn z (k - 1) := by omega
      have hfig : ∀ hi : Nat, hi < 100 → (49 ≤ ch (n - e) → ch (n - e) ≤ 48 + hi → (ch (n - e) ≤ 51 ∧ ch (n - e) - 48 ≤ sn z (k - 1))) → ((49 ≤ ch (n - e) ∧ ch (n - e) ≤ 51) ∧ ch (n - e) - 48 ≤ sn z (k - 1) → ch (n - e) ≤ 48 + hi) → (∃ f V', e = f + 1 ∧ ((49 ≤ ch (n - e) ∧ ch (n - e) ≤ 51) ∧ ch (n - e) - 48 ≤ sn z (k - 1)) ∧ f_X9_readSign_85 (nI (k - 1)) V3 (nI hi) 1 10 = some V' ∧ MS V' n ch f k (ad z (k - 1) (nI (10 + (ch (n - e) - 48)))) ∧ FM V V') ∨ (∃ V', (e = 0 ∨ ¬((49 ≤ ch (n - e) ∧ ch (n - e) ≤ 51) ∧ ch (n - e) - 48 ≤ sn z (k - 1))) ∧ f_X9_readSign_85 (nI (k - 1)) V3 (nI hi) 1 10 = some V' ∧ ER V V' n (n - e)) := by
        intro hi hh hx1 hx2
        unfold f_X9_readSign_85
        rcases m_figure (a := 1) (b := nI hi) (lo := 1) (hi := hi) hn (by omega) b2 hc rfl rfl (by omega) hh with ⟨f, V4, g1, g2, g3, g4, g5, g6⟩ | ⟨y, V4, g1, g2, g3⟩
        · rw [g4, obs]
          dsimp only
          rw [lib_, L10, nI_add]
          obtain ⟨V5, k1, k2, k3⟩ := m_r90 hz hk hk5 hs g5 (nI (10 + (ch (n - e) - 48)))
          have hq := hx1 (by omega) g3
          exact Or.inl ⟨f, V5, g1, ⟨⟨by omega, hq.1⟩, hq.2⟩, k1, k2, (b3.tr g6).tr k3⟩
        · rw [g2, obs]
          dsimp only
          rw [lib_, m_90E (g3.ne (by omega))]
          refine Or.inr ⟨V4, ?_, rfl, g3.1, g3.2.1, g3.2.2.1, b3.tr g3.2.2.2⟩
          rcases g1 with g1 | g1
          · exact Or.inl g1
          · exact Or.inr (fun hq => g1 ⟨by omega, hx2 hq⟩)
      have hfin : (if (3 : Int32) ≤ nI (sn z (k - 1)) then f_X9_readSign_85 (nI (k - 1)) V3 3 1 10 else f_X9_readSign_85 (nI (k - 1)) V3 (nI (sn z (k - 1))) 1 10) = f_X9_readSign_85 (nI (k - 1)) V3 (nI (min 3 (sn z (k - 1)))) 1 10 := by
        by_cases q3 : 3 ≤ sn z (k - 1)
        · rw [if_pos (by rw [L3, nJ_le (by omega) (by omega)]; exact q3), show min 3 (sn z (k - 1)) = 3 by omega]; rfl
        · rw [if_neg (by rw [L3, nJ_le (by omega) (by omega)]; exact q3), show min 3 (sn z (k - 1)) = sn z (k - 1) by omega]
      rw [hfin]
      rcases hfig (min 3 (sn z (k - 1))) (by omega) (by omega) (by omega) with ⟨f, V', g1, g2, g3, g4, g5⟩ | ⟨V', g1, g2, g3⟩
      · subst g1
        exact Or.inr (Or.inl ⟨f, V', rfl, ⟨q1, hs1⟩, g2, g3, g4, g5⟩)
      · exact Or.inr (Or.inr (Or.inl ⟨e, V', rfl, ⟨q1, hs1⟩, g1, g2, g3⟩))
    · rw [if_neg (by rw [show (114 : Int32) = nI 114 from rfl, nJ_eq (by omega) (by omega)]; exact q1)]
      have hd57 : 48 ≤ ch (n - (e + 1)) ∧ ch (n - (e + 1)) ≤ 57 := by omega
      rw [L48, pk_sub (by omega)]
      obtain ⟨V5, k1, k2, k3⟩ := m_r90 hz hk hk5 hs b2 (nI (ch (n - (e + 1)) - 48))
      exact Or.inl ⟨e, V5, rfl, hd57, k1, k2, b3.tr k3⟩
  · rw [if_neg q]
    obtain ⟨V3, b1, b2⟩ := m_want0 hn h
    rw [b1, obs, if_neg (b2.ne (by omega))]
    unfold f_X9_readSign_45
    rw [if_neg (b2.ne (by omega)), m_90E (b2.ne (by omega))]
    exact Or.inr (Or.inr (Or.inr ⟨V3, by omega, rfl, b2⟩))
/-- the rest of a text, from the state st -/
def OUT (V : Wd) (r : Int32 × (Nat → Int32)) (o : Option (Int32 × Wd)) : Prop := ∃ V', o = some (r.1, V') ∧ (r.1 = -6 → T7 V' r.2) ∧ FM V V'
theorem OUT.tr {V V1 : Wd} {r : Int32 × (Nat → Int32)} {o : Option (Int32 × Wd)} (h : FM V V1) (g : OUT V1 r o) : OUT V r o := by
  obtain ⟨V', a1, a2, a3⟩ := g
  exact ⟨V', a1, a2, h.tr a3⟩
theorem OUT_E {V V1 : Wd} {n p m : Nat} {z : Nat → Int32} (hp : p < 100) (h : ER V V1 n p) : OUT V (nI p, z) (POST (m + 1) V1) :=
  ⟨V1, by rw [m_postE (h.ne hp), h.1], fun q => absurd q (nI_ne6 (by omega)), h.2.2.2⟩
def R3 (n : Nat) (ch : Nat → Nat) (d : Nat) : Prop := ∀ (m m2 : Nat) (V : Wd) (k : Nat) (z : Nat → Int32), d + 1 < m → d < m2 → MS V n ch d k z → JJ 3 k z → OUT V (PS ch n d 3 k z) ((f_X9_readHoist_49 m2 V (nI (k - 1))).bind (POST m))
def R0 (n : Nat) (ch : Nat → Nat) (d : Nat) : Prop := ∀ (m : Nat) (V : Wd) (k : Nat) (z : Nat → Int32), d + 2 < m → MS V n ch d k z → JJ 0 k z → OUT V (PS ch n d 0 k z) (f_X9_errorPosition_39 m V 1)
theorem m_72 {m : Nat} {V : Wd} {n : Nat} {ch : Nat → Nat} {d k : Nat} {z : Nat → Int32} (hn : n ≤ 50) (hd : d ≤ n) (hc : ∀ i, i < n → 33 ≤ ch i ∧ ch i ≤ 126) (h : MS V n ch d k z) (hj : JJ 3 k z) (hm : d + 1 < m) (hnx : d = 0 ∨ 4 ≤ sn z (k - 1) ∨ ¬((48 ≤ ch (n - d) ∧ ch (n - d) ≤ 57) ∨ (ch (n - d) = 114))) (r0 : ∀ e, e < d → R0 n ch e) : OUT V (PS ch n d 3 k z) (POST m V) := by
  obtain ⟨a1, a2, a3, a4, a5, a6⟩ := id h
  obtain ⟨j1, j2, j3, j4, j5, j6, j7, j8⟩ := id hj
  have hk : 1 ≤ k := by omega
  obtain ⟨M, rfl⟩ : ∃ M, m = M + 1 := ⟨m - 1, by omega⟩
  rcases Nat.eq_zero_or_pos d with q | q
  · subst q
    refine ⟨V, ?_, fun _ => a6, FM.rf V⟩
    unfold POST
    rw [if_pos a4, if_pos (by rw [a1, a3, nJ_le (by omega) (by omega)]; omega), m_71, a4]
    rfl
  · obtain ⟨e, rfl⟩ : ∃ e, d = e + 1 := ⟨d - 1, by omega⟩
    have hP : POST (M + 1) V = f_X9_errorPosition_72 (fun V1 a1 => f_X9_errorPosition_39 (M + 1) V1 a1) V 1 := by
      unfold POST
      rw [if_pos a4, if_neg (by rw [a1, a3, nJ_le (by omega) (by omega)]; omega)]
    have h0 : ∀ {V1 : Wd}, ER V V1 n (n - (e + 1)) → OUT V (nI (n - (e + 1)), z) (f_X9_errorPosition_39 (M + 1) V1 0) := fun {V1} hE => by
      rw [f_X9_errorPosition_39, if_pos t00]
      exact ⟨V1, by rw [hE.1], fun q => absurd q (nI_ne6 (by omega)), hE.2.2.2⟩
    rw [hP]
    unfold f_X9_errorPosition_72
    rw [if_neg t10, m_letter hn hd h, obs, if_neg (show ¬ e + 1 = 0 by omega), PS, if_neg (by omega), if_neg (by omega), if_neg (by omega), if_pos rfl]
    by_cases q44 : ch (n - (e + 1)) = 44
    · have w44 : nI (ch (n - (e + 1))) = 44 := by rw [q44]; rfl
      rw [if_pos q44, if_pos w44, a5, kc_s k hk]
      by_cases q5 : 5 ≤ k
      · obtain ⟨V1, b1, b2⟩ := m_want0 hn h
        have w4 : (4 : Int32) ≤ nI (k - 1) := by rw [L4, nJ_le (by omega) (by omega)]; omega
        rw [if_pos q5, if_pos w4, b1, obs, if_neg (b2.ne (by omega))]
        exact h0 b2
      · obtain ⟨V1, b1, b2, b3⟩ := m_want1 hd h
        have w4 : ¬ (4 : Int32) ≤ nI (k - 1) := by rw [L4, nJ_le (by omega) (by omega)]; omega
        rw [if_neg q5, if_neg w4, b1, obs, if_pos b2.2.2.2.1]
        exact (r0 e (by omega) (M + 1) V1 k z (by omega) b2 (JJ_30 hj)).tr b3
    · obtain ⟨V1, b1, b2⟩ := m_want0 hn h
      have w44 : ¬ nI (ch (n - (e + 1))) = 44 := by
        rw [show (44 : Int32) = nI 44 from rfl, nJ_eq (by have := (hc (n - (e + 1)) (by omega)).2; omega) (by omega)]; exact q44
      have hres : (if ch (n - (e + 1)) = 114 then (if 4 ≤ sn z (k - 1) then (nI (n - (e + 1)), z) else PS ch n e 4 k z) else if (48 ≤ ch (n - (e + 1)) ∧ ch (n - (e + 1)) ≤ 57) ∧ sn z (k - 1) < 4 then PS ch n e 3 k (ad z (k - 1) (nI (ch (n - (e + 1)) - 48))) else (nI (n - (e + 1)), z)) = (nI (n - (e + 1)), z) := by
        by_cases q114 : ch (n - (e + 1)) = 114
        · rw [if_pos q114, if_pos (by omega)]
        · rw [if_neg q114, if_neg (by omega)]
      rw [if_neg q44, if_neg w44, b1, obs, if_neg (b2.ne (by omega)), hres]
      exact h0 b2
theorem m_R3 {n : Nat} {ch : Nat → Nat} (hn : n ≤ 50) (hc : ∀ i, i < n → 33 ≤ ch i ∧ ch i ≤ 126) {d : Nat} (hd : d ≤ n) (r3 : ∀ e, e < d → R3 n ch e) (r0 : ∀ e, e < d → R0 n ch e) : R3 n ch d := by
  intro m m2 V k z hm hm2 h hj
  obtain ⟨a1, a2, a3, a4, a5, a6⟩ := id h
  obtain ⟨j1, j2, j3, j4, j5, j6, j7, j8⟩ := id hj
  have hk : 1 ≤ k := by omega
  obtain ⟨M, rfl⟩ : ∃ M, m = M + 1 := ⟨m - 1, by omega⟩
  obtain ⟨M2, rfl⟩ : ∃ M2, m2 = M2 + 1 := ⟨m2 - 1, by omega⟩
  have e5 : (5 : Int32) * nI (k - 1) = nI (5 * (k - 1)) := by simp only [L5, pk_mul]
  have er : V 117 (5 * (k - 1)) = nI (sn z (k - 1)) := by rw [a6 _ (by omega)]; exact (j1 _ (by omega)).1
  have hs4 := (j1 (k - 1) (by omega)).2.1
  have hs1 := j7 (Or.inl rfl)
  rw [f_X9_readHoist_49, if_pos a4, e5, rdb (n := 5 * (k - 1)) rfl (by omega) (by omega), er]
  by_cases q4 : 4 ≤ sn z (k - 1)
  · rw [if_pos (by rw [L4, nJ_le (by omega) (by omega)]; exact q4), obs]
    exact m_72 hn hd hc h hj hm (Or.inr (Or.inl q4)) r0
  · rw [if_neg (by rw [L4, nJ_le (by omega) (by omega)]; exact q4), rdb (n := 5 * (k - 1)) rfl (by omega) (by omega), er, m_next hn hd h hc (by omega), obs]
    by_cases q : d ≠ 0 ∧ ((48 ≤ ch (n - d) ∧ ch (n - d) ≤ 57) ∨ (ch (n - d) = 114 ∧ 1 ≤ sn z (k - 1)))
    · rw [if_pos q, if_neg t10]
      rcases m_sign hn hd j1 hk j3 (by omega) h hc with ⟨e, V', g1, g2, g3, g4, g5⟩ | ⟨e, V', g1, g2, g3, g4, g5, g6⟩ | ⟨e, V', g1, g2, g3, g4, g5⟩ | ⟨V', g1, g2, g3⟩
      · subst g1
        rw [g3, obs, PS, if_neg (by omega), if_neg (by omega), if_neg (by omega), if_pos rfl, if_neg (by omega), if_neg (by omega), if_pos ⟨g2, by omega⟩]
        exact (r3 e (by omega) (M + 1) M2 V' k _ (by omega) (by omega) g4 (JJ_ad hj hk (by omega) (SG_fl (by omega)))).tr g5
      · subst g1
        have g21 : ch (n - (e + 1 + 1)) = 114 := g2.1
        rw [g4, obs, PS, if_neg (by omega), if_neg (by omega), if_neg (by omega), if_pos rfl, if_neg (by omega), if_pos g21, if_neg q4, PS, if_neg (by omega), if_neg (by omega), if_neg (by omega), if_neg (by omega), if_pos g3]
        exact (r3 e (by omega) (M + 1) M2 V' k _ (by omega) (by omega) g5 (JJ_ad hj hk (by omega) (SG_pe (by omega) g3.2 (by omega)))).tr g6
      · subst g1
        obtain ⟨M3, rfl⟩ : ∃ M3, M2 = M3 + 1 := ⟨M2 - 1, by omega⟩
        rw [g4, obs, f_X9_readHoist_49, if_neg (g5.ne (by omega)), obs, PS, if_neg (by omega), if_neg (by omega), if_neg (by omega), if_pos rfl, if_neg (by omega), if_pos g2.1, if_neg q4]
        have hres : PS ch n e 4 k z = (nI (n - e), z) := by
          rcases Nat.eq_zero_or_pos e with q0 | q0
          · subst q0
            rw [PS, if_neg (by omega), Nat.sub_zero]
          · obtain ⟨f, rfl⟩ : ∃ f, e = f + 1 := ⟨e - 1, by omega⟩
            rw [PS, if_neg (by omega), if_neg (by omega), if_neg (by omega), if_neg (by omega), if_neg (by omega)]
        rw [hres]
        exact OUT_E (by omega) g5
      · exact absurd q (by omega)
    · rw [if_neg q, if_pos t00, obs]
      exact m_72 hn hd hc h hj hm (by omega) r0
theorem m_R0 {n : Nat} {ch : Nat → Nat} (hn : n ≤ 50) (hc : ∀ i, i < n → 33 ≤ ch i ∧ ch i ≤ 126) {d : Nat} (hd : d ≤ n) (r3 : ∀ e, e < d → R3 n ch e) : R0 n ch d := by
  intro m V k z hm h hj
  have hFU := FU_v
  obtain ⟨a1, a2, a3, a4, a5, a6⟩ := id h
  obtain ⟨j1, j2, j3, j4, j5, j6, j7, j8⟩ := id hj
  obtain ⟨M, rfl⟩ : ∃ M, m = M + 2 := ⟨m - 2, by omega⟩
  have ek : V 112 8 + 1 = nI k := by rw [a5]; unfold kc; exact Int32.sub_add_cancel (nI k) 1
  have hE : f_X9_errorPosition_39 (M + 2) V 1 = (f_X9_readHoist V).bind (POST (M + 1)) := by
    rw [f_X9_errorPosition_39, if_neg t10]
    rfl
  rw [hE]
  unfold f_X9_readHoist
  rcases m_figure (a := V 112 8 + 1) (b := 4) (lo := k) (hi := 4) hn hd h hc ek rfl (by omega) (by omega) with ⟨e, V1, g1, g2, g3, g4, g5, g6⟩ | ⟨y, V1, g1, g2, g3⟩
  · subst g1
    have hP0 : PS ch n (e + 1) 0 k z = PS ch n e 1 (ch (n - (e + 1)) - 47) z := by rw [PS, if_pos rfl, if_pos ⟨g2, g3⟩]
    have hj1 := JJ_0 hj (h := ch (n - (e + 1)) - 48) (by omega) (by omega)
    rw [show ch (n - (e + 1)) - 48 + 1 = ch (n - (e + 1)) - 47 by omega] at hj1
    obtain ⟨K, hK⟩ : ∃ K, ch (n - (e + 1)) - 47 = K := ⟨_, rfl⟩
    have hK1 : ch (n - (e + 1)) - 48 = K - 1 := by omega
    rw [hP0, g4, obs]
    dsimp only
    rw [hK] at hj1 ⊢
    rw [hK1, m_letter hn (by omega) g5, obs]
    have hbad : (e = 0 ∨ ¬ ch (n - e) = 58) → PS ch n e 1 K z = (nI (n - e), z) := fun hb => by
      rcases Nat.eq_zero_or_pos e with q0 | q0
      · subst q0
        rw [PS, if_neg (by omega), Nat.sub_zero]
      · obtain ⟨f, rfl⟩ : ∃ f, e = f + 1 := ⟨e - 1, by omega⟩
        rw [PS, if_neg (by omega), if_pos rfl, if_neg (by omega)]
    by_cases q58 : e ≠ 0 ∧ ch (n - e) = 58
    · obtain ⟨f, rfl⟩ : ∃ f, e = f + 1 := ⟨e - 1, by omega⟩
      obtain ⟨V7, b1, b2, b3⟩ := m_want1 (by omega) g5
      rw [if_neg q58.1, if_pos (by rw [q58.2]; rfl), b1, obs, if_pos b2.2.2.2.1, lib_]
      obtain ⟨c1, c2, c3, c4, c5, c6⟩ := b2
      have h8 : MS (u2 V7 112 8 (nI (K - 1))) n ch f K z := by
        refine ⟨?_, fun i hi => ?_, ?_, ?_, ?_, fun j hj => ?_⟩
        · rw [u2_n (Or.inr (by omega))]; exact c1
        · rw [u2_ne (by omega)]; exact c2 i hi
        · rw [u2_n (Or.inr (by omega))]; exact c3
        · rw [u2_n (Or.inr (by omega))]; exact c4
        · rw [u2_s, kc_s K (by omega)]
        · rw [u2_ne (by omega)]; exact c6 j hj
      have hfm : FM V (u2 V7 112 8 (nI (K - 1))) := (g6.tr b3).tr (FM_u (by omega) _)
      have hj2 := JJ_2 hj1
      have hP1 : PS ch n (f + 1) 1 K z = PS ch n f 2 K z := by rw [PS, if_neg (by omega), if_pos rfl, if_pos q58.2]
      have hs0 : sn z (K - 1) = 0 := hj2.2.2.2.2.1 (Or.inr rfl)
      have hK5 := hj2.2.2.1
      rw [hP1]
      refine OUT.tr hfm ?_
      rcases m_sign hn (by omega) hj2.1 (by omega) hK5 (by omega) h8 hc with ⟨e2, V', w1, w2, w3, w4, w5⟩ | ⟨e2, V', w1, w2, w3, w4, w5, w6⟩ | ⟨e2, V', w1, w2, w3, w4, w5⟩ | ⟨V', w1, w2, w3⟩
      · subst w1
        rw [w3, obs, PS, if_neg (by omega), if_neg (by omega), if_pos rfl, if_pos w2]
        exact (r3 e2 (by omega) (M + 1) FU_ V' K _ (by omega) (by omega) w4 (JJ_ad hj2 (by omega) (by omega) (SG_fl (by omega)))).tr w5
      · omega
      · omega
      · rw [w2, obs, m_l49E (w3.ne (by omega)), obs]
        have hres : PS ch n f 2 K z = (nI (n - f), z) := by
          rcases Nat.eq_zero_or_pos f with q0 | q0
          · subst q0
            rw [PS, if_neg (by omega), Nat.sub_zero]
          · obtain ⟨f2, rfl⟩ : ∃ f2, f = f2 + 1 := ⟨f - 1, by omega⟩
            rw [PS, if_neg (by omega), if_neg (by omega), if_pos rfl, if_neg (by omega)]
        rw [hres]
        exact OUT_E (by omega) w3
    · obtain ⟨V3, b1, b2⟩ := m_want0 hn g5
      have hn58 : ¬ (if e = 0 then (-6 : Int32) else nI (ch (n - e))) = 58 := by
        by_cases q0 : e = 0
        · rw [if_pos q0]; decide
        · rw [if_neg q0, show (58 : Int32) = nI 58 from rfl, nJ_eq (by have := (hc (n - e) (by omega)).2; omega) (by omega)]
          exact fun hq => q58 ⟨q0, hq⟩
      rw [if_neg hn58, b1, obs, if_neg (b2.ne (by omega)), m_l49E (b2.ne (by omega)), obs, hbad (by omega)]
      exact (OUT_E (by omega) b2).tr g6
  · have hne := g3.ne (show n - d < 100 by omega)
    obtain ⟨p, hp, h9⟩ := g3.2.1
    obtain ⟨x, hx⟩ := m_letter_some hn hp g3.2.2.1 h9
    have hres : PS ch n d 0 k z = (nI (n - d), z) := by
      rcases Nat.eq_zero_or_pos d with q0 | q0
      · subst q0
        rw [PS, if_neg (by omega), Nat.sub_zero]
      · obtain ⟨f, rfl⟩ : ∃ f, d = f + 1 := ⟨d - 1, by omega⟩
        rw [PS, if_pos rfl, if_neg (by omega)]
    rw [g2, obs]
    dsimp only
    rw [hx, obs, m_wantE hne, m_wantE hne, obs, if_neg hne, m_l49E hne, hres]
    have hsame : (if x = 58 then some V1 else some V1) = some V1 := by split <;> rfl
    rw [hsame, obs]
    exact OUT_E (by omega) g3
theorem m_R {n : Nat} {ch : Nat → Nat} (hn : n ≤ 50) (hc : ∀ i, i < n → 33 ≤ ch i ∧ ch i ≤ 126) : ∀ D d, d < D → d ≤ n → R3 n ch d ∧ R0 n ch d := by
  intro D
  induction D with
  | zero => intro d h _; omega
  | succ D ih =>
    intro d h hd
    have r3 : ∀ e, e < d → R3 n ch e := fun e he => (ih e (by omega) (by omega)).1
    have r0 : ∀ e, e < d → R0 n ch e := fun e he => (ih e (by omega) (by omega)).2
    exact ⟨m_R3 hn hc hd r3 r0, m_R0 hn hc hd r3⟩
theorem m_err_l : ∀ (d m : Nat) (V : Wd), d ≤ 25 → d < m → (∀ j, j < 25 - d → V 117 j = 0) → ∃ V', f_X9_errorPosition_2 m V (nI (25 - d)) = f_X9_errorPosition_21 V' ∧ (∀ j, j < 25 → V' 117 j = 0) ∧ ∀ c, c ≠ 117 → V' c = V c := by
  intro d
  induction d with
  | zero =>
    intro m V hd hm hV
    obtain ⟨m, rfl⟩ : ∃ k, m = k + 1 := ⟨m - 1, by omega⟩
    rw [f_X9_errorPosition_2, if_pos (by decide)]
    exact ⟨V, rfl, hV, fun _ _ => rfl⟩
  | succ d ih =>
    intro m V hd hm hV
    obtain ⟨m, rfl⟩ : ∃ k, m = k + 1 := ⟨m - 1, by omega⟩
    rw [f_X9_errorPosition_2, if_neg (by rw [show (25 : Int32) = nI 25 from rfl, nJ_le (by omega) (by omega)]; omega), st_n (by omega) (by omega), n1, show 25 - (d + 1) + 1 = 25 - d by omega]
    obtain ⟨V', g1, g2, g3⟩ := ih m (u2 V 117 (25 - (d + 1)) 0) (by omega) (by omega) (fun j hj => by
      rw [u2_at]
      by_cases q : j = 25 - (d + 1)
      · rw [q, pk_us]
      · rw [pk_un q]; exact hV j (by omega))
    exact ⟨V', g1, g2, fun c hc => by rw [g3 c hc, u2_ne hc]⟩
theorem Z25 : (0 : Int32) = nI (25 - 25) := rfl
theorem m_err {V : Wd} {n : Nat} {ch : Nat → Nat} (hn : n ≤ 50) (hc : ∀ i, i < n → 33 ≤ ch i ∧ ch i ≤ 126) (h6 : V 112 6 = nI n) (h116 : ∀ i, i < n → V 116 i = nI (ch i)) : OUT V (PS ch n n 0 0 zn_) (f_X9_errorPosition V) := by
  have hFU := FU_v
  obtain ⟨V1, a1, a2, a3⟩ := m_err_l 25 FU_ V (by omega) (by omega) (fun j hj => absurd hj (by omega))
  unfold f_X9_errorPosition
  rw [Z25, a1]
  unfold f_X9_errorPosition_21
  rw [lib_, lib_, lib_]
  have hfm : FM V (u2 (u2 (u2 V1 112 8 (-1)) 112 9 0) 112 10 (-6)) := FM.tr (FM.tr (FM.tr ⟨fun c h1 h2 => a3 c h2, fun j h1 h2 h3 => by rw [a3 112 (by omega)]⟩ (FM_u (by omega) _)) (FM_u (by omega) _)) (FM_u (by omega) _)
  refine OUT.tr hfm ((m_R hn hc (n + 1) n (by omega) (Nat.le_refl n)).2 FU_ _ 0 zn_ (by omega) ⟨?_, fun i hi => ?_, ?_, ?_, ?_, fun j hj => ?_⟩ JJ_n)
  · rw [hfm.2 6 (by omega) (by omega) (by omega)]; exact h6
  · rw [hfm.1 116 (by omega) (by omega)]; exact h116 i hi
  · rw [u2_n (Or.inr (by omega)), u2_s, Nat.sub_self]; rfl
  · rw [u2_s]
  · rw [u2_n (Or.inr (by omega)), u2_n (Or.inr (by omega)), u2_s]; decide
  · rw [u2_ne (by omega), u2_ne (by omega), u2_ne (by omega), a2 j hj]; rfl

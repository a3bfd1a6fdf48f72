/-! Pure: the law's trying of all winds, turns, exchanges and entries finds nothing wrong. -/
theorem RR_as {V V' : Wd} {z z' : Nat → Int32} (hR : RR V z) (hz : ∀ j, j ≠ 1 → j ≠ 2 → z' j = z j) (h2 : z' 2 = 0 ∨ z' 2 = 1) (hc : ∀ c, c ≠ 122 → V' c = V c) (ht : V' 122 1 = z' 1 ∧ V' 122 2 = z' 2 ∧ V' 122 5 = V 122 5) : RR V' z' := by
  obtain ⟨hv, hco, hC, hM, hB, hT⟩ := hR
  have eS : ∀ h, zS z' h = zS z h := fun h => hz _ (by omega) (by omega)
  have eG : ∀ h p, zG z' h p = zG z h p := fun h p => hz _ (by omega) (by omega)
  have en5 : en z' = en z := by unfold en; rw [hz 5 (by omega) (by omega)]
  refine ⟨VR_cong hv (fun j h1 _ => hz j (by omega) (by omega)), ⟨fun f hf => ?_, h2⟩, fun j hj => ?_, fun h p hh hp => ?_, fun e he => ?_, ht.1, ht.2.1, ?_⟩
  · obtain ⟨a, b, w, h1, h2, h3, e1, e2, e3⟩ := hco.1 f hf
    exact ⟨a, b, w, h1, h2, h3, (hz _ (by omega) (by omega)).trans e1, (hz _ (by omega) (by omega)).trans e2, (hz _ (by omega) (by omega)).trans e3⟩
  · rw [hc 118 (by omega), hC j hj, hz _ (by omega) (by omega)]
  · rw [hc 119 (by omega), hM h p hh hp, eG, show sn z' h = sn z h by unfold sn; rw [eS]]
  · rw [en5] at he
    rw [hc 120 (by omega)]
    exact ⟨(hB e he).1.trans (hz _ (by omega) (by omega)).symm, (hB e he).2.trans (hz _ (by omega) (by omega)).symm⟩
  · rw [ht.2.2, hT.2.2, hz 5 (by omega) (by omega)]
theorem WR_as {z z' : Nat → Int32} (hv : VR z) (hz : ∀ j, j ≠ 1 → j ≠ 2 → z' j = z j) (side : Int32) : ML (WM z' side) side = ML (WR z (fst_ z' side) (z' 1)) side := by
  refine ML_congr side (fun h hh => ?_)
  obtain ⟨w1, w2, w3, w4, w5⟩ := WR_eqs (z := z) (z' := z') (fun j h1 _ => hz j (by omega) (by omega))
  exact WR_cong hv hh (w1 h hh) (fun p hp => w2 h p hh hp) (hz 5 (by omega) (by omega)) w4 w5 _ _
section AHEAD
variable {x5 : Int32}
theorem l_a23 {V : Wd} {z : Nat → Int32} (hR : RR V z) {s : Nat} (hs : s < 2) (K9 : Wd → Int32 → Int32 → Option (Int32 × Wd)) (x6 : Int32) : ∀ (p n : Nat) (V' : Wd) (x8 : Int32), p ≤ 10 → p < n → (∀ c, c ≠ 122 → V' c = V c) → (∀ j, j ≠ 1 → V' 122 j = V 122 j) → x8 = lw_ (fun t => ka (ML (WR z (fst_ z (nI s)) t) (nI s))) (10 - p) → ∃ V'', (∀ c, c ≠ 122 → V'' c = V c) ∧ (∀ j, j ≠ 1 → V'' 122 j = V 122 j) ∧ f_L_ahead_23 x5 K9 n V' x6 (nI s) x8 (nI p - 1) = f_L_ahead_73 x5 K9 V'' x6 (nI s) (lw_ (fun t => ka (ML (WR z (fst_ z (nI s)) t) (nI s))) 10) := by
  intro p
  induction p with
  | zero =>
    intro n V' x8 hp hn h1 h2 hx
    obtain ⟨n, rfl⟩ : ∃ k, n = k + 1 := ⟨n - 1, by omega⟩
    refine ⟨V', h1, h2, ?_⟩
    rw [f_L_ahead_23, if_pos (by decide), hx]
  | succ p ih =>
    intro n V' x8 hp hn h1 h2 hx
    obtain ⟨n, rfl⟩ : ∃ k, n = k + 1 := ⟨n - 1, by omega⟩
    obtain ⟨V5, hV5⟩ : ∃ V5, u2 V' 122 1 (nI p) = V5 := ⟨_, rfl⟩
    have k1 : ∀ c, c ≠ 122 → V5 c = V c := fun c hc => by rw [← hV5, u2_ne hc, h1 c hc]
    have k2 : ∀ j, j ≠ 1 → V5 122 j = V 122 j := fun j hj => by rw [← hV5, u2_n (Or.inr hj), h2 j hj]
    have hz : ∀ j, j ≠ 1 → j ≠ 2 → upd z 1 (nI p) j = z j := fun j h1 _ => pk_un h1
    have z2 : upd z 1 (nI p) 2 = z 2 := pk_un (by omega)
    have z1 : upd z 1 (nI p) 1 = nI p := pk_us
    have hR5 : RR V5 (upd z 1 (nI p)) := RR_as hR hz (by rw [z2]; exact hR.2.1.2) k1 ⟨by rw [← hV5, u2_s, z1], by rw [k2 2 (by omega), z2]; exact hR.2.2.2.2.2.2.1, k2 5 (by omega)⟩
    have e1 : ML (WM (upd z 1 (nI p)) (nI s)) (nI s) = ML (WR z (fst_ z (nI s)) (nI p)) (nI s) := by
      rw [WR_as hR.1 hz, z1, show fst_ (upd z 1 (nI p)) (nI s) = fst_ z (nI s) by unfold fst_; rw [z2]]
    have a1 := l_hoistsL hR5 (nI s)
    have a2 := l_known hR5 hs
    rw [e1] at a1 a2
    obtain ⟨L, hL⟩ : ∃ L, ML (WR z (fst_ z (nI s)) (nI p)) (nI s) = L := ⟨_, rfl⟩
    rw [hL] at a1 a2
    have hl5 : L.length ≤ 5 := by rw [← hL]; exact ML_len5 _ _
    have hkn := kn_le L
    have hx2 : lw_ (fun t => ka (ML (WR z (fst_ z (nI s)) t) (nI s))) (10 - p) = if ka L = 0 then x8 else nI p := by
      rw [hx, show 10 - p = (10 - (p + 1)) + 1 by omega, lw_, show 10 - ((10 - (p + 1)) + 1) = p by omega]
      show (if ka (ML (WR z (fst_ z (nI s)) (nI p)) (nI s)) = 0 then _ else _) = _
      rw [hL]
    rw [f_L_ahead_23, ns1, if_neg (nI_pos (by omega)), ts1, hV5, a1, obs, mm1]
    by_cases q0 : L.length = 0
    · rw [if_pos (by rw [q0]; decide)]
      exact ih n V5 _ (by omega) (by omega) k1 k2 (by rw [hx2, show ka L = 0 by unfold ka; rw [if_neg (fun h => h.1 q0)], if_pos t00])
    · rw [if_neg (by rw [show (0 : Int32) = nI 0 from rfl, nJ_le (by omega) (by omega)]; omega), a2, obs, obs]
      by_cases q1 : kn L = L.length
      · rw [if_pos (by rw [q1])]
        exact ih n V5 _ (by omega) (by omega) k1 k2 (by rw [hx2, show ka L = 1 by unfold ka; rw [if_pos ⟨q0, q1⟩], if_neg t10])
      · rw [if_neg (by rw [nJ_eq (by omega) (by omega)]; exact q1)]
        exact ih n V5 _ (by omega) (by omega) k1 k2 (by rw [hx2, show ka L = 0 by unfold ka; rw [if_neg (fun h => q1 h.2)], if_pos t00])
theorem u2_back {V V' : Wd} {k j : Nat} {x : Int32} (h1 : ∀ c, c ≠ k → V' c = V c) (h2 : ∀ i, i ≠ j → V' k i = V k i) (hx : x = V k j) : u2 V' k j x = V := by
  funext c
  by_cases q : c = k
  · subst q
    funext i
    by_cases q2 : i = j
    · subst q2
      rw [u2_s, hx]
    · rw [u2_n (Or.inr q2), h2 i q2]
  · rw [u2_ne q, h1 c q]
theorem l_a73 {V : Wd} {T : Nat} (hJ : JJ V T) {s : Nat} (hs : s < 2) (K9 : Wd → Int32 → Int32 → Option (Int32 × Wd)) {V' : Wd} (h1 : ∀ c, c ≠ 122 → V' c = V c) (h2 : ∀ j, j ≠ 1 → V' 122 j = V 122 j) : ∃ V1, Ir V V1 ∧ f_L_ahead_73 x5 K9 V' (V 113 1) (nI s) (lw_ (fun t => ka (ML (WR (V 113) (fst_ (V 113) (nI s)) t) (nI s))) 10) = K9 V1 (V 113 1) (nI (s + 1)) := by
  have hR := hJ.rr
  obtain ⟨r0, r1, r2, r3, r4, r5⟩ := hJ.2.2.2.2.2.1
  obtain ⟨V2, hV2⟩ : ∃ V2, u2 V 122 2 (1 - V 113 2) = V2 := ⟨_, rfl⟩
  have hz : ∀ j, j ≠ 1 → j ≠ 2 → upd (V 113) 2 (1 - V 113 2) j = V 113 j := fun j _ h2 => pk_un h2
  have z2 : upd (V 113) 2 (1 - V 113 2) 2 = 1 - V 113 2 := pk_us
  have z1 : upd (V 113) 2 (1 - V 113 2) 1 = V 113 1 := pk_un (by omega)
  have h01 : (1 - V 113 2 = 0 ∨ 1 - V 113 2 = 1) ∧ 1 - (1 - V 113 2) = V 113 2 := by
    rcases hR.2.1.2 with e | e <;> rw [e] <;> decide
  have k1 : ∀ c, c ≠ 122 → V2 c = V c := fun c hc => by rw [← hV2, u2_ne hc]
  have k2 : ∀ j, j ≠ 2 → V2 122 j = V 122 j := fun j hj => by rw [← hV2, u2_n (Or.inr hj)]
  have hR2 : RR V2 (upd (V 113) 2 (1 - V 113 2)) := RR_as hR hz (by rw [z2]; exact h01.1) k1 ⟨by rw [k2 1 (by omega), z1, r1], by rw [← hV2, u2_s, z2], k2 5 (by omega)⟩
  have a2 := l_known hR2 hs
  rw [WR_as hR.1 hz, z1, show fst_ (upd (V 113) 2 (1 - V 113 2)) (nI s) = (if nI s = 1 - V 113 2 then 1 else 0) by unfold fst_; rw [z2]] at a2
  obtain ⟨Va, a3, a4⟩ := c_leastWind hJ.1 hs
  have hJa := hJ.ir a4
  have ea : Va 113 = V 113 := a4.2 113 (by omega)
  obtain ⟨Vb, a5, a6⟩ := c_ifTurned hJa.1 hs
  rw [ea] at a5
  have eB : u2 V2 122 2 (1 - V2 122 2) = V := u2_back k1 k2 (by rw [← hV2, u2_s, h01.2, r2])
  refine ⟨Vb, a4.tr a6, ?_⟩
  unfold f_L_ahead_73
  rw [ts1, u2_back h1 h2 r1.symm, tr2, r2, ts2, hV2, a2, obs, tr2, ts2, eB, a3, obs]
  dsimp only
  rw [if_pos rfl, a5, obs]
  dsimp only
  rw [if_pos rfl, n1]
theorem l_a9 {z : Nat → Int32} {T : Nat} : ∀ (d n : Nat) (V : Wd), JJ V T → V 113 = z → d ≤ 2 → d < n → ∃ V', Ir V V' ∧ f_L_ahead_9 x5 n V (z 1) (nI (2 - d)) = f_L_ahead_141 x5 V' := by
  have hF := FU_v
  intro d
  induction d with
  | zero =>
    intro n V hJ hz hd hn
    obtain ⟨n, rfl⟩ : ∃ k, n = k + 1 := ⟨n - 1, by omega⟩
    rw [f_L_ahead_9, if_pos (by decide)]
    exact ⟨V, Ir.rf hJ.1, rfl⟩
  | succ d ih =>
    intro n V hJ hz hd hn
    obtain ⟨n, rfl⟩ : ∃ k, n = k + 1 := ⟨n - 1, by omega⟩
    obtain ⟨s, hs⟩ : ∃ s, s = 2 - (d + 1) := ⟨_, rfl⟩
    obtain ⟨V', g1, g2, g3⟩ := l_a23 (x5 := x5) hJ.rr (show s < 2 by omega) (fun V1 a6 a7 => f_L_ahead_9 x5 n V1 a6 a7) (V 113 1) 10 FU_ V (-6) (by omega) (by omega) (fun _ _ => rfl) (fun _ _ => rfl) rfl
    obtain ⟨V1, b1, b2⟩ := l_a73 (x5 := x5) hJ (show s < 2 by omega) (fun V1 a6 a7 => f_L_ahead_9 x5 n V1 a6 a7) g1 g2
    obtain ⟨V2, c1, c2⟩ := ih n V1 (hJ.ir b1) ((b1.2 113 (by omega)).trans hz) (by omega) (by omega)
    refine ⟨V2, b1.tr c1, ?_⟩
    rw [f_L_ahead_9, ← hs, if_neg (by rw [L2, nJ_le (by omega) (by omega)]; omega), show (9 : Int32) = nI 10 - 1 by decide, ← hz, g3, b2, hz, show s + 1 = 2 - d by omega]
    exact c2
/-- the last of the pairs 24 .. 25 - d that mends -/
def hh_ (P : Nat → Nat → Int32) : Nat → Int32
  | 0 => -6
  | d + 1 => if (24 - d) / 5 < (24 - d) % 5 then (if P ((24 - d) / 5) ((24 - d) % 5) = 0 then hh_ P d else nI (10 * ((24 - d) / 5) + (24 - d) % 5)) else hh_ P d
theorem hh_25 (P : Nat → Nat → Int32) : hh_ P 25 = fo_ P 5 := by rfl
theorem hh_ne (P : Nat → Nat → Int32) : ∀ d, hh_ P d ≠ 0
  | 0 => by show (-6 : Int32) ≠ 0; decide
  | d + 1 => by
    rw [hh_]
    split
    · next h =>
      split
      · exact hh_ne P d
      · rw [show (0 : Int32) = nI 0 from rfl]
        intro e
        rw [nJ_eq (by omega) (by omega)] at e
        omega
    · exact hh_ne P d
theorem l_a164 {V : Wd} {z : Nat → Int32} : ∀ (p n : Nat) (V' : Wd) (x7 : Int32), p ≤ 25 → p < n → RR V' z → (∀ c, c ≠ 119 → V' c = V c) → x7 = hh_ (PQ z) (25 - p) → ∃ V'', RR V'' z ∧ (∀ c, c ≠ 119 → V'' c = V c) ∧ f_L_ahead_164 x5 n V' x7 (nI p - 1) = f_L_ahead_256 x5 FU_ V'' (hh_ (PQ z) 25) (-6) 9 0 := by
  intro p
  induction p with
  | zero =>
    intro n V' x7 hp hn hR hf hx
    obtain ⟨n, rfl⟩ : ∃ k, n = k + 1 := ⟨n - 1, by omega⟩
    refine ⟨V', hR, hf, ?_⟩
    rw [f_L_ahead_164, if_pos (by decide), hx]
  | succ p ih =>
    intro n V' x7 hp hn hR hf hx
    obtain ⟨n, rfl⟩ : ∃ k, n = k + 1 := ⟨n - 1, by omega⟩
    have hx2 : hh_ (PQ z) (25 - p) = if p / 5 < p % 5 then (if PQ z (p / 5) (p % 5) = 0 then x7 else nI (10 * (p / 5) + p % 5)) else x7 := by
      rw [hx, show 25 - p = (25 - (p + 1)) + 1 by omega, hh_, show 24 - (25 - (p + 1)) = p by omega]
    have d5 : nI p / 5 = nI (p / 5) := pk_div (d := 5) (by omega) (by decide) (by decide)
    have r5 : nI p - nI p / 5 * 5 = nI (p % 5) := pk_rem (d := 5) (by omega) (by decide) (by decide)
    rw [f_L_ahead_164, ns1, if_neg (nI_pos (by omega)), if_neg (by rw [hx]; exact hh_ne _ _), r5, d5, mm1]
    by_cases q : p / 5 < p % 5
    · have ha : p / 5 < 5 := by omega
      have hb : p % 5 < 5 := by omega
      obtain ⟨V1, a1, a2, a3⟩ := l_swap V' ha hb (by omega)
      have hR1 := RR_sw ha hb hR a2 a3
      obtain ⟨V2, b1, b2, b3⟩ := l_swap V1 ha hb (by omega)
      have hR2 := RR_sw ha hb hR1 b2 b3
      rw [swz_swz z ha hb] at hR2
      have hs := l_same hR1
      rw [show ag (ML (WM (swz z (p / 5) (p % 5)) 0) 0) (ML (WM (swz z (p / 5) (p % 5)) 1) 1) = PQ z (p / 5) (p % 5) by
        unfold PQ
        rw [ML_congr 0 (fun h hh => WM_swz hR.1 ha hb 0 hh), ML_congr 1 (fun h hh => WM_swz hR.1 ha hb 1 hh)]] at hs
      have hf2 : ∀ c, c ≠ 119 → V2 c = V c := fun c hc => by rw [b3 c hc, a3 c hc, hf c hc]
      rw [if_neg (by rw [nJ_le (by omega) (by omega)]; omega), a1, obs, hs, obs, b1, obs, x10, lib_, obs]
      rw [if_pos q] at hx2
      rcases PQ_B z (p / 5) (p % 5) with e0 | e0
      · rw [e0, if_pos t00] at hx2
        rw [e0, if_pos t00]
        exact ih n V2 x7 (by omega) (by omega) hR2 hf2 hx2.symm
      · rw [e0, if_neg t10] at hx2
        rw [e0, if_neg t10]
        exact ih n V2 _ (by omega) (by omega) hR2 hf2 hx2.symm
    · rw [if_pos (by rw [nJ_le (by omega) (by omega)]; omega)]
      rw [if_neg q] at hx2
      exact ih n V' x7 (by omega) (by omega) hR hf hx2.symm
/-- the law's digits of an entry -/
theorem l_a296 {V : Wd} {z : Nat → Int32} (hR : RR V z) (K : Wd → Int32 → Int32 → Int32 → Int32 → Option (Int32 × Wd)) (x7 b f x10 : Int32) : ∀ (l k n N : Nat) (x : Int32), k + l ≤ 4 → l < n → LD N l → isB x → f_L_ahead_296 x5 K n V x7 b f x10 (nI k) x (nI N) = f_L_ahead_348 x5 K V x7 b f x10 (nI (k + l)) (if x = 0 then 0 else kz (tk (zH z) (zF z) (zW z) (fst_ z 0) (z 1)) l N) := by
  intro l
  induction l with
  | zero =>
    intro k n N x hk hn hN hx
    obtain ⟨n, rfl⟩ : ∃ j, n = j + 1 := ⟨n - 1, by omega⟩
    obtain rfl := LD_0 hN
    rw [f_L_ahead_296, if_pos (by decide), Nat.add_zero]
    rcases hx with rfl | rfl <;> rfl
  | succ l ih =>
    intro k n N x hk hn hN hx
    obtain ⟨n, rfl⟩ : ∃ j, n = j + 1 := ⟨n - 1, by omega⟩
    have hlt := LD_lt (by omega) hN
    obtain ⟨h1, h2⟩ := LD_s hN
    have i0 := ih (k + 1) n (N / 10) 0 (by omega) (by omega) h1 (Or.inl rfl)
    have i1 := ih (k + 1) n (N / 10) 1 (by omega) (by omega) h1 (Or.inr rfl)
    rw [if_pos t00, show k + 1 + l = k + (l + 1) by omega] at i0
    rw [if_neg t10, show k + 1 + l = k + (l + 1) by omega] at i1
    rw [f_L_ahead_296, if_neg (by rw [L9, nJ_le (by omega) (by omega)]; omega), dv10 (by omega), lib_, n1, lib_]
    rcases hx with rfl | rfl
    · rw [if_pos t00, if_pos t00]
      exact i0
    · have ht := l_taken hR (s := 0) (f := N % 10) (by omega) (Nat.mod_lt _ (by decide))
      have hr := rm10 (n := N) (by omega)
      rw [dv10 (by omega)] at hr
      rw [if_neg t10, if_neg t10, hr, show f_L_taken V 0 (nI (N % 10)) = _ from ht, obs, kz]
      show (if tk (zH z) (zF z) (zW z) (fst_ z 0) (z 1) (N % 10) = nI (N % 10) then _ else _) = _
      by_cases q : tk (zH z) (zF z) (zW z) (fst_ z 0) (z 1) (N % 10) = nI (N % 10)
      · rw [if_pos q, if_pos q]
        exact i1
      · rw [if_neg q, if_neg q]
        exact i0
theorem l_a348_0 (K : Wd → Int32 → Int32 → Int32 → Int32 → Option (Int32 × Wd)) (V : Wd) (x7 b f x10 x11 : Int32) : f_L_ahead_348 x5 K V x7 b f x10 x11 0 = K V x7 b f (x10 + 1) := by
  unfold f_L_ahead_348
  rw [if_pos t00, if_pos t00]
theorem l_a348_1 (K : Wd → Int32 → Int32 → Int32 → Int32 → Option (Int32 × Wd)) (V : Wd) (x7 b f x10 x11 : Int32) : f_L_ahead_348 x5 K V x7 b f x10 x11 1 = if f ≤ x11 then K V x7 b f (x10 + 1) else K V x7 x10 x11 (x10 + 1) := by
  unfold f_L_ahead_348
  by_cases q : f ≤ x11
  · simp only [if_neg t10, if_pos q]
  · simp only [if_neg t10, if_neg q]
def BL (z : Nat → Int32) (E : Nat) (b f : Int32) : Prop := (b = -6 ∧ f = 9) ∨ ∃ e n l, e < E ∧ b = nI e ∧ zC z e = nI n ∧ LD n l ∧ 1 ≤ l ∧ l ≤ 4 ∧ f = nI l
theorem l_a256 {V W : Wd} {z : Nat → Int32} (hR : RR V z) (hW : W 113 = z) (x7 : Int32) : ∀ (d n m : Nat) (b f : Int32), d ≤ en z → d < n → d < m → BL z (en z - d) b f → ∃ r, f_L_ahead_256 x5 n V x7 b f (nI (en z - d)) = f_L_ahead_396 x5 V x7 r ∧ f_X9_bestEntry_18 W x5 m b (nI (en z - d)) = some r := by
  have hF := FU_v
  obtain ⟨e5, h12, hs⟩ := hR.1.en
  have et : V 122 5 = nI (en z) := hR.2.2.2.2.2.2.2.trans e5
  have ew : W 113 5 = nI (en z) := by rw [hW]; exact e5
  intro d
  induction d with
  | zero =>
    intro n m b f hd hn hm hb
    obtain ⟨n, rfl⟩ : ∃ k, n = k + 1 := ⟨n - 1, by omega⟩
    obtain ⟨m, rfl⟩ : ∃ k, m = k + 1 := ⟨m - 1, by omega⟩
    refine ⟨b, ?_, ?_⟩
    · rw [f_L_ahead_256, tr5, et, if_pos (by rw [nJ_le (by omega) (by omega)]; omega)]
    · rw [f_X9_bestEntry_18, zr5, ew, if_pos (by rw [nJ_le (by omega) (by omega)]; omega)]
  | succ d ih =>
    intro n m b f hd hn hm hb
    obtain ⟨n, rfl⟩ : ∃ k, n = k + 1 := ⟨n - 1, by omega⟩
    obtain ⟨m, rfl⟩ : ∃ k, m = k + 1 := ⟨m - 1, by omega⟩
    obtain ⟨e, he⟩ : ∃ e, e = en z - (d + 1) := ⟨_, rfl⟩
    have he2 : e < en z := by omega
    obtain ⟨hcd, -⟩ := hs e he2
    obtain ⟨N, l, hN, hl1, hl4, hLD⟩ := CD_LD hcd
    obtain ⟨b1, b2⟩ := hR.2.2.2.2.1 e he2
    have next : ∀ b f, BL z (e + 1) b f → ∃ r, f_L_ahead_256 x5 n V x7 b f (nI (e + 1)) = f_L_ahead_396 x5 V x7 r ∧ f_X9_bestEntry_18 W x5 m b (nI (e + 1)) = some r := by
      intro b f hbb
      have h := ih n m b f (by omega) (by omega) (by omega) (by rw [show en z - d = e + 1 by omega]; exact hbb)
      rw [show en z - d = e + 1 by omega] at h
      exact h
    have keep : BL z (e + 1) b f := by
      rw [← he] at hb
      rcases hb with h | ⟨e', n', l', h1, h2⟩
      · exact Or.inl h
      · exact Or.inr ⟨e', n', l', by omega, h2⟩
    have new : BL z (e + 1) (nI e) (nI l) := Or.inr ⟨e, N, l, by omega, rfl, hN, hLD, hl1, hl4, rfl⟩
    obtain ⟨kv, hkv⟩ : ∃ kv, kv = kz (tk (zH z) (zF z) (zW z) (fst_ z 0) (z 1)) l N := ⟨_, rfl⟩
    have hkB : isB kv := by rw [hkv]; exact kz_B _ _ _
    have hkm : f_X9_isKnownAs W (nI e) = some kv := by
      unfold f_X9_isKnownAs
      rw [m_codeOf W (by omega), obs, hW, hN, hkv, ← hW]
      refine (m_kn_l (V := W) (by omega) hl1 hl4 hLD (by rw [hW]; exact hN) l 0 FU_ N 1 (by omega) (by omega) hLD (Or.inr rfl)).trans ?_
      rw [if_neg t10]
    have h296 : ∀ x : Int32, isB x → f_L_ahead_296 x5 (fun V1 a7 a8 a9 a10 => f_L_ahead_256 x5 n V1 a7 a8 a9 a10) FU_ V x7 b f (nI e) 0 x (nI N) = f_L_ahead_348 x5 (fun V1 a7 a8 a9 a10 => f_L_ahead_256 x5 n V1 a7 a8 a9 a10) V x7 b f (nI e) (nI l) (if x = 0 then 0 else kv) := fun x hx => by
      have h := l_a296 (x5 := x5) hR (fun V1 a7 a8 a9 a10 => f_L_ahead_256 x5 n V1 a7 a8 a9 a10) x7 b f (nI e) l 0 FU_ N x (by omega) (by omega) hLD hx
      rw [Nat.zero_add, ← hkv] at h
      exact h
    rw [← he, f_L_ahead_256, f_X9_bestEntry_18, tr5, et, zr5, ew, if_neg (by rw [nJ_le (by omega) (by omega)]; omega), if_neg (by rw [nJ_le (by omega) (by omega)]; omega), m_wordOf W (by omega), obs, rdb (n := 2 * e + 1) (i2_1 e) (by omega) (by omega), b2, rdb (n := 2 * e) (i2_0 e) (by omega) (by omega), rdb (n := 2 * e) (i2_0 e) (by omega) (by omega), b1, hN, hkm, obs, hW, h296 1 (Or.inr rfl), h296 0 (Or.inl rfl), if_neg t10, if_pos t00]
    by_cases q : zO z e = x5
    · rw [if_pos q, if_pos q]
      unfold f_X9_bestEntry_49 f_X9_bestEntry_50
      rw [if_pos t00, if_neg t10, n1]
      rcases hkB with e0 | e0
      · rw [e0, l_a348_0, if_pos t00, n1]
        exact next b f keep
      · rw [e0, l_a348_1, if_neg t10, n1]
        rw [← he] at hb
        rcases hb with ⟨hb1, hf1⟩ | ⟨e', n', l', h1, h2, h3, h4, h5, h6, h7⟩
        · rw [if_neg (by rw [hf1, L9, nJ_le (by omega) (by omega)]; omega), if_pos hb1]
          exact next _ _ new
        · rw [if_neg (show ¬ b = -6 by rw [h2]; exact nI_ne6 (by omega)), h2, m_codeOf W (by omega), m_codeOf W (by omega), obs, obs, hW, h3, hN, m_lengthOf h5 h6 h4, m_lengthOf hl1 hl4 hLD, ← h2, ← h7]
          by_cases q2 : f ≤ nI l
          · rw [if_pos q2, if_pos q2]
            exact next b f keep
          · rw [if_neg q2, if_neg q2]
            exact next _ _ new
    · rw [if_neg q, if_neg q]
      unfold f_X9_bestEntry_49 f_X9_bestEntry_50
      rw [if_pos t00, l_a348_0, n1]
      exact next b f keep
theorem JJ.m119 {V V' : Wd} {T : Nat} (h : JJ V T) (hM : RM V' (V 113)) (e : ∀ c, c ≠ 119 → V' c = V c) : JJ V' T := by
  obtain ⟨h1, h2, h3, h4, h5, h6, h7, h8⟩ := h
  refine ⟨Inv_fr h1 (fun c hc => e c (by omega)) (by rw [e 101 (by omega)]) (by rw [e 106 (by omega)]) (by rw [e 109 (by omega)]) (by rw [e 112 (by omega)]) (by rw [e 112 (by omega)]) (by rw [e 112 (by omega)]), ?_, ?_, ?_, ?_, ?_, ?_, h8⟩
  · rw [e 113 (by omega)]; exact h2
  · unfold RC at h3 ⊢; rw [e 113 (by omega), e 118 (by omega)]; exact h3
  · rw [e 113 (by omega)]; exact hM
  · unfold RB at h5 ⊢; rw [e 113 (by omega), e 120 (by omega)]; exact h5
  · rw [e 113 (by omega), e 122 (by omega)]; exact h6
  · unfold RLg at h7 ⊢; rw [e 113 (by omega), e 121 (by omega), e 122 (by omega)]; exact h7
theorem l_a396 {V V1 : Wd} {w : Nat} {x7 r : Int32} (a1 : f_X8_mendingExchange V = some (x7, V1)) (a2 : Ir V V1) (hw : w < 100) (hx : x5 = nI w) (hr : f_X9_bestEntry_18 V1 x5 FU_ (-6) 0 = some r) : f_L_ahead_396 x5 V x7 r = some (1, V1) := by
  obtain ⟨r', b1, b2⟩ := st_bestEntry V1 a2.1 x5
  have hin : f_X9_in x5 0 99 = 1 := by
    rw [hx]
    exact in_yes (nI_pos' (by omega)) (by rw [show (99 : Int32) = nI 99 from rfl, nJ_le (by omega) (by omega)]; omega)
  unfold f_X9_bestEntry at b2
  rw [hin, if_neg t10, hr] at b2
  cases b2
  unfold f_L_ahead_396
  rw [a1, obs]
  dsimp only
  rw [if_pos rfl, b1, obs, if_pos rfl]
theorem l_a141 {V : Wd} {T w : Nat} (hJ : JJ V T) (hw : w < 100) (hx : x5 = nI w) : ∃ V', JJ V' T ∧ f_L_ahead_141 x5 V = some (1, V') := by
  have hF := FU_v
  have hR := hJ.rr
  have h12 := hR.1.en.2.1
  have fin : ∀ (V2 : Wd) (x7 : Int32), RR V2 (V 113) → (∀ c, c ≠ 119 → V2 c = V c) → (x7 = if ag (ML (WM (V 113) 0) 0) (ML (WM (V 113) 1) 1) = 0 then fo_ (PQ (V 113)) 5 else 0) → ∃ V', JJ V' T ∧ f_L_ahead_256 x5 FU_ V2 x7 (-6) 9 0 = some (1, V') := by
    intro V2 x7 hR2 hf h7
    have hJ2 : JJ V2 T := hJ.m119 hR2.2.2.2.1 hf
    have e2 : V2 113 = V 113 := hf 113 (by omega)
    obtain ⟨V3, a1, a2⟩ := c_mending hJ2.1
    rw [e2, ← h7] at a1
    have e3 : V3 113 = V 113 := (a2.2 113 (by omega)).trans e2
    obtain ⟨r, g1, g2⟩ := l_a256 (x5 := x5) (W := V3) hR2 e3 x7 (en (V 113)) FU_ FU_ (-6) 9 (Nat.le_refl _) (by omega) (by omega) (Or.inl ⟨rfl, rfl⟩)
    rw [Nat.sub_self] at g1 g2
    refine ⟨V3, hJ2.ir a2, ?_⟩
    rw [show f_L_ahead_256 x5 FU_ V2 x7 (-6) 9 0 = _ from g1]
    exact l_a396 a1 a2 hw hx g2
  unfold f_L_ahead_141
  rw [l_same hR, obs]
  rcases ag_B (ML (WM (V 113) 0) 0) (ML (WM (V 113) 1) 1) with e | e
  · rw [e, if_pos t00]
    obtain ⟨V2, g1, g2, g3⟩ := l_a164 (x5 := x5) (V := V) (z := V 113) 25 FU_ V (-6) (by omega) (by omega) hR (fun _ _ => rfl) rfl
    rw [show (24 : Int32) = nI 25 - 1 by decide, g3]
    exact fin V2 _ g1 g2 (by rw [e, if_pos t00, hh_25])
  · obtain ⟨n, hn⟩ : ∃ n, FU_ = n + 1 := ⟨FU_ - 1, by omega⟩
    rw [e, if_neg t10]
    have h0 : f_L_ahead_164 x5 FU_ V 0 24 = f_L_ahead_256 x5 FU_ V 0 (-6) 9 0 := by
      have hq : ∀ n, f_L_ahead_164 x5 (n + 1) V 0 24 = f_L_ahead_256 x5 FU_ V 0 (-6) 9 0 := fun n => by
        rw [f_L_ahead_164, if_neg (by decide), if_pos t00]
      rw [← hq n, ← hn]
    rw [h0]
    exact fin V 0 hR (fun _ _ => rfl) (by rw [e, if_neg t10])
theorem l_ahead {V : Wd} {T w : Nat} (hJ : JJ V T) (hw : w < 100) (hx : x5 = nI w) : ∃ V', JJ V' T ∧ f_L_ahead V x5 = some (1, V') := by
  have hF := FU_v
  obtain ⟨V1, a1, a2⟩ := l_a9 (x5 := x5) 2 FU_ V hJ rfl (by omega) (by omega)
  obtain ⟨V2, b1, b2⟩ := l_a141 (x5 := x5) (hJ.ir a1) hw hx
  refine ⟨V2, b1, ?_⟩
  unfold f_L_ahead
  rw [tr1, hJ.2.2.2.2.2.1.2.1, show f_L_ahead_9 x5 FU_ V (V 113 1) 0 = _ from a2]
  exact b2
end AHEAD

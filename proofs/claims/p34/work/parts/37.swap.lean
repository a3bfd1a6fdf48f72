/-! Pure: exchange, enter. -/
def sq (f : Nat → Int32) (a b n : Nat) : Nat → Int32 := fun j =>
  if 4 * a ≤ j ∧ j < 4 * a + n then f (4 * b + (j - 4 * a)) else if 4 * b ≤ j ∧ j < 4 * b + n then f (4 * a + (j - 4 * b)) else f j
theorem sq_at (f : Nat → Int32) {a b h p : Nat} (ha : a < 5) (hb : b < 5) (hh : h < 5) (hp : p < 4) : sq f a b 4 (4 * h + p) = f (4 * sw a b h + p) := by
  unfold sq sw
  by_cases h1 : h = a
  · subst h1
    rw [if_pos ⟨by omega, by omega⟩, if_pos rfl]
    congr 1
    omega
  · have n1 : ¬(4 * a ≤ 4 * h + p ∧ 4 * h + p < 4 * a + 4) := by omega
    rw [if_neg n1, if_neg h1]
    by_cases h2 : h = b
    · subst h2
      rw [if_pos ⟨by omega, by omega⟩, if_pos rfl]
      congr 1
      omega
    · have n2 : ¬(4 * b ≤ 4 * h + p ∧ 4 * h + p < 4 * b + 4) := by omega
      rw [if_neg n2, if_neg h2]
theorem c_sw_l {a b : Nat} (ha : a < 5) (hb : b < 5) (hab : a ≠ b) (f : Nat → Int32) : ∀ (d n : Nat) (V : Wd), d ≤ 4 → d < n → V 7 = sq f a b (4 - d) → ∃ V', f_X3_swap_19 6 (nI a) (nI b) n V (nI (4 - d)) = some V' ∧ V' 7 = sq f a b 4 ∧ V' 8 = upd (upd (V 8) a (V 8 b)) b (V 8 a) ∧ ∀ c, c ≠ 7 → c ≠ 8 → V' c = V c := by
  intro d
  induction d with
  | zero =>
    intro n V hd hn hV
    obtain ⟨n, rfl⟩ : ∃ k, n = k + 1 := ⟨n - 1, by omega⟩
    rw [f_X3_swap_19, if_pos (by decide)]
    unfold f_X3_swap_74
    rw [rdb (n := a) rfl ha (by omega), rdb (n := b) rfl hb (by omega), st_n ha (by omega), st_n hb (by omega)]
    refine ⟨_, rfl, ?_, ?_, fun c h1 h2 => ?_⟩
    · rw [u2_ne (by omega), u2_ne (by omega)]; exact hV
    · rw [show (8 : Nat) = 6 + 2 from rfl, u2_at, u2_at]
    · rw [u2_ne (by omega), u2_ne (by omega)]
  | succ d ih =>
    intro n V hd hn hV
    obtain ⟨n, rfl⟩ : ∃ k, n = k + 1 := ⟨n - 1, by omega⟩
    obtain ⟨i, hi⟩ : ∃ i, i = 4 - (d + 1) := ⟨_, rfl⟩
    rw [f_X3_swap_19, ← hi, if_neg (by rw [L4, nJ_le (by omega) (by omega)]; omega)]
    have ea : nI a * 4 + nI i = nI (4 * a + i) := by simp only [L4, pk_mul, nI_add, Nat.mul_comm]
    have eb : nI b * 4 + nI i = nI (4 * b + i) := by simp only [L4, pk_mul, nI_add, Nat.mul_comm]
    rw [ea, eb, rdb (n := 4 * a + i) rfl (by omega) (by omega), rdb (n := 4 * b + i) rfl (by omega) (by omega), st_n (by omega) (by omega), st_n (by omega) (by omega), n1, show i + 1 = 4 - d by omega]
    obtain ⟨V', g1, g2, g3, g4⟩ := ih n (u2 (u2 V (6 + 1) (4 * a + i) (V (6 + 1) (4 * b + i))) (6 + 1) (4 * b + i) (V (6 + 1) (4 * a + i))) (by omega) (by omega) (by
      rw [show (7 : Nat) = 6 + 1 from rfl, u2_at, u2_at, show V (6 + 1) = V 7 from rfl, hV, ← hi, show 4 - d = i + 1 by omega]
      funext j
      unfold upd sq
      by_cases h1 : j = 4 * b + i
      · subst h1
        rw [if_pos rfl, if_neg (by omega), if_neg (by omega), if_neg (by omega), if_pos ⟨by omega, by omega⟩]
        congr 1
        omega
      · rw [if_neg h1]
        by_cases h2 : j = 4 * a + i
        · subst h2
          rw [if_pos rfl, if_neg (by omega), if_neg (by omega), if_pos ⟨by omega, by omega⟩]
          congr 1
          omega
        · rw [if_neg h2]
          by_cases h3 : 4 * a ≤ j ∧ j < 4 * a + i
          · rw [if_pos h3, if_pos ⟨h3.1, by omega⟩]
          · have n3 : ¬(4 * a ≤ j ∧ j < 4 * a + (i + 1)) := by omega
            rw [if_neg h3, if_neg n3]
            by_cases h4 : 4 * b ≤ j ∧ j < 4 * b + i
            · have h5 : 4 * b ≤ j ∧ j < 4 * b + (i + 1) := by omega
              rw [if_pos h4, if_pos h5]
            · have h5 : ¬(4 * b ≤ j ∧ j < 4 * b + (i + 1)) := by omega
              rw [if_neg h4, if_neg h5])
    refine ⟨V', g1, g2, ?_, fun c h1 h2 => by rw [g4 c h1 h2, u2_ne (by omega), u2_ne (by omega)]⟩
    rw [g3, u2_ne (by omega), u2_ne (by omega)]
theorem Z44 : (0 : Int32) = nI (4 - 4) := rfl
theorem c_swap {V : Wd} {z : Nat → Int32} {a b : Nat} (ha : a < 5) (hb : b < 5) (hab : a ≠ b) (hH : HS V 6 z) : ∃ V', f_X3_swap 6 V (nI a) (nI b) = some V' ∧ HS V' 6 (swz z a b) ∧ ∀ c, c ≠ 7 → c ≠ 8 → V' c = V c := by
  have hF := FU_v
  obtain ⟨V', g1, g2, g3, g4⟩ := c_sw_l ha hb hab (V 7) 4 FU_ V (by omega) (by omega) (by
    funext j
    unfold sq
    rw [if_neg (by omega), if_neg (by omega)])
  unfold f_X3_swap
  rw [bl_y (n := 5) (x := 5) rfl ha (by omega), if10, bl_y (n := 5) (x := 5) rfl hb (by omega), if10, Z44]
  refine ⟨V', g1, fun h hh => ?_, g4⟩
  have hs := sw_lt ha hb hh
  obtain ⟨k1, k2⟩ := hH _ hs
  rw [swz_S z a b hh]
  refine ⟨?_, fun p hp hq => ?_⟩
  · rw [k1, show V' (6 + 2) = V' 8 from rfl, g3, show V (6 + 2) = V 8 from rfl]
    unfold sw upd
    by_cases q1 : h = a
    · rw [if_pos q1]
      by_cases q2 : h = b
      · exact absurd (q1.symm.trans q2) hab
      · rw [if_neg q2, if_pos q1]
    · rw [if_neg q1]
      by_cases q2 : h = b
      · rw [if_pos q2, if_pos q2]
      · rw [if_neg q2, if_neg q2, if_neg q1]
  · rw [swz_G z a b hh hp, show V' (6 + 1) = V' 7 from rfl, g2, sq_at _ ha hb hh hp]
    exact k2 p hp hq
theorem cnA_swz {z : Nat → Int32} (hz : SZ z) {a b : Nat} (ha : a < 5) (hb : b < 5) (x : Int32) : cnA (swz z a b) x 5 = cnA z x 5 := by
  have ht : ∀ h, h < 5 → cnH (zG (swz z a b) h) x (zS (swz z a b) h).toNatClampNeg = cnH (zG z (sw a b h)) x (zS z (sw a b h)).toNatClampNeg := fun h hh => by
    rw [swz_S z a b hh]
    have h4 := (hz _ (sw_lt ha hb hh)).2
    unfold sn at h4
    exact cw_congr (fun p hp => by rw [swz_G z a b hh (by omega)])
  have e1 : ∀ y : Nat → Int32, cnA y x 5 = cnH (zG y 0) x (zS y 0).toNatClampNeg + cnH (zG y 1) x (zS y 1).toNatClampNeg + cnH (zG y 2) x (zS y 2).toNatClampNeg + cnH (zG y 3) x (zS y 3).toNatClampNeg + cnH (zG y 4) x (zS y 4).toNatClampNeg := fun y => by
    simp only [cnA, Nat.zero_add]
  rw [e1, e1, ht 0 (by omega), ht 1 (by omega), ht 2 (by omega), ht 3 (by omega), ht 4 (by omega)]
  generalize (fun h => cnH (zG z h) x (zS z h).toNatClampNeg) = t at *
  obtain ⟨t, ht⟩ : ∃ t : Nat → Nat, ∀ h, cnH (zG z h) x (zS z h).toNatClampNeg = t h := ⟨_, fun _ => rfl⟩
  simp only [ht]
  rcases (show a = 0 ∨ a = 1 ∨ a = 2 ∨ a = 3 ∨ a = 4 by omega) with rfl | rfl | rfl | rfl | rfl <;> rcases (show b = 0 ∨ b = 1 ∨ b = 2 ∨ b = 3 ∨ b = 4 by omega) with rfl | rfl | rfl | rfl | rfl <;> simp [sw] <;> omega
theorem st_exchange : S_exchange := by
  intro V hI a1 a2
  unfold f_X8_exchange f_X9_exchange f_X9_isHalyard
  have hv := hI.2.1
  have hsz := hv.vr.sz
  rcases in_n (n := 5) (by omega) a1 (by omega) with ⟨a, ha, rfl, h1, h2⟩ | ⟨h1, h2, -⟩
  · simp only [show f_X8_isBelow (nI a) 5 = 1 from h1, show f_X9_in (nI a) 0 4 = 1 from h2, if10]
    rcases in_n (n := 5) (by omega) a2 (by omega) with ⟨b, hb, rfl, k1, k2⟩ | ⟨k1, k2, -⟩
    · simp only [show f_X8_isBelow (nI b) 5 = 1 from k1, show f_X9_in (nI b) 0 4 = 1 from k2, if10]
      by_cases q : nI a = nI b
      · simp only [if_pos q]
        exact ⟨_, _, _, rfl, rfl, Iv.rf hI⟩
      · simp only [if_neg q]
        have hab : a ≠ b := fun e => q (by rw [e])
        obtain ⟨s', nx, V0, V1, hx, hc, g1, g2, g3⟩ := c_step hI
        have gH : HS V1 6 (upd (V 113) 4 0) := g3.2.2.1
        obtain ⟨V2, b1, b2, b3⟩ := c_swap ha hb hab gH
        rw [g1, obs, b1, obs, c_sizeOf (K := 6) b2 ha, obs, c_sizeOf (K := 6) b2 hb, obs]
        refine mk3 ?_
        obtain ⟨W0, W, m1, m2, m3, m4⟩ := m_step hx hc (V2 := V2) (fun c hc => by rw [b3 c (by omega) (by omega), g2 c (by omega)])
        obtain ⟨V3, d1, d2, d3⟩ := m_swaps ha hb hab W
        rw [m3] at d2
        rw [m1, obs, d1, obs, m_many V3 ha, obs, m_many V3 hb, obs, d2]
        refine ⟨V3, rfl, ?_⟩
        obtain ⟨i, pF, pH, pB, pL⟩ := g3
        have hv4 : VR (upd (V 113) 4 0) := VR_cong hv.vr (fun j h _ => pk_un (by omega))
        have hzo : ∀ j, j < 38 ∨ 63 ≤ j → swz (upd (V 113) 4 0) a b j = upd (V 113) 4 0 j := fun j hj => swz_out _ _ _ hj
        refine Inv_st hI hx hc g2 (V2 := V2) (z' := swz (upd (V 113) 4 0) a b) (fun c hc => b3 c (by omega) (by omega)) ⟨?_, FS_z (fun j h1 _ => hzo j (by omega)) (FS_fr (b3 _ (by omega) (by omega)) (b3 _ (by omega) (by omega)) (b3 _ (by omega) (by omega)) pF), b2, BS_z (hzo 5 (by omega)) (fun j h _ => hzo j (by omega)) (BS_fr (by rw [b3 _ (by omega) (by omega)]) (b3 _ (by omega) (by omega)) (b3 _ (by omega) (by omega)) pB), LGS_z (hzo 6 (by omega)) (hzo 7 (by omega)) (fun j h => hzo j (by omega)) (LGS_fr (by rw [b3 _ (by omega) (by omega)]) (by rw [b3 _ (by omega) (by omega)]) (b3 _ (by omega) (by omega)) (b3 _ (by omega) (by omega)) pL)⟩ m2 m4 (fun c hc => d3 c hc) d2 (VZ_mk ?_ ?_ (Vb_z ?_ (fun j h _ => ?_) hv.b) (Vl_z ?_ (fun j h => ?_) hv.l) (VR_swz hv4 ha hb).2 (fun x hx => ?_))
        · rw [hzo 0 (by omega), hzo 1 (by omega), hzo 2 (by omega), hzo 3 (by omega), hzo 4 (by omega), b3 1 (by omega) (by omega)]
          exact i
        · rw [hzo 3 (by omega), pk_un (by omega)]; exact hv.1
        · rw [hzo 4 (by omega), pk_us]
        · rw [hzo 5 (by omega), pk_un (by omega)]
        · rw [hzo j (by omega), pk_un (by omega)]
        · rw [hzo 6 (by omega), pk_un (by omega)]
        · rw [hzo j (by omega), pk_un (by omega)]
        · rw [cnA_swz hv4.sz ha hb, hzo 0 (by omega)]
          exact Vc_z hsz (pk_un (by omega)) (fun j h _ => pk_un (by omega)) hv.c x hx
    · simp only [show f_X8_isBelow a2 5 = 0 from k1, show f_X9_in a2 0 4 = 0 from k2, if00]
      exact ⟨_, _, _, rfl, rfl, Iv.rf hI⟩
  · simp only [show f_X8_isBelow a1 5 = 0 from h1, show f_X9_in a1 0 4 = 0 from h2, if00]
    exact ⟨_, _, _, rfl, rfl, Iv.rf hI⟩
-- enter
theorem c_fn_s (x : Int32) (n : Nat) (a b c : Int32) (hc : ¬ 4 < c) (hb : ∀ x : Int32, 2 * a ≤ x ↔ b < x) : f_X8_isFlagsNumber_5 x (n + 1) a c = if f_X9_in x a b = 0 then f_X8_isFlagsNumber_5 x n (a * 10) (c + 1) else some 1 := by
  rw [f_X8_isFlagsNumber_5, if_neg hc, lib_]
  unfold f_X9_in
  by_cases h1 : x < a
  · rw [if_pos h1, if_pos h1, if00]
  · rw [if_neg h1, if_neg h1]
    by_cases h2 : b < x
    · rw [if_pos ((hb x).mpr h2), if_pos h2, if00]
    · rw [if_neg (fun h => h2 ((hb x).mp h)), if_neg h2, if10]
theorem tw (a b : Int32) (k : Int) (h1 : (2 * a).toInt = k + 1) (h2 : b.toInt = k) : ∀ x : Int32, 2 * a ≤ x ↔ b < x := fun x => by
  rw [I_le, I_lt, h1, h2]
  omega
theorem c_fnum (x : Int32) : f_X8_isFlagsNumber x = some (f_X9_isCode x) := by
  unfold f_X8_isFlagsNumber f_X9_isCode
  have hF := FU_v
  obtain ⟨n, hn⟩ : ∃ n, FU_ = n + 5 := ⟨FU_ - 5, by omega⟩
  rw [hn, c_fn_s x (n + 4) 10 19 1 (by decide) (tw _ _ 19 (by decide) (by decide))]
  by_cases h1 : f_X9_in x 10 19 = 0
  · rw [if_pos h1, if_pos h1, show (10 : Int32) * 10 = 100 from by decide, show (1 : Int32) + 1 = 2 from by decide, c_fn_s x (n + 3) 100 199 2 (by decide) (tw _ _ 199 (by decide) (by decide))]
    by_cases h2 : f_X9_in x 100 199 = 0
    · rw [if_pos h2, if_pos h2, show (100 : Int32) * 10 = 1000 from by decide, show (2 : Int32) + 1 = 3 from by decide, c_fn_s x (n + 2) 1000 1999 3 (by decide) (tw _ _ 1999 (by decide) (by decide))]
      by_cases h3 : f_X9_in x 1000 1999 = 0
      · rw [if_pos h3, if_pos h3, show (1000 : Int32) * 10 = 10000 from by decide, show (3 : Int32) + 1 = 4 from by decide, c_fn_s x (n + 1) 10000 19999 4 (by decide) (tw _ _ 19999 (by decide) (by decide))]
        by_cases h4 : f_X9_in x 10000 19999 = 0
        · rw [if_pos h4, if_pos h4, f_X8_isFlagsNumber_5, if_pos (by decide)]
        · rw [if_neg h4, if_neg h4]
      · rw [if_neg h3, if_neg h3]
    · rw [if_neg h2, if_neg h2]
  · rw [if_neg h1, if_neg h1]
theorem in_nat {x : Int32} {a b : Nat} (ha : a < 50000) (hb : b < 50000) (h : ¬ f_X9_in x (nI a) (nI b) = 0) : ∃ n, x = nI n ∧ a ≤ n ∧ n ≤ b := by
  unfold f_X9_in at h
  by_cases h1 : x < nI a
  · rw [if_pos h1] at h; exact absurd rfl h
  · rw [if_neg h1] at h
    by_cases h2 : nI b < x
    · rw [if_pos h2] at h; exact absurd rfl h
    · have e1 := nJ_tI (n := a) (by omega)
      have e2 := nJ_tI (n := b) (by omega)
      rw [I_lt] at h1 h2
      rcases tri x (n := b + 1) (by omega) with ⟨j, hj, rfl⟩ | h3
      · have e3 := nJ_tI (n := j) (by omega)
        exact ⟨j, rfl, by omega, by omega⟩
      · have e4 := nJ_tI (n := b + 1) (by omega)
        rw [I_lt, I_le, show (0 : Int32).toInt = 0 from rfl] at h3
        omega
theorem code_CD {x : Int32} (h : ¬ f_X9_isCode x = 0) : CD x := by
  unfold f_X9_isCode at h
  by_cases h1 : f_X9_in x 10 19 = 0
  · rw [if_pos h1] at h
    by_cases h2 : f_X9_in x 100 199 = 0
    · rw [if_pos h2] at h
      by_cases h3 : f_X9_in x 1000 1999 = 0
      · rw [if_pos h3] at h
        by_cases h4 : f_X9_in x 10000 19999 = 0
        · rw [if_pos h4] at h; exact absurd rfl h
        · obtain ⟨n, e, w1, w2⟩ := in_nat (a := 10000) (b := 19999) (by omega) (by omega) h4
          exact ⟨n, e, by omega⟩
      · obtain ⟨n, e, w1, w2⟩ := in_nat (a := 1000) (b := 1999) (by omega) (by omega) h3
        exact ⟨n, e, by omega⟩
    · obtain ⟨n, e, w1, w2⟩ := in_nat (a := 100) (b := 199) (by omega) (by omega) h2
      exact ⟨n, e, by omega⟩
  · obtain ⟨n, e, w1, w2⟩ := in_nat (a := 10) (b := 19) (by omega) (by omega) h1
    exact ⟨n, e, by omega⟩

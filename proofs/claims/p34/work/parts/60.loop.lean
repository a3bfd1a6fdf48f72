/-! Pure: the law's loop over its 64 choices, its start. -/
section CH
variable {xs : Nat → Int32} {L : Nat} {V : Wd} {T e : Nat}
theorem k_1231 {K : Wd → Int32 → Option (Int32 × Wd)} (hJ : JJ V T) (he : e < 64) (hT : T < 500) (g : Int32) {kd_ : Nat} (hk : kd_ < 22) : NX K e T (f_L_law_1231 xs L K V (nI e) g (nI kd_) 1) := by
  obtain ⟨s, hs, es⟩ := l_low (g >>> (8 &&& 31)) (n := 2) (by omega) (by omega)
  unfold f_L_law_1231
  rw [show f_L_low (g >>> (8 &&& 31)) 2 = some (nI s) from es, obs, obs]
  by_cases q17 : nI kd_ = 17
  · rw [if_pos q17]
    exact k_sail hJ he hs
  · rw [if_neg q17]
    by_cases q18 : nI kd_ = 18
    · rw [if_pos q18]
      by_cases q0 : nI s = 0
      · rw [if_pos q0, tr4, hJ.2.2.2.2.2.1.2.2.2.2.1]
        by_cases q4 : V 113 4 = 2
        · rw [if_pos q4, l_hoists hJ.rr, obs]
          exact k_low2 hJ he hT q4
        · rw [if_neg q4]
          exact k_low0 hJ he q4
      · rw [if_neg q0]
        exact k_answer hJ he
    · rw [if_neg q18]
      exact k_answer hJ he
theorem k_choice (hJ : JJ V T) (he : e < 64) (hT : T < 500) (n : Nat) : NX (fun V1 a7 => f_L_law_126 xs L n V1 a7) e T (f_L_law_126 xs L (n + 1) V (nI e)) := by
  rw [f_L_law_126, if_neg (by rw [show (64 : Int32) = nI 64 from rfl, nJ_le (by omega) (by omega)]; omega), if_neg (nI_pos (by omega)), lib_]
  generalize cl_ xs L (nI e) = g
  obtain ⟨k, hk, ek⟩ := l_low g (n := 22) (by omega) (by omega)
  obtain ⟨h, hh, eh⟩ := l_low (g >>> (5 &&& 31)) (n := 5) (by omega) (by omega)
  have h4 := (hJ.1.2.1.vr.sn hh).2.1
  rw [show f_L_low g 22 = some (nI k) from ek, obs, show f_L_low (g >>> (5 &&& 31)) 5 = some (nI h) from eh, obs, l_many hJ.rr hh, obs]
  by_cases q2 : 2 ≤ k
  · rw [if_pos (by rw [L2, nJ_le (by omega) (by omega)]; exact q2)]
    by_cases p2 : k = 2
    · obtain ⟨a, ha, ea⟩ := l_low (g >>> (8 &&& 31)) (n := 3) (by omega) (by omega)
      rw [if_pos (by rw [p2]; rfl), show f_L_low (g >>> (8 &&& 31)) 3 = some (nI a) from ea, obs, show (1 : Int32) + nI a = nI (1 + a) by rw [L1, nI_add], lib_]
      exact k_setStock hJ he ha
    · rw [if_neg (by rw [L2, nJ_eq (by omega) (by omega)]; exact p2)]
      by_cases q5 : 5 ≤ k
      · rw [if_pos (by rw [L5, nJ_le (by omega) (by omega)]; exact q5)]
        by_cases q10 : 10 ≤ k
        · rw [if_pos (by rw [L10, nJ_le (by omega) (by omega)]; exact q10)]
          by_cases p10 : k = 10
          · have hu := k_unbend (xs := xs) (L := L) (K := fun V1 a7 => f_L_law_126 xs L n V1 a7) hJ he hh
            rw [if_pos (by rw [p10]; rfl)]
            by_cases q0 : sn (V 113) h = 0
            · rw [if_pos q0] at hu
              rw [if_pos (by rw [q0]; decide)]
              exact hu
            · rw [if_neg q0] at hu
              rw [if_neg (by rw [show (0 : Int32) = nI 0 from rfl, nJ_le (by omega) (by omega)]; omega)]
              exact hu
          · rw [if_neg (by rw [L10, nJ_eq (by omega) (by omega)]; exact p10)]
            by_cases p11 : k = 11
            · obtain ⟨a, ha, ea⟩ := l_low (g >>> (8 &&& 31)) (n := 5) (by omega) (by omega)
              have hu := k_exchange (xs := xs) (L := L) (K := fun V1 a7 => f_L_law_126 xs L n V1 a7) hJ he hh ha
              rw [if_pos (by rw [p11]; rfl), show f_L_low (g >>> (8 &&& 31)) 5 = some (nI a) from ea, obs]
              by_cases q0 : a = h
              · rw [if_pos q0] at hu
                rw [if_pos (by rw [q0])]
                exact hu
              · rw [if_neg q0] at hu
                rw [if_neg (by rw [nJ_eq (by omega) (by omega)]; exact q0)]
                exact hu
            · rw [if_neg (by rw [L11, nJ_eq (by omega) (by omega)]; exact p11)]
              by_cases q16 : 16 ≤ k
              · rw [if_pos (by rw [show (16 : Int32) = nI 16 from rfl, nJ_le (by omega) (by omega)]; exact q16)]
                by_cases p16 : k = 16
                · obtain ⟨e5, h12, -⟩ := hJ.1.2.1.vr.en
                  have t5 : V 122 5 = nI (en (V 113)) := by rw [hJ.2.2.2.2.2.1.2.2.2.2.2, e5]
                  rw [if_pos (by rw [p16]; rfl), tr5, t5]
                  by_cases q0 : en (V 113) = 0
                  · rw [if_pos (by rw [q0]; decide)]
                    exact k_1231 hJ he hT g hk
                  · obtain ⟨s, hs, es⟩ := l_low (g >>> (8 &&& 31)) (n := en (V 113)) (by omega) (by omega)
                    rw [if_neg (by rw [show (0 : Int32) = nI 0 from rfl, nJ_le (by omega) (by omega)]; omega), tr5, t5, es, obs]
                    exact k_strike hJ he hs
                · rw [if_neg (by rw [show (16 : Int32) = nI 16 from rfl, nJ_eq (by omega) (by omega)]; exact p16)]
                  exact k_1231 hJ he hT g hk
              · obtain ⟨s, hs, es⟩ := l_low (g >>> (8 &&& 31)) (n := 2) (by omega) (by omega)
                rw [if_neg (by rw [show (16 : Int32) = nI 16 from rfl, nJ_le (by omega) (by omega)]; exact q16), show f_L_low (g >>> (8 &&& 31)) 2 = some (nI s) from es, obs]
                exact k_enter hJ he hh hs g
        · obtain ⟨a, ha, ea⟩ := l_low (g >>> (8 &&& 31)) (n := 4) (by omega) (by omega)
          rw [if_neg (by rw [L10, nJ_le (by omega) (by omega)]; exact q10), show f_L_low (g >>> (8 &&& 31)) 4 = some (nI a) from ea, obs]
          by_cases q0 : nI a = 0
          · obtain ⟨b, hb, eb⟩ := l_low (g >>> (10 &&& 31)) (n := 3) (by omega) (by omega)
            rw [if_pos q0, show f_L_low (g >>> (10 &&& 31)) 3 = some (nI b) from eb, obs, L11, nI_add]
            exact k_bend hJ he hh (Or.inr (by omega))
          · obtain ⟨b, hb, eb⟩ := l_low (g >>> (12 &&& 31)) (n := 10) (by omega) (by omega)
            rw [if_neg q0, show f_L_low (g >>> (12 &&& 31)) 10 = some (nI b) from eb, obs]
            exact k_bend hJ he hh (Or.inl hb)
      · obtain ⟨a, ha, ea⟩ := l_low (g >>> (8 &&& 31)) (n := 10) (by omega) (by omega)
        obtain ⟨b, hb, eb⟩ := l_low (g >>> (12 &&& 31)) (n := 2) (by omega) (by omega)
        rw [if_neg (by rw [L5, nJ_le (by omega) (by omega)]; exact q5), show f_L_low (g >>> (8 &&& 31)) 10 = some (nI a) from ea, obs, show f_L_low (g >>> (12 &&& 31)) 2 = some (nI b) from eb, obs]
        exact k_setWind hJ he ha hb
  · obtain ⟨f, hf, ef⟩ := l_low (g >>> (8 &&& 31)) (n := 10) (by omega) (by omega)
    obtain ⟨b, hb, eb⟩ := l_low (g >>> (25 &&& 31)) (n := 2) (by omega) (by omega)
    rw [if_neg (by rw [L2, nJ_le (by omega) (by omega)]; exact q2), show f_L_low (g >>> (8 &&& 31)) 10 = some (nI f) from ef, obs, show f_L_low (g >>> (25 &&& 31)) 2 = some (nI b) from eb, obs]
    by_cases q0 : nI b = 0
    · rw [if_pos q0]
      exact k_paint (m := 8) hJ he hf (by omega) (by omega) g
    · rw [if_neg q0]
      exact k_paint (m := 2) hJ he hf (by omega) (by omega) g
theorem law_64 : ∀ (d n : Nat) (V : Wd) (T : Nat), d ≤ 64 → d < n → T ≤ 64 - d → JJ V T → ∃ z : Int32 × Wd, z.1 = 1 ∧ f_L_law_126 xs L n V (nI (64 - d)) = some z := by
  intro d
  induction d with
  | zero =>
    intro n V T hd hn hT hJ
    obtain ⟨n, rfl⟩ : ∃ k, n = k + 1 := ⟨n - 1, by omega⟩
    refine ⟨(1, V), rfl, ?_⟩
    rw [f_L_law_126, if_pos (by decide)]
  | succ d ih =>
    intro n V T hd hn hT hJ
    obtain ⟨n, rfl⟩ : ∃ k, n = k + 1 := ⟨n - 1, by omega⟩
    obtain ⟨V', T', h1, h2, h3⟩ := k_choice (xs := xs) (L := L) (e := 64 - (d + 1)) hJ (by omega) (by omega) n
    obtain ⟨z, g1, g2⟩ := ih n V' T' (by omega) (by omega) (by omega) h2
    refine ⟨z, g1, ?_⟩
    rw [h3, show 64 - (d + 1) + 1 = 64 - d by omega]
    exact g2
def cin (j : Nat) : Int32 := if j % 3 = 0 then nI (j / 3 % 8) else if j % 3 = 1 then nI ((3 * (j / 3) + 1) % 8) else nI (j / 3 / 2)
theorem law_49 : ∀ (d n : Nat) (V : Wd), d ≤ 10 → d < n → ∃ V', f_L_law_49 xs L n V (nI (10 - d)) = f_L_law_105 xs L FU_ V' 0 ∧ (∀ j, V' 118 j = if 3 * (10 - d) ≤ j ∧ j < 30 then cin j else V 118 j) ∧ ∀ c, c ≠ 118 → V' c = V c := by
  intro d
  induction d with
  | zero =>
    intro n V hd hn
    obtain ⟨n, rfl⟩ : ∃ k, n = k + 1 := ⟨n - 1, by omega⟩
    refine ⟨V, ?_, fun j => by rw [if_neg (by omega)], fun _ _ => rfl⟩
    rw [f_L_law_49, if_pos (by decide)]
  | succ d ih =>
    intro n V hd hn
    obtain ⟨n, rfl⟩ : ∃ k, n = k + 1 := ⟨n - 1, by omega⟩
    obtain ⟨f, hf⟩ : ∃ f, f = 10 - (d + 1) := ⟨_, rfl⟩
    have a8 : nI f - nI f / 8 * 8 = nI (f % 8) := pk_rem (d := 8) (by omega) (by decide) (by decide)
    have b8 : nI (3 * f + 1) - nI (3 * f + 1) / 8 * 8 = nI ((3 * f + 1) % 8) := pk_rem (d := 8) (by omega) (by decide) (by decide)
    have c2 : nI f / 2 = nI (f / 2) := pk_div (d := 2) (by omega) (by decide) (by decide)
    obtain ⟨V', g1, g2, g3⟩ := ih n (u2 (u2 (u2 V 118 (3 * f) (nI (f % 8))) 118 (3 * f + 1) (nI ((3 * f + 1) % 8))) 118 (3 * f + 2) (nI (f / 2))) (by omega) (by omega)
    refine ⟨V', ?_, fun j => ?_, fun c hc => by rw [g3 c hc, u2_ne hc, u2_ne hc, u2_ne hc]⟩
    · rw [f_L_law_49, ← hf, if_neg (by rw [L10, nJ_le (by omega) (by omega)]; omega), i3_1, i3_2, i3_0, st_n (by omega) (by omega), st_n (by omega) (by omega), st_n (by omega) (by omega), a8, b8, c2, n1, show f + 1 = 10 - d by omega]
      exact g1
    · rw [g2 j]
      by_cases q : 3 * (10 - d) ≤ j ∧ j < 30
      · rw [if_pos q, if_pos (by omega)]
      · rw [if_neg q]
        by_cases q0 : j = 3 * f
        · subst q0
          rw [if_pos (by omega), u2_n (Or.inr (by omega)), u2_n (Or.inr (by omega)), u2_s]
          unfold cin
          rw [if_pos (by omega), show 3 * f / 3 = f by omega]
        · by_cases q1 : j = 3 * f + 1
          · subst q1
            rw [if_pos (by omega), u2_n (Or.inr (by omega)), u2_s]
            unfold cin
            rw [if_neg (by omega), if_pos (by omega), show (3 * f + 1) / 3 = f by omega]
          · by_cases q2 : j = 3 * f + 2
            · subst q2
              rw [if_pos (by omega), u2_s]
              unfold cin
              rw [if_neg (by omega), if_neg (by omega), show (3 * f + 2) / 3 = f by omega]
            · rw [if_neg (by omega), u2_n (Or.inr q2), u2_n (Or.inr q1), u2_n (Or.inr q0)]
theorem law_105 : ∀ (d n : Nat) (V : Wd), d ≤ 20 → d < n → ∃ V', f_L_law_105 xs L n V (nI (20 - d)) = f_L_law_126 xs L FU_ V' 0 ∧ (∀ j, V' 119 j = if 20 - d ≤ j ∧ j < 20 then -1 else V 119 j) ∧ ∀ c, c ≠ 119 → V' c = V c := by
  intro d
  induction d with
  | zero =>
    intro n V hd hn
    obtain ⟨n, rfl⟩ : ∃ k, n = k + 1 := ⟨n - 1, by omega⟩
    refine ⟨V, ?_, fun j => by rw [if_neg (by omega)], fun _ _ => rfl⟩
    rw [f_L_law_105, if_pos (by decide)]
  | succ d ih =>
    intro n V hd hn
    obtain ⟨n, rfl⟩ : ∃ k, n = k + 1 := ⟨n - 1, by omega⟩
    obtain ⟨i, hi⟩ : ∃ i, i = 20 - (d + 1) := ⟨_, rfl⟩
    obtain ⟨V', g1, g2, g3⟩ := ih n (u2 V 119 i (-1)) (by omega) (by omega)
    refine ⟨V', ?_, fun j => ?_, fun c hc => by rw [g3 c hc, u2_ne hc]⟩
    · rw [f_L_law_105, ← hi, if_neg (by rw [L20, nJ_le (by omega) (by omega)]; omega), st_n (by omega) (by omega), n1, show i + 1 = 20 - d by omega]
      exact g1
    · rw [g2 j]
      by_cases q : j = i
      · subst q
        rw [if_neg (by omega), u2_s, if_pos (by omega)]
      · by_cases q2 : 20 - d ≤ j ∧ j < 20
        · rw [if_pos q2, if_pos (by omega)]
        · rw [if_neg q2, if_neg (by omega), u2_n (Or.inr q)]
end CH
theorem ini_c : ∀ j, j < 30 → cin j = iniZ (8 + j) := by decide +kernel
theorem ini_v : ∀ f, f < 10 → zH iniZ f = nI (f % 8) ∧ zF iniZ f = nI ((3 * f + 1) % 8) ∧ zW iniZ f = nI (f / 2) := by decide +kernel
theorem ini_s : ∀ h, h < 5 → iniZ (38 + 5 * h) = 0 := by decide +kernel
theorem ini_n : iniZ 0 = 1 ∧ iniZ 1 = 5 ∧ iniZ 2 = 0 ∧ iniZ 3 = 0 ∧ iniZ 4 = 0 ∧ iniZ 5 = 0 ∧ iniZ 6 = 0 ∧ iniZ 7 = 0 := by decide +kernel
theorem law_true : ∀ (xs : Nat → Int32) (L : Nat), L ≤ 260 → ∃ z : Int32 × Wd, z.1 = 1 ∧ f_L_law xs L V0 = some z := by
  intro xs L hL
  have hF := FU_v
  have e113 : V0 113 = iniZ := rfl
  have e122 : ∀ j, V0 122 j = 0 := fun _ => rfl
  obtain ⟨n0, n1', n2, n3, n4, n5, n6, n7⟩ := ini_n
  obtain ⟨Va, a1, a2, a3⟩ := law_49 (xs := xs) (L := L) 10 FU_ (u2 (u2 V0 122 0 1) 122 1 5) (by omega) (by omega)
  obtain ⟨Vb, b1, b2, b3⟩ := law_105 (xs := xs) (L := L) 20 FU_ Va (by omega) (by omega)
  rw [Nat.sub_self] at a1 a2 b1 b2
  have k : ∀ c, c ≠ 118 → c ≠ 119 → c ≠ 122 → Vb c = V0 c := fun c h1 h2 h3 => by rw [b3 c h2, a3 c h1, u2_ne h3, u2_ne h3]
  have t : ∀ j, Vb 122 j = u2 (u2 V0 122 0 1) 122 1 5 122 j := fun j => by rw [b3 122 (by omega), a3 122 (by omega)]
  have z : Vb 113 = iniZ := (k 113 (by omega) (by omega) (by omega)).trans e113
  have ho : ∀ j, j ≠ 0 → j ≠ 1 → Vb 122 j = 0 := fun j h0 h1 => by rw [t, u2_n (Or.inr h1), u2_n (Or.inr h0), e122]
  have hJ : JJ Vb 0 := by
    refine ⟨Inv_law inv0 (fun c hc => k c (by omega) (by omega) (by omega)), ?_, ?_, ?_, ?_, ?_, ?_, by omega⟩ <;> rw [z]
    · refine ⟨fun f hf => ?_, Or.inl n2⟩
      obtain ⟨h1, h2, h3⟩ := ini_v f hf
      exact ⟨f % 8, (3 * f + 1) % 8, f / 2, by omega, by omega, by omega, h1, h2, h3⟩
    · intro j hj
      rw [b3 118 (by omega), a2 j, if_pos (by omega), ini_c j hj]
    · exact RM_0 ini_s (fun j hj => by rw [b2 j, if_pos (by omega)])
    · intro j hj
      rw [show en iniZ = 0 from enE (n := 0) n5 (by omega)] at hj
      exact absurd hj (Nat.not_lt_zero _)
    · refine ⟨?_, ?_, ?_, ?_, ?_, ?_⟩
      · rw [t, u2_n (Or.inr (by omega)), u2_s, n0]
      · rw [t, u2_s, n1']
      · rw [ho 2 (by omega) (by omega), n2]
      · rw [ho 3 (by omega) (by omega), n3]
      · rw [ho 4 (by omega) (by omega), n4]
      · rw [ho 5 (by omega) (by omega), n5]
    · exact ⟨ho 6 (by omega) (by omega), n7, n6, fun m hm => absurd hm (Nat.not_lt_zero _)⟩
  obtain ⟨y, g1, g2⟩ := law_64 (xs := xs) (L := L) 64 FU_ Vb 0 (by omega) (by omega) (by omega) hJ
  refine ⟨y, g1, ?_⟩
  unfold f_L_law
  rw [ts0, ts1, show f_L_law_49 xs L FU_ (u2 (u2 V0 122 0 1) 122 1 5) 0 = _ from a1, show f_L_law_105 xs L FU_ Va 0 = _ from b1]
  exact g2

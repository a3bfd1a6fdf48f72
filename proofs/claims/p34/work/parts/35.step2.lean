/-! Pure: setStock, setWind, sail, answer. -/
theorem c_stepR {V : Wd} (hI : Inv V) : ∃ s nx V0, HX V s nx ∧ CRec V V0 s nx (V 113) ∧ f_X2_record 1 V = some V0 ∧ RS V0 1 (V 113) := by
  obtain ⟨g1, g2, g3, ⟨s, nx, hx⟩, g5⟩ := hI
  obtain ⟨hs, hn, e1, e2, e3, -⟩ := id hx
  obtain ⟨V0, a1, a2⟩ := c_record hs hn e1 e3 g1
  exact ⟨s, nx, V0, hx, a2, a1, RS_frame (fun c h1 h2 => a2.1 c (by omega)) g1⟩
theorem m_stepR {V V0 V2 : Wd} {s nx : Nat} (hx : HX V s nx) (hc : CRec V V0 s nx (V 113)) (he : ∀ c, 111 < c → V2 c = V0 c) : ∃ W, f_X9_record V2 = some W ∧ MRec V2 W s (V 113) ∧ W 113 = V 113 := by
  obtain ⟨hs, hn, e1, e2, e3, -⟩ := id hx
  obtain ⟨W, a1, a2⟩ := m_record (V := V2) hs (by rw [he 112 (by omega), hc.1 112 (by omega)]; exact e2)
  have e113 : V2 113 = V 113 := by rw [he 113 (by omega), hc.1 113 (by omega)]
  rw [e113] at a2
  exact ⟨W, a1, a2, by rw [a2.1 113 (by omega) (by omega), e113]⟩
theorem st_setStock : S_setStock := by
  intro V hI a1
  unfold f_X8_setStock f_X9_setStock
  have hv := hI.2.1
  have hsz := hv.vr.sz
  have hH : HS V 6 (V 113) := hI.1.2.2.1
  by_cases q1 : a1 < 1
  · simp only [if_pos q1, in_no (Or.inl q1 : a1 < 1 ∨ 3 < a1), if00]
    exact ⟨_, _, _, rfl, rfl, Iv.rf hI⟩
  · by_cases q3 : a1 ≤ 3
    · simp only [if_neg q1, if_pos q3, in_yes (nlt_le.mp q1) q3, if10]
      rw [c_most (K := 6) hH hsz, obs]
      by_cases q4 : mx (V 113) 14 ≤ a1
      · rw [if_pos q4]
        obtain ⟨s, nx, V0, hx, hc, g1, g3⟩ := c_stepR hI
        rw [g1, obs, lib_, lib_]
        refine mk3 ?_
        obtain ⟨V2, hV2⟩ : ∃ V2, u2 V0 1 4 a1 = V2 := ⟨_, rfl⟩
        rw [hV2]
        have hfr : ∀ c, c ≠ 1 → V2 c = V0 c := fun c hc => by rw [← hV2, u2_ne hc]
        have e113 : V2 113 = V 113 := by rw [hfr 113 (by omega), hc.1 113 (by omega)]
        obtain ⟨W, m1, m2, m3⟩ := m_stepR hx hc (V2 := V2) (fun c hc => hfr c (by omega))
        rw [m_mostUsed (V := V2) (by rw [e113]; exact hsz), obs, e113, if_pos q4, m1, obs, zr0, zs0, m3]
        obtain ⟨i0, i1, i2, i3, i4⟩ := g3.1
        refine ⟨_, by rw [i0], ?_⟩
        refine Iv_rec hI hx hc (V2 := V2) (z' := upd (V 113) 0 a1) (fun c hc _ => hfr c (by omega)) (by rw [hfr 106 (by omega)]) (by rw [hfr 109 (by omega)]) (RS_S g3 (fun c h1 h2 => hfr c (by omega)) (fun j hj => pk_un (by omega)) ⟨?_, ?_, ?_, ?_, ?_⟩) m2 (fun c hc => u2_ne hc) (by rw [u2_at, m3]) ⟨?_, ⟨?_, ?_⟩, Vb_z (pk_un (by omega)) (fun j h _ => pk_un (by omega)) hv.b, Vl_z (pk_un (by omega)) (fun j h => pk_un (by omega)) hv.l, Vh_z (fun j h _ => pk_un (by omega)) hv.h, fun x hx => ?_⟩
        · rw [pk_us, ← hV2, u2_s]
        · rw [pk_un (by omega), ← hV2, u2_n (Or.inr (by omega))]; exact i1
        · rw [pk_un (by omega), ← hV2, u2_n (Or.inr (by omega))]; exact i2
        · rw [pk_un (by omega), ← hV2, u2_n (Or.inr (by omega))]; exact i3
        · rw [pk_un (by omega), ← hV2, u2_n (Or.inr (by omega))]; exact i4
        · rw [pk_un (by omega)]; exact hv.1
        · rw [pk_un (by omega)]; exact hv.2.1.1
        · intro h4
          rw [pk_un (by omega)] at h4
          obtain ⟨h, hh, e⟩ := hv.2.1.2 h4
          refine ⟨h, hh, ?_⟩
          show upd (V 113) 0 a1 (38 + 5 * h) ≠ 0
          rw [pk_un (by omega)]
          exact e
        · rw [pk_us, cnA_z hsz (fun j h _ => pk_un (by omega))]
          exact ((mx_le a1 14).mp q4).2 x (by omega)
      · rw [if_neg q4]
        refine mk3 ?_
        rw [m_mostUsed (V := V) hsz, obs, if_neg q4]
        exact ⟨_, rfl, Iv.rf hI⟩
    · have q3' : 3 < a1 := nle_lt.mp q3
      simp only [if_neg q1, if_neg q3, in_no (Or.inr q3' : a1 < 1 ∨ 3 < a1), if00]
      exact ⟨_, _, _, rfl, rfl, Iv.rf hI⟩
theorem st_setWind : S_setWind := by
  intro V hI a1 a2
  have hv := hI.2.1
  have hsz := hv.vr.sz
  unfold f_X8_setWind f_X9_setWind f_X9_isSide
  rcases in_n (n := 10) (by decide) a1 (by decide) with ⟨f, hf, -, h1, h2⟩ | ⟨h1, h2, -⟩
  · simp only [show f_X8_isBelow a1 10 = 1 from h1, show f_X9_in a1 0 9 = 1 from h2, if10]
    rcases in_n (n := 2) (by decide) a2 (by decide) with ⟨f, hf, -, k1, k2⟩ | ⟨k1, k2, -⟩
    · simp only [show f_X8_isBelow a2 2 = 1 from k1, show f_X9_in a2 0 1 = 1 from k2, if10]
      obtain ⟨s, nx, V0, V1, hx, hc, g1, g2, g3⟩ := c_step hI
      rw [g1, obs, lib_, lib_, lib_]
      refine mk3 ?_
      obtain ⟨V2, hV2⟩ : ∃ V2, u2 (u2 V1 1 5 a1) 1 6 a2 = V2 := ⟨_, rfl⟩
      rw [hV2]
      have hfr : ∀ c, c ≠ 1 → V2 c = V1 c := fun c hc => by rw [← hV2, u2_ne hc, u2_ne hc]
      obtain ⟨W0, W, m1, m2, m3, m4⟩ := m_step hx hc (V2 := V2) (fun c hc => by rw [hfr c (by omega), g2 c (by omega)])
      rw [m1, obs, zr1, zs1, zs2, m3]
      obtain ⟨i0, i1, i2, i3, i4⟩ := g3.1
      refine ⟨_, by rw [i1], ?_⟩
      refine Inv_st hI hx hc g2 (V2 := V2) (z' := upd (upd (upd (V 113) 4 0) 1 a1) 2 a2) (fun c hc => hfr c (by omega)) (RS_S g3 (fun c h1 h2 => hfr c (by omega)) (fun j hj => by rw [pk_un (by omega), pk_un (by omega)]) ⟨?_, ?_, ?_, ?_, ?_⟩) m2 m4 (fun c hc => by rw [u2_ne hc, u2_ne hc]) (by rw [u2_at, u2_at, m3]) (VZ_mk ?_ ?_ (Vb_z ?_ (fun j h _ => ?_) hv.b) (Vl_z ?_ (fun j h => ?_) hv.l) (Vh_z (fun j h _ => ?_) hv.h) (Vc_z hsz ?_ (fun j h _ => ?_) hv.c))
      · rw [pk_un (by omega), pk_un (by omega), ← hV2, u2_n (Or.inr (by omega)), u2_n (Or.inr (by omega))]; exact i0
      · rw [pk_un (by omega), pk_us, ← hV2, u2_n (Or.inr (by omega)), u2_s]
      · rw [pk_us, ← hV2, u2_s]
      · rw [pk_un (by omega), pk_un (by omega), ← hV2, u2_n (Or.inr (by omega)), u2_n (Or.inr (by omega))]; exact i3
      · rw [pk_un (by omega), pk_un (by omega), ← hV2, u2_n (Or.inr (by omega)), u2_n (Or.inr (by omega))]; exact i4
      · rw [pk_un (by omega), pk_un (by omega), pk_un (by omega)]; exact hv.1
      · rw [pk_un (by omega), pk_un (by omega), pk_us]
      all_goals rw [pk_un (by omega), pk_un (by omega), pk_un (by omega)]
    · simp only [show f_X8_isBelow a2 2 = 0 from k1, show f_X9_in a2 0 1 = 0 from k2, if00]
      exact ⟨_, _, _, rfl, rfl, Iv.rf hI⟩
  · simp only [show f_X8_isBelow a1 10 = 0 from h1, show f_X9_in a1 0 9 = 0 from h2, if00]
    exact ⟨_, _, _, rfl, rfl, Iv.rf hI⟩
theorem st_sail : S_sail := by
  intro V hI a1
  have hv := hI.2.1
  have hsz := hv.vr.sz
  unfold f_X8_sail f_X9_sail f_X9_isSide
  rcases in_n (n := 2) (by decide) a1 (by decide) with ⟨f, hf, ef, h1, h2⟩ | ⟨h1, h2, -⟩
  · simp only [show f_X8_isBelow a1 2 = 1 from h1, show f_X9_in a1 0 1 = 1 from h2, if10]
    obtain ⟨s, nx, V0, V1, hx, hc, g1, g2, g3⟩ := c_step hI
    rw [g1, obs, lib_, lib_]
    refine mk3 ?_
    obtain ⟨V2, hV2⟩ : ∃ V2, u2 V1 1 7 a1 = V2 := ⟨_, rfl⟩
    rw [hV2]
    have hfr : ∀ c, c ≠ 1 → V2 c = V1 c := fun c hc => by rw [← hV2, u2_ne hc]
    obtain ⟨W0, W, m1, m2, m3, m4⟩ := m_step hx hc (V2 := V2) (fun c hc => by rw [hfr c (by omega), g2 c (by omega)])
    rw [m1, obs, zr3, zs3, m3]
    obtain ⟨i0, i1, i2, i3, i4⟩ := g3.1
    refine ⟨_, by rw [i3], ?_⟩
    refine Inv_st hI hx hc g2 (V2 := V2) (z' := upd (upd (V 113) 4 0) 3 a1) (fun c hc => hfr c (by omega)) (RS_S g3 (fun c h1 h2 => hfr c (by omega)) (fun j hj => by rw [pk_un (by omega)]) ⟨?_, ?_, ?_, ?_, ?_⟩) m2 m4 (fun c hc => by rw [u2_ne hc]) (by rw [u2_at, m3]) (VZ_mk ?_ ?_ (Vb_z ?_ (fun j h _ => ?_) hv.b) (Vl_z ?_ (fun j h => ?_) hv.l) (Vh_z (fun j h _ => ?_) hv.h) (Vc_z hsz ?_ (fun j h _ => ?_) hv.c))
    · rw [pk_un (by omega), ← hV2, u2_n (Or.inr (by omega))]; exact i0
    · rw [pk_un (by omega), ← hV2, u2_n (Or.inr (by omega))]; exact i1
    · rw [pk_un (by omega), ← hV2, u2_n (Or.inr (by omega))]; exact i2
    · rw [pk_us, ← hV2, u2_s]
    · rw [pk_un (by omega), ← hV2, u2_n (Or.inr (by omega))]; exact i4
    · rw [pk_us, ef]
      rcases (show f = 0 ∨ f = 1 by omega) with rfl | rfl
      · exact Or.inl rfl
      · exact Or.inr rfl
    · rw [pk_un (by omega), pk_us]
    all_goals rw [pk_un (by omega), pk_un (by omega)]
  · simp only [show f_X8_isBelow a1 2 = 0 from h1, show f_X9_in a1 0 1 = 0 from h2, if00]
    exact ⟨_, _, _, rfl, rfl, Iv.rf hI⟩
theorem st_ans {V : Wd} (hI : Inv V) (h4 : V 113 4 = 0 ∨ V 113 4 = 1) (hup : ∃ h, h < 5 ∧ zS (V 113) h ≠ 0) : ∃ r V1 V2, f_X8_answer_58 V = some (r, V1) ∧ V1 113 = V 113 ∧ f_X9_answer_43 V1 = some (r, V2) ∧ Iv V V1 V2 := by
  have hv := hI.2.1
  have hsz := hv.vr.sz
  unfold f_X8_answer_58
  obtain ⟨s, nx, V0, hx, hc, g1, g3⟩ := c_stepR hI
  obtain ⟨i0, i1, i2, i3, i4⟩ := g3.1
  rw [g1, obs]
  have key : ∀ x : Int32, (x = 1 ∨ x = 2) → V 113 4 + 1 = x → ∃ V2, f_X9_answer_43 (u2 V0 1 8 x) = some (x, V2) ∧ Iv V (u2 V0 1 8 x) V2 := by
    intro x hx12 e
    obtain ⟨V2, hV2⟩ : ∃ V2, u2 V0 1 8 x = V2 := ⟨_, rfl⟩
    simp only [hV2]
    have hfr : ∀ c, c ≠ 1 → V2 c = V0 c := fun c hc => by rw [← hV2, u2_ne hc]
    obtain ⟨W, m1, m2, m3⟩ := m_stepR hx hc (V2 := V2) (fun c hc => hfr c (by omega))
    unfold f_X9_answer_43
    rw [m1, obs, zr4, zs4, zr4, u2_s, m3, e]
    refine ⟨_, rfl, ?_⟩
    refine Iv_rec hI hx hc (V2 := V2) (z' := upd (V 113) 4 x) (fun c hc _ => hfr c (by omega)) (by rw [hfr 106 (by omega)]) (by rw [hfr 109 (by omega)]) (RS_S g3 (fun c h1 h2 => hfr c (by omega)) (fun j hj => pk_un (by omega)) ⟨?_, ?_, ?_, ?_, ?_⟩) m2 (fun c hc => u2_ne hc) (by rw [u2_at, m3]) ⟨?_, ⟨?_, ?_⟩, Vb_z (pk_un (by omega)) (fun j h _ => pk_un (by omega)) hv.b, Vl_z (pk_un (by omega)) (fun j h => pk_un (by omega)) hv.l, Vh_z (fun j h _ => pk_un (by omega)) hv.h, Vc_z hsz (pk_un (by omega)) (fun j h _ => pk_un (by omega)) hv.c⟩
    · rw [pk_un (by omega), ← hV2, u2_n (Or.inr (by omega))]; exact i0
    · rw [pk_un (by omega), ← hV2, u2_n (Or.inr (by omega))]; exact i1
    · rw [pk_un (by omega), ← hV2, u2_n (Or.inr (by omega))]; exact i2
    · rw [pk_un (by omega), ← hV2, u2_n (Or.inr (by omega))]; exact i3
    · rw [pk_us, ← hV2, u2_s]
    · rw [pk_un (by omega)]; exact hv.1
    · rw [pk_us]; exact Or.inr hx12
    · intro _
      obtain ⟨h, hh, e⟩ := hup
      refine ⟨h, hh, ?_⟩
      show upd (V 113) 4 x (38 + 5 * h) ≠ 0
      rw [pk_un (by omega)]
      exact e
  have e113 : ∀ x : Int32, u2 V0 1 8 x 113 = V 113 := fun x => by rw [u2_ne (by omega), hc.1 113 (by omega)]
  rcases h4 with h4 | h4
  · rw [h4] at i4 key
    obtain ⟨V2, k1, k2⟩ := key 1 (Or.inl rfl) (by decide)
    rw [← i4, if_pos t00, lib_, u2_s]
    exact ⟨_, _, V2, rfl, e113 1, k1, k2⟩
  · rw [h4] at i4 key
    obtain ⟨V2, k1, k2⟩ := key 2 (Or.inr rfl) (by decide)
    rw [← i4, if_neg t10, lib_, u2_s]
    exact ⟨_, _, V2, rfl, e113 2, k1, k2⟩
theorem st_answer : S_answer := by
  intro V hI
  have hv := hI.2.1
  have hsz := hv.vr.sz
  obtain ⟨e0, e1, e2, e3, e4⟩ := hI.1.1
  have hH : HS V 6 (V 113) := hI.1.2.2.1
  unfold f_X8_answer f_X9_answer
  rw [c_all (K := 6) hH, obs]
  by_cases q0 : nI (hc_ (V 113) 5) = 0
  · rw [if_pos ((al0 hsz).mpr q0)]
    refine mk3 ?_
    rw [m_hoists V, obs, if_pos q0]
    exact ⟨_, rfl, Iv.rf hI⟩
  · rw [if_neg (fun h => q0 ((al0 hsz).mp h))]
    have hup : ∃ h, h < 5 ∧ zS (V 113) h ≠ 0 := (hc_pos hsz 5 (by omega)).mp (by
      have := hc_le (V 113) 5
      rw [L0, nJ_eq (by omega) (by omega)] at q0
      omega)
    rw [← e4]
    by_cases q2 : V 113 4 = 2
    · rw [if_pos q2]
      refine mk3 ?_
      rw [m_hoists V, obs, if_neg q0, zr4, if_pos q2]
      exact ⟨_, rfl, Iv.rf hI⟩
    · rw [if_neg q2]
      by_cases q1 : V 113 4 = 1
      · rw [if_pos q1, ← e3]
        obtain ⟨sd_, hsd, es⟩ : ∃ j, j < 2 ∧ V 113 3 = nI j := by
          rcases hv.1 with h | h
          · exact ⟨0, by omega, h⟩
          · exact ⟨1, by omega, h⟩
        obtain ⟨r, V', hr, hk, a1, a2, -, a4⟩ := c_read hI hsd
        have e3' : V' 113 = V 113 := a4.1 113 (by omega) (by omega) (by omega)
        have hI' := Inv_FR hI hr a4
        rw [es, a1, obs]
        dsimp only
        rw [if_pos hk, c_knowsAll a2, obs]
        by_cases qk : ka (ML (WM (V 113) (nI sd_)) (nI sd_)) = 0
        · rw [if_pos qk]
          refine mk3 ?_
          rw [m_hoists V', obs, e3', if_neg q0, zr4, if_neg q2, zr4, if_pos q1, zr3, es, m_knowsAll (V := V') (by rw [e3']; exact hv.vr), obs, e3', if_pos qk]
          exact ⟨_, rfl, (Ir_FR hI hr a4).iv⟩
        · rw [if_neg qk]
          obtain ⟨x, V1, V2, b1, b2, b3, b4⟩ := st_ans hI' (by rw [e3']; exact Or.inr q1) (by rw [e3']; exact hup)
          rw [b1]
          refine mk3 ?_
          have e5 : V1 113 = V 113 := b2.trans e3'
          rw [m_hoists V1, obs, e5, if_neg q0, zr4, if_neg q2, zr4, if_pos q1, zr3, es, m_knowsAll (V := V1) (by rw [e5]; exact hv.vr), obs, e5, if_neg qk]
          exact ⟨V2, b3, (Ir_FR hI hr a4).then b4⟩
      · rw [if_neg q1]
        obtain ⟨x, V1, V2, b1, b2, b3, b4⟩ := st_ans hI (Or.inl (by rcases hv.2.1.1 with h | h | h; exact h; exact absurd h q1; exact absurd h q2)) hup
        rw [b1]
        refine mk3 ?_
        rw [m_hoists V1, obs, b2, if_neg q0, zr4, if_neg q2, zr4, if_neg q1]
        exact ⟨V2, b3, b4⟩

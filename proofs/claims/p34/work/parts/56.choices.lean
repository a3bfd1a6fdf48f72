/-! Pure: the law's choices, one by one: the class answers as the law's rows say, and both go on alike. -/
theorem l_low (x : Int32) {n : Nat} (h0 : 0 < n) (hn : n < 100000) : ∃ k, k < n ∧ f_L_low x (nI n) = some (nI k) := by
  obtain ⟨j, hj, e⟩ := pk_andE x (m := 2147483647) 31 rfl
  unfold f_L_low
  rw [if_neg (by rw [show (0 : Int32) = nI 0 from rfl, nJ_eq (by omega) (by omega)]; omega), e, pk_rem (by omega) h0 (by omega)]
  exact ⟨j % n, Nat.mod_lt _ h0, rfl⟩
theorem Inv_law {V V' : Wd} (h : Inv V) (e : ∀ c, c < 118 → V' c = V c) : Inv V' := Inv_fr h (fun c hc => e c (by omega)) (by rw [e 101 (by omega)]) (by rw [e 106 (by omega)]) (by rw [e 109 (by omega)]) (by rw [e 112 (by omega)]) (by rw [e 112 (by omega)]) (by rw [e 112 (by omega)])
theorem gx_iv {V V1 V2 : Wd} (h : Iv V V1 V2) : gx_ V1 V2 = V2 := by
  funext k
  unfold gx_
  split
  · rfl
  · next q => exact (h.2.2 k (by omega) (by omega) (by omega)).symm
theorem Iv.law {V V1 V2 : Wd} (h : Iv V V1 V2) {c : Nat} (hc : 117 < c) : V2 c = V c := (h.2.2 c (by omega) (by omega) (by omega)).trans (h.2.1 c (by omega))
theorem m_rd {V V1 : Wd} (hI : Inv V) (e : ∀ c, 111 < c → V1 c = V c) : ∃ W, f_X9_recordAndDown V1 = some W ∧ W 113 = upd (V 113) 4 0 := by
  obtain ⟨-, -, -, ⟨s, nx, hs, -, -, h2, -⟩, -⟩ := hI
  obtain ⟨V0, W, g1, g2, g3⟩ := m_down (V := V1) hs (by rw [e 112 (by omega)]; exact h2)
  refine ⟨W, g1, ?_⟩
  rw [g3, u2_at, g2.1 113 (by omega) (by omega), e 113 (by omega)]
theorem m_rc {V V1 : Wd} (hI : Inv V) (e : ∀ c, 111 < c → V1 c = V c) : ∃ W, f_X9_record V1 = some W ∧ W 113 = V 113 := by
  obtain ⟨-, -, -, ⟨s, nx, hs, -, -, h2, -⟩, -⟩ := hI
  obtain ⟨W, g1, g2⟩ := m_record (V := V1) hs (by rw [e 112 (by omega)]; exact h2)
  refine ⟨W, g1, ?_⟩
  rw [g2.1 113 (by omega) (by omega), e 113 (by omega)]
/-- the choice ends in the next turn of the law's loop -/
def NX (K : Wd → Int32 → Option (Int32 × Wd)) (e T : Nat) (o : Option (Int32 × Wd)) : Prop := ∃ V' T', T' ≤ T + 1 ∧ JJ V' T' ∧ o = K V' (nI (e + 1))
section END
variable {xs : Nat → Int32} {L : Nat} {K : Wd → Int32 → Option (Int32 × Wd)}
theorem l_1602 {V : Wd} {T e : Nat} (he : e < 64) {x : Int32} (hJ : JJ (u2 V 122 4 x) T) : ∃ V', JJ V' T ∧ f_L_law_1602 xs L K V (nI e) 1 x 4 = K V' (nI (e + 1)) := by
  obtain ⟨V1, a1, a2⟩ := l_mast hJ
  have hJ1 := hJ.ir a1
  unfold f_L_law_1602
  rw [ts4, if_neg t10, a2, obs]
  dsimp only
  rw [if_neg t10, n1]
  have e2 : nI e - nI e / 2 * 2 = nI (e % 2) := pk_rem (d := 2) (by omega) (by decide) (by decide)
  rw [e2]
  by_cases q : nI (e % 2) = 1
  · obtain ⟨w, hw, ew⟩ := l_low (cl_ xs L (70 + nI e)) (n := 4) (by omega) (by omega)
    obtain ⟨V2, b1, b2⟩ := l_ahead (x5 := nI w) hJ1 (w := w) (by omega) rfl
    rw [if_pos q, if_neg (by rw [L70, nI_add]; exact nI_pos (by omega)), show f_L_low (cl_ xs L (70 + nI e)) 4 = some (nI w) from ew, obs, b2, obs]
    dsimp only
    rw [if_neg t10]
    exact ⟨V2, b1, rfl⟩
  · rw [if_neg q]
    exact ⟨V1, hJ1, rfl⟩
theorem nx_end {W : Wd} {T T' e : Nat} (he : e < 64) {d : Int32} (hT : T' ≤ T + 1) (hd : (d = 0 ∧ JJ W T') ∨ (d = 1 ∧ JJ (u2 W 122 4 0) T')) : NX K e T (f_L_law_1586 xs L K W (nI e) 1 d) := by
  unfold f_L_law_1586
  rcases hd with ⟨rfl, hJ⟩ | ⟨rfl, hJ⟩
  · rw [if_pos t00, tr4]
    have eW : u2 W 122 4 (W 122 4) = W := u2_back (fun _ _ => rfl) (fun _ _ => rfl) rfl
    obtain ⟨V', g1, g2⟩ := l_1602 (xs := xs) (L := L) (K := K) (V := W) he (x := W 122 4) (by rw [eW]; exact hJ)
    exact ⟨V', T', hT, g1, g2⟩
  · rw [if_neg t10]
    obtain ⟨V', g1, g2⟩ := l_1602 (xs := xs) (L := L) (K := K) he hJ
    exact ⟨V', T', hT, g1, g2⟩
end END
theorem RC_y {V V' : Wd} {z z' : Nat → Int32} (hz : ∀ j, 8 ≤ j → j < 38 → z' j = z j) (e : V' 118 = V 118) (h : RC V z) : RC V' z' := fun j hj => by rw [e, h j hj, hz _ (by omega) (by omega)]
theorem RM_y {V V' : Wd} {z z' : Nat → Int32} (hz : ∀ j, 38 ≤ j → j < 63 → z' j = z j) (e : V' 119 = V 119) (h : RM V z) : RM V' z' := fun k p hk hp => by
  rw [e, h k p hk hp, show zG z' k p = zG z k p from hz _ (by omega) (by omega), show sn z' k = sn z k by unfold sn; rw [show zS z' k = zS z k from hz _ (by omega) (by omega)]]
theorem RB_y {V V' : Wd} {z z' : Nat → Int32} (h12 : en z ≤ 12) (h5 : z' 5 = z 5) (hz : ∀ j, 63 ≤ j → j < 87 → z' j = z j) (e : V' 120 = V 120) (h : RB V z) : RB V' z' := fun k hk => by
  rw [show en z' = en z by unfold en; rw [h5]] at hk
  rw [e]
  exact ⟨(h k hk).1.trans (hz _ (by omega) (by omega)).symm, (h k hk).2.trans (hz _ (by omega) (by omega)).symm⟩
theorem RLg_y {V V' : Wd} {z z' : Nat → Int32} {T : Nat} (h6 : z' 6 = z 6) (h7 : z' 7 = z 7) (hz : ∀ j, 87 ≤ j → z' j = z j) (e1 : V' 121 = V 121) (e2 : V' 122 6 = V 122 6) (h : RLg V z T) : RLg V' z' T := by
  obtain ⟨g1, g2, g3, g4⟩ := h
  refine ⟨e2.trans g1, h7.trans g2, h6.trans g3, fun m hm => ?_⟩
  obtain ⟨l, hl, k1, k2, k3⟩ := g4 m hm
  refine ⟨l, hl, (hz _ (by omega)).trans k1, by rw [e1]; exact k2, fun i hi => ?_⟩
  rw [e1, k3 i hi, hz _ (by omega)]
theorem VCo_y {z z' : Nat → Int32} (h : ∀ j, 8 ≤ j → j < 38 → z' j = z j) (h2 : z' 2 = 0 ∨ z' 2 = 1) (hc : VCo z) : VCo z' := by
  refine ⟨fun f hf => ?_, h2⟩
  obtain ⟨a, b, w, h1, h2, h3, e1, e2, e3⟩ := hc.1 f hf
  exact ⟨a, b, w, h1, h2, h3, (h _ (by omega) (by omega)).trans e1, (h _ (by omega) (by omega)).trans e2, (h _ (by omega) (by omega)).trans e3⟩
/-- a choice that changes nothing but numbers -/
theorem JJ_t {V V2 W : Wd} {T : Nat} (hJ : JJ V T) (hI : Inv V2) (hl : ∀ c, 117 < c → c ≠ 122 → V2 c = V c) (hz : ∀ j, 5 ≤ j → V2 113 j = V 113 j) (hz2 : V2 113 2 = 0 ∨ V2 113 2 = 1) (hw : ∀ c, c ≠ 122 → W c = V2 c) (h5 : W 122 5 = V 122 5) (h6 : W 122 6 = V 122 6) (hr : W 122 0 = V2 113 0 ∧ W 122 1 = V2 113 1 ∧ W 122 2 = V2 113 2 ∧ W 122 3 = V2 113 3 ∧ W 122 4 = V2 113 4) : JJ W T := by
  obtain ⟨h1, h2, h3, h4, h5', h6', h7, h8⟩ := hJ
  have e113 : W 113 = V2 113 := hw 113 (by omega)
  have hrow : ∀ c, 117 < c → c ≠ 122 → W c = V c := fun c hc h => (hw c h).trans (hl c hc h)
  refine ⟨Inv_law hI (fun c hc => hw c (by omega)), ?_, ?_, ?_, ?_, ?_, ?_, h8⟩
  · rw [e113]; exact VCo_y (fun j hj _ => hz j (by omega)) hz2 h2
  · rw [e113]; exact RC_y (fun j hj _ => hz j (by omega)) (hrow 118 (by omega) (by omega)) h3
  · rw [e113]; exact RM_y (fun j hj _ => hz j (by omega)) (hrow 119 (by omega) (by omega)) h4
  · rw [e113]; exact RB_y h1.2.1.vr.en.2.1 (hz 5 (by omega)) (fun j hj _ => hz j (by omega)) (hrow 120 (by omega) (by omega)) h5'
  · rw [e113]
    obtain ⟨k0, k1, k2, k3, k4⟩ := hr
    exact ⟨k0, k1, k2, k3, k4, by rw [h5, h6'.2.2.2.2.2, hz 5 (by omega)]⟩
  · rw [e113]; exact RLg_y (hz 6 (by omega)) (hz 7 (by omega)) (fun j hj => hz j (by omega)) (hrow 121 (by omega) (by omega)) h6 h7
theorem q_in9 {a : Nat} (ha : a < 10) : f_X9_in (nI a) 0 9 = 1 := in_yes (nI_pos' (by omega)) (by rw [L9, nJ_le (by omega) (by omega)]; omega)
theorem q_in7 {a : Nat} (ha : a < 8) : f_X9_in (nI a) 0 7 = 1 := in_yes (nI_pos' (by omega)) (by rw [show (7 : Int32) = nI 7 from rfl, nJ_le (by omega) (by omega)]; omega)
theorem q_in4 {a : Nat} (ha : a < 5) : f_X9_in (nI a) 0 4 = 1 := in_yes (nI_pos' (by omega)) (by rw [L4, nJ_le (by omega) (by omega)]; omega)
theorem s01 {s : Nat} (hs : s < 2) : nI s = 0 ∨ nI s = 1 := by
  rcases (show s = 0 ∨ s = 1 by omega) with rfl | rfl
  · exact Or.inl rfl
  · exact Or.inr rfl
section CH
variable {xs : Nat → Int32} {L : Nat} {K : Wd → Int32 → Option (Int32 × Wd)} {V : Wd} {T e : Nat}
theorem k_setWind (hJ : JJ V T) (he : e < 64) {a b : Nat} (ha : a < 10) (hb : b < 2) : NX K e T ((f_X8_setWind V (nI a) (nI b)).bind fun q => (f_X9_setWind q.2 (nI a) (nI b)).bind fun q2 => li_ (gx_ q.2 q2.2) fun V46 => (rd_ (V46 122) 7 1).bind fun y => if q.1 = y then f_L_law_546 xs L K V46 (nI e) 1 (nI a) (nI b) 1 else f_L_law_546 xs L K V46 (nI e) 1 (nI a) (nI b) 0) := by
  obtain ⟨r, V1, V2, h1, h2, hv⟩ := st_setWind V hJ.1 (nI a) (nI b)
  obtain ⟨r0, r1, r2, r3, r4, r5⟩ := hJ.2.2.2.2.2.1
  obtain ⟨W, m1, m2⟩ := m_rd hJ.1 hv.2.1
  have h3 := h2
  unfold f_X9_setWind at h3
  rw [q_in9 ha, if_neg t10, q_side hb, if_neg t10, m1, obs, zr1, zs1, zs2] at h3
  obtain ⟨hr, hV⟩ := Prod.mk.inj (Option.some.inj h3)
  have ez : V2 113 = upd (upd (upd (V 113) 4 0) 1 (nI a)) 2 (nI b) := by rw [← hV, u2_at, u2_at, m2]
  have e122 : V2 122 = V 122 := hv.law (by omega)
  rw [m2, pk_un (by omega)] at hr
  rw [h1, obs]
  dsimp only
  rw [h2, obs]
  dsimp only
  rw [gx_iv hv, lib_, tr1, e122, r1, if_pos hr.symm]
  unfold f_L_law_546
  rw [ts1, ts2]
  refine nx_end he (Nat.le_succ T) (Or.inr ⟨rfl, JJ_t (V2 := V2) hJ hv.1 (fun c hc _ => hv.law hc) (fun j hj => ?_) ?_ (fun c hc => ?_) ?_ ?_ ⟨?_, ?_, ?_, ?_, ?_⟩⟩)
  · rw [ez, pk_un (by omega), pk_un (by omega), pk_un (by omega)]
  · rw [ez, pk_us]; exact s01 hb
  · rw [u2_ne hc, u2_ne hc, u2_ne hc]
  · rw [u2_n (Or.inr (by omega)), u2_n (Or.inr (by omega)), u2_n (Or.inr (by omega)), e122]
  · rw [u2_n (Or.inr (by omega)), u2_n (Or.inr (by omega)), u2_n (Or.inr (by omega)), e122]
  · rw [u2_n (Or.inr (by omega)), u2_n (Or.inr (by omega)), u2_n (Or.inr (by omega)), e122, r0, ez, pk_un (by omega), pk_un (by omega), pk_un (by omega)]
  · rw [u2_n (Or.inr (by omega)), u2_n (Or.inr (by omega)), u2_s, ez, pk_un (by omega), pk_us]
  · rw [u2_n (Or.inr (by omega)), u2_s, ez, pk_us]
  · rw [u2_n (Or.inr (by omega)), u2_n (Or.inr (by omega)), u2_n (Or.inr (by omega)), e122, r3, ez, pk_un (by omega), pk_un (by omega), pk_un (by omega)]
  · rw [u2_s, ez, pk_un (by omega), pk_un (by omega), pk_us]
theorem k_sail (hJ : JJ V T) (he : e < 64) {s : Nat} (hs : s < 2) : NX K e T ((f_X8_sail V (nI s)).bind fun q => (f_X9_sail q.2 (nI s)).bind fun q2 => li_ (gx_ q.2 q2.2) fun V46 => (rd_ (V46 122) 7 3).bind fun y => if q.1 = y then f_L_law_1267 xs L K V46 (nI e) 1 (nI s) 1 else f_L_law_1267 xs L K V46 (nI e) 1 (nI s) 0) := by
  obtain ⟨r, V1, V2, h1, h2, hv⟩ := st_sail V hJ.1 (nI s)
  obtain ⟨r0, r1, r2, r3, r4, r5⟩ := hJ.2.2.2.2.2.1
  obtain ⟨W, m1, m2⟩ := m_rd hJ.1 hv.2.1
  have h3 := h2
  unfold f_X9_sail at h3
  rw [q_side hs, if_neg t10, m1, obs, zr3, zs3] at h3
  obtain ⟨hr, hV⟩ := Prod.mk.inj (Option.some.inj h3)
  have ez : V2 113 = upd (upd (V 113) 4 0) 3 (nI s) := by rw [← hV, u2_at, m2]
  have e122 : V2 122 = V 122 := hv.law (by omega)
  rw [m2, pk_un (by omega)] at hr
  rw [h1, obs]
  dsimp only
  rw [h2, obs]
  dsimp only
  rw [gx_iv hv, lib_, tr3, e122, r3, if_pos hr.symm]
  unfold f_L_law_1267
  rw [ts3]
  refine nx_end he (Nat.le_succ T) (Or.inr ⟨rfl, JJ_t (V2 := V2) hJ hv.1 (fun c hc _ => hv.law hc) (fun j hj => ?_) ?_ (fun c hc => ?_) ?_ ?_ ⟨?_, ?_, ?_, ?_, ?_⟩⟩)
  · rw [ez, pk_un (by omega), pk_un (by omega)]
  · rw [ez, pk_un (by omega), pk_un (by omega)]; exact hJ.2.1.2
  · rw [u2_ne hc, u2_ne hc]
  · rw [u2_n (Or.inr (by omega)), u2_n (Or.inr (by omega)), e122]
  · rw [u2_n (Or.inr (by omega)), u2_n (Or.inr (by omega)), e122]
  · rw [u2_n (Or.inr (by omega)), u2_n (Or.inr (by omega)), e122, r0, ez, pk_un (by omega), pk_un (by omega)]
  · rw [u2_n (Or.inr (by omega)), u2_n (Or.inr (by omega)), e122, r1, ez, pk_un (by omega), pk_un (by omega)]
  · rw [u2_n (Or.inr (by omega)), u2_n (Or.inr (by omega)), e122, r2, ez, pk_un (by omega), pk_un (by omega)]
  · rw [u2_n (Or.inr (by omega)), u2_s, ez, pk_us]
  · rw [u2_s, ez, pk_un (by omega), pk_us]
theorem k_ans (hJ : JJ V T) (he : e < 64) {c : Nat} (hc : c < 2) {r : Int32} {V1 V2 : Wd} (h1 : f_X8_answer (u2 V 122 4 (V 113 4 + nI c)) = some (r, V1)) (h2 : f_X9_answer V1 = some (r, V2)) (hv : Iv (u2 V 122 4 (V 113 4 + nI c)) V1 V2) (hr : r = if c = 0 then -3 else V 113 4 + nI c) (hz : V2 113 = upd (V 113) 4 (V 113 4 + nI c)) : NX K e T (f_L_law_1556 xs L K V (nI e) 0 (nI c) (nI c) (V 113 4) 4) := by
  obtain ⟨r0, r1, r2, r3, r4, r5⟩ := hJ.2.2.2.2.2.1
  obtain ⟨V', hV'⟩ : ∃ V', u2 V 122 4 (V 113 4 + nI c) = V' := ⟨_, rfl⟩
  rw [hV'] at h1 hv
  have e122 : V2 122 = V' 122 := hv.law (by omega)
  have fin : NX K e T (f_L_law_1586 xs L K V2 (nI e) 1 0) := by
    refine nx_end he (Nat.le_succ T) (Or.inl ⟨rfl, JJ_t (V2 := V2) hJ hv.1 (fun c hc h122 => ?_) (fun j hj => ?_) ?_ (fun c hc => rfl) ?_ ?_ ⟨?_, ?_, ?_, ?_, ?_⟩⟩)
    · rw [hv.law hc, ← hV', u2_ne h122]
    · rw [hz, pk_un (by omega)]
    · rw [hz, pk_un (by omega)]; exact hJ.2.1.2
    · rw [e122, ← hV', u2_n (Or.inr (by omega))]
    · rw [e122, ← hV', u2_n (Or.inr (by omega))]
    · rw [e122, ← hV', u2_n (Or.inr (by omega)), r0, hz, pk_un (by omega)]
    · rw [e122, ← hV', u2_n (Or.inr (by omega)), r1, hz, pk_un (by omega)]
    · rw [e122, ← hV', u2_n (Or.inr (by omega)), r2, hz, pk_un (by omega)]
    · rw [e122, ← hV', u2_n (Or.inr (by omega)), r3, hz, pk_un (by omega)]
    · rw [e122, ← hV', u2_s, hz, pk_us]
  unfold f_L_law_1556
  rw [ts4, hV', h1, obs]
  dsimp only
  rw [h2, obs]
  dsimp only
  rw [gx_iv hv, lib_]
  unfold f_L_law_1576 f_L_law_1584
  by_cases q : c = 0
  · rw [if_pos q] at hr
    rw [if_pos (show nI c = 0 by rw [q]; rfl), if_pos hr]
    exact fin
  · rw [if_neg q] at hr
    rw [if_neg (show ¬ nI c = 0 by rw [show (0 : Int32) = nI 0 from rfl, nJ_eq (by omega) (by omega)]; exact q), tr4, e122, ← hV', u2_s, if_pos hr]
    exact fin
theorem k_answer (hJ : JJ V T) (he : e < 64) : NX K e T (f_L_law_1489 xs L K V (nI e)) := by
  obtain ⟨r0, r1, r2, r3, r4, r5⟩ := hJ.2.2.2.2.2.1
  have hvz := hJ.1.2.1
  have hvr := hvz.vr
  have h5 := hc_le (V 113) 5
  have a0 : ∀ x : Int32, x + nI 0 = x := fun x => Int32.add_zero x
  -- the model's answer at a world with the same ghost
  have no : (∀ V1 : Wd, V1 113 = V 113 → f_X9_answer V1 = some (-3, V1)) → NX K e T (f_L_law_1535 xs L K V (nI e)) := by
    intro hno
    have hI' : Inv (u2 V 122 4 (V 113 4 + nI 0)) := Inv_law hJ.1 (fun c hc => u2_ne (by omega))
    obtain ⟨r, V1, V2, h1, h2, hv⟩ := st_answer _ hI'
    have e1 : V1 113 = V 113 := (hv.2.1 113 (by omega)).trans (u2_ne (by omega))
    have h3 := hno V1 e1
    rw [h2] at h3
    obtain ⟨hr, hV⟩ := Prod.mk.inj (Option.some.inj h3)
    unfold f_L_law_1535 f_L_law_1536
    rw [tr4, r4, if_pos t00]
    refine k_ans (c := 0) hJ he (by omega) h1 h2 hv (by rw [if_pos rfl]; exact hr) ?_
    rw [hV, e1, a0, upd_same]
  have yes : (∀ V1 : Wd, V1 113 = V 113 → f_X9_answer V1 = f_X9_answer_43 V1) → NX K e T (f_L_law_1531 xs L K V (nI e)) := by
    intro hy
    have hI' : Inv (u2 V 122 4 (V 113 4 + nI 1)) := Inv_law hJ.1 (fun c hc => u2_ne (by omega))
    obtain ⟨r, V1, V2, h1, h2, hv⟩ := st_answer _ hI'
    have e1 : V1 113 = V 113 := (hv.2.1 113 (by omega)).trans (u2_ne (by omega))
    have h3 := h2
    rw [hy V1 e1] at h3
    obtain ⟨W, m1, m2⟩ := m_rc hI' hv.2.1
    rw [u2_ne (by omega)] at m2
    unfold f_X9_answer_43 at h3
    rw [m1, obs, zr4, zs4, zr4, u2_s] at h3
    obtain ⟨hr, hV⟩ := Prod.mk.inj (Option.some.inj h3)
    unfold f_L_law_1531 f_L_law_1536
    rw [tr4, r4, if_neg t10]
    refine k_ans (c := 1) hJ he (by omega) h1 h2 hv ?_ ?_
    · rw [if_neg (by omega), ← hr, m2]; rfl
    · rw [← hV, u2_at, m2]; rfl
  unfold f_L_law_1489
  rw [l_hoists hJ.rr, obs]
  by_cases q0 : hc_ (V 113) 5 = 0
  · rw [if_pos (by rw [q0]; decide)]
    refine no (fun V1 e1 => ?_)
    unfold f_X9_answer
    rw [m_hoists V1, obs, e1, q0, if_pos (show nI 0 = 0 from rfl)]
  · have q0' : ¬ nI (hc_ (V 113) 5) = 0 := by rw [show (0 : Int32) = nI 0 from rfl, nJ_eq (by omega) (by omega)]; exact q0
    rw [if_neg (by rw [show (0 : Int32) = nI 0 from rfl, nJ_le (by omega) (by omega)]; omega), tr4, r4]
    by_cases p0 : V 113 4 = 0
    · rw [if_pos p0]
      refine yes (fun V1 e1 => ?_)
      unfold f_X9_answer
      rw [m_hoists V1, obs, e1, if_neg q0', zr4, p0, if_neg (by decide), zr4, p0, if_neg (by decide)]
    · rw [if_neg p0, tr4, r4]
      by_cases p1 : V 113 4 = 1
      · obtain ⟨s, hs, es⟩ := sd2 hvz.1
        have hl := l_hoistsL hJ.rr (nI s)
        have hk := l_known hJ.rr hs
        have ln := len_hc hvr (nI s)
        rw [if_pos p1, tr3, r3, es, hk, obs, obs]
        have hkn := kn_le (ML (WM (V 113) (nI s)) (nI s))
        by_cases p2 : kn (ML (WM (V 113) (nI s)) (nI s)) = hc_ (V 113) 5
        · rw [if_pos (by rw [p2])]
          refine yes (fun V1 e1 => ?_)
          unfold f_X9_answer
          rw [m_hoists V1, obs, e1, if_neg q0', zr4, p1, if_neg (by decide), zr4, p1, if_pos rfl, zr3, es, m_knowsAll (V := V1) (by rw [e1]; exact hvr), obs, e1]
          have k1 : ka (ML (WM (V 113) (nI s)) (nI s)) = 1 := by
            unfold ka
            exact if_pos ⟨by rw [ln]; exact q0, by rw [ln]; exact p2⟩
          rw [k1, if_neg t10]
        · rw [if_neg (by rw [nJ_eq (by omega) (by omega)]; exact p2)]
          refine no (fun V1 e1 => ?_)
          unfold f_X9_answer
          rw [m_hoists V1, obs, e1, if_neg q0', zr4, p1, if_neg (by decide), zr4, p1, if_pos rfl, zr3, es, m_knowsAll (V := V1) (by rw [e1]; exact hvr), obs, e1]
          have k0 : ka (ML (WM (V 113) (nI s)) (nI s)) = 0 := by
            unfold ka
            exact if_neg (fun h => p2 (by rw [← ln]; exact h.2))
          rw [k0, if_pos t00]
      · rw [if_neg p1]
        have p2 : V 113 4 = 2 := by rcases hvz.2.1.1 with h | h | h; exact absurd h p0; exact absurd h p1; exact h
        refine no (fun V1 e1 => ?_)
        unfold f_X9_answer
        rw [m_hoists V1, obs, e1, if_neg q0', zr4, if_pos p2]
end CH

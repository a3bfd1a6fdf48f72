/-! Pure: what a step that records has to show; paint, setStock, setWind, sail. -/
theorem FS_z {V : Wd} {K : Nat} {z z' : Nat → Int32} (h : ∀ j, 8 ≤ j → j < 38 → z' j = z j) (hF : FS V K z) : FS V K z' := fun f hf => by
  rw [h _ (by omega) (by omega), h _ (by omega) (by omega), h _ (by omega) (by omega)]
  exact hF f hf
theorem HS_z {V : Wd} {K : Nat} {z z' : Nat → Int32} (h : ∀ j, 38 ≤ j → j < 63 → z' j = z j) (hH : HS V K z) : HS V K z' := fun m hm => by
  rw [show zS z' m = zS z m from h _ (by omega) (by omega)]
  refine ⟨(hH m hm).1, fun p hp hq => ?_⟩
  rw [show zG z' m p = zG z m p from h _ (by omega) (by omega)]
  exact (hH m hm).2 p hp hq
theorem BS_z {V : Wd} {K : Nat} {z z' : Nat → Int32} (h5 : z' 5 = z 5) (h : ∀ j, 63 ≤ j → j < 87 → z' j = z j) (hB : BS V K z) : BS V K z' := by
  refine ⟨h5.trans hB.1, fun e he hq => ?_⟩
  rw [h5] at hq
  rw [h _ (by omega) (by omega), h _ (by omega) (by omega)]
  exact hB.2 e he hq
theorem LGS_z {V : Wd} {K : Nat} {z z' : Nat → Int32} (h6 : z' 6 = z 6) (h7 : z' 7 = z 7) (h : ∀ j, 87 ≤ j → z' j = z j) (hL : LGS V K z) : LGS V K z' := by
  refine ⟨h6.trans hL.1, h7.trans hL.2.1, fun m hm hq => ?_⟩
  rw [h6] at hq
  rw [h _ (by omega)]
  refine ⟨(hL.2.2 m hm hq).1, fun i hi hqi => ?_⟩
  rw [h _ (by omega)]
  exact (hL.2.2 m hm hq).2 i hi hqi
def Vb (z : Nat → Int32) : Prop := ∃ n, n ≤ 12 ∧ z 5 = nI n ∧ ∀ e, e < n → CD (z (63 + 2 * e)) ∧ ∃ w, w < 100 ∧ z (64 + 2 * e) = nI w
def Vl (z : Nat → Int32) : Prop := ∃ n, n ≤ 8 ∧ z 6 = nI n ∧ ∀ m, m < n → ∃ l, l ≤ 5 ∧ z (87 + 6 * m) = nI l
def Vh (z : Nat → Int32) : Prop := ∀ h, h < 5 → ∃ n, n ≤ 4 ∧ zS z h = nI n ∧ ∀ p, p < n → SG (zG z h p) p
def Vc (z : Nat → Int32) : Prop := ∀ x, x ≤ 13 → nI (cnA z (nI x) 5) ≤ z 0
theorem VZ.b {z : Nat → Int32} (h : VZ z) : Vb z := h.2.2.1
theorem VZ.l {z : Nat → Int32} (h : VZ z) : Vl z := h.2.2.2.1
theorem VZ.h {z : Nat → Int32} (h : VZ z) : Vh z := h.2.2.2.2.1
theorem VZ.c {z : Nat → Int32} (h : VZ z) : Vc z := h.2.2.2.2.2
theorem VZ_mk {z : Nat → Int32} (a : z 3 = 0 ∨ z 3 = 1) (p : z 4 = 0) (b : Vb z) (l : Vl z) (h : Vh z) (c : Vc z) : VZ z := ⟨a, ⟨Or.inl p, fun q => absurd p q⟩, b, l, h, c⟩
theorem Vb_z {z z' : Nat → Int32} (h5 : z' 5 = z 5) (h : ∀ j, 63 ≤ j → j < 87 → z' j = z j) (hB : Vb z) : Vb z' := by
  obtain ⟨n, c1, c2, c3⟩ := hB
  refine ⟨n, c1, h5.trans c2, fun e he => ?_⟩
  rw [h _ (by omega) (by omega), h _ (by omega) (by omega)]
  exact c3 e he
theorem Vl_z {z z' : Nat → Int32} (h6 : z' 6 = z 6) (h : ∀ j, 87 ≤ j → z' j = z j) (hL : Vl z) : Vl z' := by
  obtain ⟨n, c1, c2, c3⟩ := hL
  refine ⟨n, c1, h6.trans c2, fun e he => ?_⟩
  rw [h _ (by omega)]
  exact c3 e he
theorem Vh_z {z z' : Nat → Int32} (h : ∀ j, 38 ≤ j → j < 63 → z' j = z j) (hH : Vh z) : Vh z' := fun m hm => by
  obtain ⟨n, g1, g2, g3⟩ := hH m hm
  refine ⟨n, g1, (h _ (by omega) (by omega)).trans g2, fun p hp => ?_⟩
  rw [show zG z' m p = zG z m p from h _ (by omega) (by omega)]
  exact g3 p hp
theorem cnA_z {z z' : Nat → Int32} (hz : SZ z) (h : ∀ j, 38 ≤ j → j < 63 → z' j = z j) (x : Int32) : cnA z' x 5 = cnA z x 5 :=
  cnA_zc hz (fun m hm => h _ (by omega) (by omega)) (fun m p hm hp => h _ (by omega) (by have := (hz m hm).2; omega)) x 5 (Nat.le_refl 5)
theorem Vc_z {z z' : Nat → Int32} (hz : SZ z) (h0 : z' 0 = z 0) (h : ∀ j, 38 ≤ j → j < 63 → z' j = z j) (hc : Vc z) : Vc z' := fun x hx => by
  rw [cnA_z hz h, h0]
  exact hc x hx
theorem Inv_rec {V V1 V2 V3 W : Wd} {s nx : Nat} {z' : Nat → Int32} (hI : Inv V) (hx : HX V s nx) (hc : CRec V V1 s nx (V 113)) (he : ∀ c, (c = 0 ∨ 14 < c) → (c < 106 ∨ 111 < c) → V2 c = V1 c) (h6 : V2 106 0 = V1 106 0) (h9 : V2 109 0 = V1 109 0) (hR : RS V2 1 z') (hm : MRec V2 W s (V 113)) (hf : ∀ c, c ≠ 113 → V3 c = W c) (h113 : V3 113 = z') (hz : VZ z') : Inv V3 := by
  obtain ⟨g1, g2, g3, g4, ⟨t, t1, t2, t3, t4⟩, g6⟩ := hI
  have hc1 := hc.1
  have hm1 := hm.1
  have hm2 := hm.2.1
  have e1 : ∀ c, (c = 0 ∨ (14 < c ∧ c < 29) ∨ (100 < c ∧ c < 106) ∨ 114 < c) → V3 c = V c := fun c h => by
    rw [hf c (by omega), hm1 c (by omega) (by omega), he c (by omega) (by omega), hc1 c (by omega)]
  have e112 : ∀ j, j ≠ 2 → V3 112 j = V 112 j := fun j hj => by
    rw [hf 112 (by omega), hm2 j hj, he 112 (by omega) (by omega), hc1 112 (by omega)]
  refine ⟨?_, by rw [h113]; exact hz, ?_, ?_, ⟨t, t1, ?_, ?_, ?_⟩, ?_⟩
  · rw [h113]
    exact RS_frame (fun c h1 h2 => by rw [hf c (by omega), hm1 c (by omega) (by omega)]) hR
  · rw [e1 0 (by omega), e1 115 (by omega), e112 4 (by omega)]
    exact ⟨g3.1, g3.2.imp (fun x => x) (fun x => ⟨x.1, RS_frame (fun c h1 h2 => e1 c (by omega)) x.2.1, x.2.2⟩)⟩
  · exact HI_rec hx hc (fun c h1 h2 => he c (by omega) (by omega)) (by rw [he 114 (by omega) (by omega), hc1 114 (by omega)]) (by rw [he 112 (by omega) (by omega), hc1 112 (by omega)]) hm ⟨fun c h1 h2 => hf c (by omega), hf 114 (by omega), by rw [hf 112 (by omega)]⟩ g2
  · rw [e1 101 (by omega)]; exact t2
  · rw [e112 6 (by omega)]; exact t3
  · intro i hi
    rw [e1 102 (by omega), e1 116 (by omega)]
    exact t4 i hi
  · rw [hf 106 (by omega), hf 109 (by omega), hm1 106 (by omega) (by omega), hm1 109 (by omega) (by omega), h6, h9, hc1 106 (by omega), hc1 109 (by omega)]
    exact g6
theorem Iv_rec {V V1 V2 V3 W : Wd} {s nx : Nat} {z' : Nat → Int32} (hI : Inv V) (hx : HX V s nx) (hc : CRec V V1 s nx (V 113)) (he : ∀ c, (c = 0 ∨ 14 < c) → (c < 106 ∨ 111 < c) → V2 c = V1 c) (h6 : V2 106 0 = V1 106 0) (h9 : V2 109 0 = V1 109 0) (hR : RS V2 1 z') (hm : MRec V2 W s (V 113)) (hf : ∀ c, c ≠ 113 → V3 c = W c) (h113 : V3 113 = z') (hz : VZ z') : Iv V V2 V3 :=
  ⟨Inv_rec hI hx hc he h6 h9 hR hm hf h113 hz, fun c h => by rw [he c (by omega) (by omega), hc.1 c (by omega)], fun c h1 h2 h3 => by rw [hf c h2, hm.1 c h1 h3]⟩
/-- both sides down and recorded -/
theorem RS_S {V V' : Wd} {k : Nat} {z z' : Nat → Int32} (hR : RS V k z) (hc : ∀ c, k < c → c < k + 14 → V' c = V c) (hz : ∀ j, 5 ≤ j → z' j = z j) (hS : z' 0 = V' k 4 ∧ z' 1 = V' k 5 ∧ z' 2 = V' k 6 ∧ z' 3 = V' k 7 ∧ z' 4 = V' k 8) : RS V' k z' := by
  obtain ⟨-, hF, hH, hB, hL⟩ := hR
  refine ⟨hS, FS_z (fun j h _ => hz j (by omega)) (FS_fr (hc _ (by omega) (by omega)) (hc _ (by omega) (by omega)) (hc _ (by omega) (by omega)) hF), HS_z (fun j h _ => hz j (by omega)) (HS_fr (hc _ (by omega) (by omega)) (hc _ (by omega) (by omega)) hH), BS_z (hz 5 (by omega)) (fun j h _ => hz j (by omega)) (BS_fr (by rw [hc _ (by omega) (by omega)]) (hc _ (by omega) (by omega)) (hc _ (by omega) (by omega)) hB), LGS_z (hz 6 (by omega)) (hz 7 (by omega)) (fun j h => hz j (by omega)) (LGS_fr (by rw [hc _ (by omega) (by omega)]) (by rw [hc _ (by omega) (by omega)]) (hc _ (by omega) (by omega)) (hc _ (by omega) (by omega)) hL)⟩
theorem RS_down {V : Wd} {z : Nat → Int32} (hR : RS V 1 z) : RS (u2 V 1 8 0) 1 (upd z 4 0) := by
  obtain ⟨h0, h1, h2, h3, h4⟩ := hR.1
  refine RS_S hR (fun c h1 h2 => u2_ne (by omega)) (fun j hj => pk_un (by omega)) ⟨?_, ?_, ?_, ?_, ?_⟩
  · rw [pk_un (by omega), u2_n (Or.inr (by omega))]; exact h0
  · rw [pk_un (by omega), u2_n (Or.inr (by omega))]; exact h1
  · rw [pk_un (by omega), u2_n (Or.inr (by omega))]; exact h2
  · rw [pk_un (by omega), u2_n (Or.inr (by omega))]; exact h3
  · rw [pk_us, u2_s]
/-- the class's part of a step that records and brings the pennant down -/
theorem c_step {V : Wd} (hI : Inv V) : ∃ s nx V0 V1, HX V s nx ∧ CRec V V0 s nx (V 113) ∧ f_X8_recordAndBringPennantDown V = some V1 ∧ (∀ c, c ≠ 1 → V1 c = V0 c) ∧ RS V1 1 (upd (V 113) 4 0) := by
  obtain ⟨g1, g2, g3, ⟨s, nx, hx⟩, g5⟩ := hI
  obtain ⟨hs, hn, e1, e2, e3, -⟩ := id hx
  obtain ⟨V0, V1, a1, a2, a3⟩ := c_down hs hn e1 e3 g1
  refine ⟨s, nx, V0, V1, hx, a2, a1, fun c hc => by rw [a3, u2_ne hc], ?_⟩
  rw [a3]
  exact RS_down (RS_frame (fun c h1 h2 => a2.1 c (by omega)) g1)
/-- the model's part -/
theorem m_step {V V0 V2 : Wd} {s nx : Nat} (hx : HX V s nx) (hc : CRec V V0 s nx (V 113)) (he : ∀ c, 111 < c → V2 c = V0 c) : ∃ W0 W, f_X9_recordAndDown V2 = some W ∧ MRec V2 W0 s (V 113) ∧ W 113 = upd (V 113) 4 0 ∧ ∀ c, c ≠ 113 → W c = W0 c := by
  obtain ⟨hs, hn, e1, e2, e3, -⟩ := id hx
  obtain ⟨W0, W, a1, a2, a3⟩ := m_down (V := V2) hs (by rw [he 112 (by omega), hc.1 112 (by omega)]; exact e2)
  have e113 : V2 113 = V 113 := by rw [he 113 (by omega), hc.1 113 (by omega)]
  rw [e113] at a2
  refine ⟨W0, W, a1, a2, ?_, fun c hc => by rw [a3, u2_ne hc]⟩
  rw [a3, u2_at, a2.1 113 (by omega) (by omega), e113]
/-- a step that records, brings the pennant down and does not read -/
theorem Inv_st {V V0 V1 V2 W0 W V3 : Wd} {s nx : Nat} {z' : Nat → Int32} (hI : Inv V) (hx : HX V s nx) (hc : CRec V V0 s nx (V 113)) (h1 : ∀ c, c ≠ 1 → V1 c = V0 c) (h2 : ∀ c, (c = 0 ∨ 14 < c) → V2 c = V1 c) (hR : RS V2 1 z') (hm : MRec V2 W0 s (V 113)) (hw : ∀ c, c ≠ 113 → W c = W0 c) (h3 : ∀ c, c ≠ 113 → V3 c = W c) (h113 : V3 113 = z') (hz : VZ z') : Iv V V2 V3 :=
  Iv_rec hI hx hc (fun c hc _ => by rw [h2 c hc, h1 c (by omega)]) (by rw [h2 106 (by omega), h1 106 (by omega)]) (by rw [h2 109 (by omega), h1 109 (by omega)]) hR hm (fun c hc => by rw [h3 c hc, hw c hc]) h113 hz
theorem Inv.e {V : Wd} (hI : Inv V) : V 113 0 = V 1 4 ∧ V 113 1 = V 1 5 ∧ V 113 2 = V 1 6 ∧ V 113 3 = V 1 7 ∧ V 113 4 = V 1 8 := hI.1.1
theorem c_cwth (k : Nat) (V : Wd) (a b : Int32) : ∀ (d n : Nat), d ≤ 10 → d < n → f_X1_countWith_5 k V a b n (nI (cw (fun f => V (k + 1) f = a ∧ V (k + 2) f = b) (10 - d))) (nI (10 - d)) = some (nI (cw (fun f => V (k + 1) f = a ∧ V (k + 2) f = b) 10)) := by
  intro d
  induction d with
  | zero =>
    intro n hd hn
    obtain ⟨n, rfl⟩ : ∃ k, n = k + 1 := ⟨n - 1, by omega⟩
    rw [f_X1_countWith_5, if_pos (by decide)]
  | succ d ih =>
    intro n hd hn
    obtain ⟨n, rfl⟩ : ∃ k, n = k + 1 := ⟨n - 1, by omega⟩
    rw [f_X1_countWith_5, if_neg (by rw [L10, nJ_le (by omega) (by omega)]; omega), rdb (n := 10 - (d + 1)) rfl (by omega) (by decide), n1 (10 - (d + 1)), n1]
    have h3 := ih n (by omega) (by omega)
    rw [show 10 - d = (10 - (d + 1)) + 1 by omega, cw] at h3
    split
    · next h1 =>
      rw [rdb (n := 10 - (d + 1)) rfl (by omega) (by decide)]
      split
      · next h2 => rw [if_pos ⟨h1, h2⟩] at h3; exact h3
      · next h2 => rw [if_neg (fun q => h2 q.2)] at h3; exact h3
    · next h1 => rw [if_neg (fun q => h1 q.1)] at h3; exact h3
theorem c_countWith (k : Nat) (V : Wd) (a b : Int32) : f_X1_countWith k V a b = some (nI (cw (fun f => V (k + 1) f = a ∧ V (k + 2) f = b) 10)) := c_cwth k V a b 10 FU_ (by omega) (by have := FU_v; omega)
theorem m_cwth (V : Wd) (x1 a b x4 : Int32) : ∀ (d n : Nat), d ≤ 10 → d < n → f_X9_paint_94 x1 a b x4 n V (nI (cw (fun f => zH (V 113) f = a ∧ zF (V 113) f = b) (10 - d))) (nI (10 - d)) = some (nI (cw (fun f => zH (V 113) f = a ∧ zF (V 113) f = b) 10), V) := by
  intro d
  induction d with
  | zero =>
    intro n hd hn
    obtain ⟨n, rfl⟩ : ∃ k, n = k + 1 := ⟨n - 1, by omega⟩
    rw [f_X9_paint_94, if_pos (by decide)]
  | succ d ih =>
    intro n hd hn
    obtain ⟨n, rfl⟩ : ∃ k, n = k + 1 := ⟨n - 1, by omega⟩
    rw [f_X9_paint_94, if_neg (by rw [L10, nJ_le (by omega) (by omega)]; omega), m_of0 V (by omega), obs, n1 (10 - (d + 1))]
    have h3 := ih n (by omega) (by omega)
    rw [show 10 - d = (10 - (d + 1)) + 1 by omega, cw] at h3
    split
    · next h1 =>
      rw [m_of1 V (by omega), obs]
      split
      · next h2 => rw [if_pos ⟨h1, h2⟩] at h3; rw [lib_, n1]; exact h3
      · next h2 => rw [if_neg (fun q => h2 q.2)] at h3; rw [lib_, add0]; exact h3
    · next h1 => rw [if_neg (fun q => h1 q.1)] at h3; rw [lib_, add0]; exact h3
theorem m_countW (V : Wd) (x1 a b x4 : Int32) : f_X9_paint_94 x1 a b x4 FU_ V 0 0 = some (nI (cw (fun f => zH (V 113) f = a ∧ zF (V 113) f = b) 10), V) := m_cwth V x1 a b x4 10 FU_ (by omega) (by have := FU_v; omega)
theorem mk3 {r : Int32} {V2 : Wd} {P : Int32 → Wd → Wd → Prop} (h : ∃ V3, P r V2 V3) : ∃ (r' : Int32) (V1 V3 : Wd), some (r, V2) = some (r', V1) ∧ P r' V1 V3 := by
  obtain ⟨V3, h⟩ := h
  exact ⟨r, V2, V3, rfl, h⟩
theorem if10 {α : Type} {a b : α} : (if (1 : Int32) = 0 then a else b) = b := if_neg t10
theorem if00 {α : Type} {a b : α} : (if (0 : Int32) = 0 then a else b) = a := if_pos t00
theorem st_paint : S_paint := by
  intro V hI a1 a2 a3 a4
  unfold f_X8_paint f_X9_paint f_X9_isFlag
  rcases in_n (n := 10) (by decide) a1 (by decide) with ⟨f, hf, rfl, h1, h2⟩ | ⟨h1, h2, -⟩
  · simp only [show f_X8_isBelow (nI f) 10 = 1 from h1, show f_X9_in (nI f) 0 9 = 1 from h2, if10]
    rcases in_n (n := 8) (by decide) a2 (by decide) with ⟨c, hcc, e2, k1, k2⟩ | ⟨k1, k2, -⟩
    · simp only [show f_X8_isBelow a2 8 = 1 from k1, show f_X9_in a2 0 7 = 1 from k2, if10]
      rcases in_n (n := 8) (by decide) a3 (by decide) with ⟨c', hcc', e3, l1, l2⟩ | ⟨l1, l2, -⟩
      · simp only [show f_X8_isBelow a3 8 = 1 from l1, show f_X9_in a3 0 7 = 1 from l2, if10]
        rcases in_n (n := 10) (by decide) a4 (by decide) with ⟨w, hww, e4, r1, r2⟩ | ⟨r1, r2, -⟩
        · simp only [show f_X8_isBelow a4 10 = 1 from r1, show f_X9_in a4 0 9 = 1 from r2, if10]
          obtain ⟨s, nx, V0, V1, hx, hc, g1, g2, g3⟩ := c_step hI
          rw [g1, obs]
          unfold f_X1_change
          rw [show f_X8_isBelow (nI f) 10 = 1 from h1, if_neg t10, st_n hf (by decide), st_n hf (by decide), st_n hf (by decide), obs, c_countWith, obs]
          obtain ⟨V2, hV2⟩ : ∃ V2, u2 (u2 (u2 V1 (2 + 1) f a2) (2 + 2) f a3) (2 + 3) f a4 = V2 := ⟨_, rfl⟩
          rw [hV2]
          refine mk3 ?_
          have hfr : ∀ c, c < 3 ∨ 5 < c → V2 c = V1 c := fun c hc => by rw [← hV2, u2_ne (by omega), u2_ne (by omega), u2_ne (by omega)]
          obtain ⟨W0, W, m1, m2, m3, m4⟩ := m_step hx hc (V2 := V2) (fun c hc => by rw [hfr c (by omega), g2 c (by omega)])
          have ea : (8 : Int32) + 3 * nI f = nI (8 + 3 * f) := by simp only [L8, L3, pk_mul, nI_add]
          have eb : nI (8 + 3 * f) + 1 = nI (9 + 3 * f) := by rw [n1]; congr 1; omega
          have ec : nI (8 + 3 * f) + 2 = nI (10 + 3 * f) := by rw [L2, nI_add]; congr 1; omega
          rw [m1, obs, ea, eb, ec, st_n (by omega) (by decide), st_n (by omega) (by decide), st_n (by omega) (by decide)]
          obtain ⟨V3, hV3⟩ : ∃ V3, u2 (u2 (u2 W 113 (8 + 3 * f) a2) 113 (9 + 3 * f) a3) 113 (10 + 3 * f) a4 = V3 := ⟨_, rfl⟩
          rw [hV3]
          have hz3 : V3 113 = upd (upd (upd (upd (V 113) 4 0) (8 + 3 * f) a2) (9 + 3 * f) a3) (10 + 3 * f) a4 := by rw [← hV3, u2_at, u2_at, u2_at, m3]
          have hoff : ∀ j, j < 8 ∨ 37 < j → V3 113 j = upd (V 113) 4 0 j := fun j hj => by rw [hz3, pk_un (by omega), pk_un (by omega), pk_un (by omega)]
          have hF2 : FS V2 2 (V3 113) := by
            intro j hj
            obtain ⟨i1, i2, i3⟩ := g3.2.1 j hj
            rw [hz3, ← hV2]
            by_cases q : j = f
            · subst q
              refine ⟨?_, ?_, ?_⟩
              · rw [pk_un (by omega), pk_un (by omega), pk_us, u2_ne (by omega), u2_ne (by omega), u2_s]
              · rw [pk_un (by omega), pk_us, u2_ne (by omega), u2_s]
              · rw [pk_us, u2_s]
            · refine ⟨?_, ?_, ?_⟩
              · rw [pk_un (by omega), pk_un (by omega), pk_un (by omega), u2_ne (by omega), u2_ne (by omega), u2_n (Or.inr q)]; exact i1
              · rw [pk_un (by omega), pk_un (by omega), pk_un (by omega), u2_ne (by omega), u2_n (Or.inr q), u2_ne (by omega)]; exact i2
              · rw [pk_un (by omega), pk_un (by omega), pk_un (by omega), u2_n (Or.inr q), u2_ne (by omega), u2_ne (by omega)]; exact i3
          refine ⟨V3, ?_, ?_⟩
          · rw [m_countW, cw_congr (p := fun f => zH (V3 113) f = a2 ∧ zF (V3 113) f = a3) (q := fun f => V2 (2 + 1) f = a2 ∧ V2 (2 + 2) f = a3) (fun j hj => by
              show V3 113 (8 + 3 * j) = a2 ∧ V3 113 (9 + 3 * j) = a3 ↔ _
              rw [(hF2 j hj).1, (hF2 j hj).2.1])]
          · obtain ⟨⟨i0, i1, i2, i3, i4⟩, pF, pH, pB, pL⟩ := g3
            have hv := hI.2.1
            have hz0 : ∀ j, j ≠ 4 → (j < 8 ∨ 37 < j) → V3 113 j = V 113 j := fun j h1 h2 => by rw [hoff j h2, pk_un h1]
            refine Inv_st hI hx hc g2 (fun c hc => hfr c (by omega)) (z' := V3 113) ⟨?_, hF2, HS_z (fun j h _ => hoff j (by omega)) (HS_fr (hfr _ (by omega)) (hfr _ (by omega)) pH), BS_z (hoff 5 (by omega)) (fun j h _ => hoff j (by omega)) (BS_fr (by rw [hfr _ (by omega)]) (hfr _ (by omega)) (hfr _ (by omega)) pB), LGS_z (hoff 6 (by omega)) (hoff 7 (by omega)) (fun j h => hoff j (by omega)) (LGS_fr (by rw [hfr _ (by omega)]) (by rw [hfr _ (by omega)]) (hfr _ (by omega)) (hfr _ (by omega)) pL)⟩ m2 m4 (fun c hc => by rw [← hV3, u2_ne hc, u2_ne hc, u2_ne hc]) rfl (VZ_mk (by rw [hz0 3 (by omega) (by omega)]; exact hv.1) (by rw [hoff 4 (by omega), pk_us]) (Vb_z (hz0 5 (by omega) (by omega)) (fun j h _ => hz0 j (by omega) (by omega)) hv.b) (Vl_z (hz0 6 (by omega) (by omega)) (fun j h => hz0 j (by omega) (by omega)) hv.l) (Vh_z (fun j h _ => hz0 j (by omega) (by omega)) hv.h) (Vc_z hv.vr.sz (hz0 0 (by omega) (by omega)) (fun j h _ => hz0 j (by omega) (by omega)) hv.c))
            rw [hoff 0 (by omega), hoff 1 (by omega), hoff 2 (by omega), hoff 3 (by omega), hoff 4 (by omega), hfr 1 (by omega)]
            exact ⟨i0, i1, i2, i3, i4⟩
        · simp only [show f_X8_isBelow a4 10 = 0 from r1, show f_X9_in a4 0 9 = 0 from r2, if00]
          exact ⟨_, _, _, rfl, rfl, Iv.rf hI⟩
      · simp only [show f_X8_isBelow a3 8 = 0 from l1, show f_X9_in a3 0 7 = 0 from l2, if00]
        exact ⟨_, _, _, rfl, rfl, Iv.rf hI⟩
    · simp only [show f_X8_isBelow a2 8 = 0 from k1, show f_X9_in a2 0 7 = 0 from k2, if00]
      exact ⟨_, _, _, rfl, rfl, Iv.rf hI⟩
  · simp only [show f_X8_isBelow a1 10 = 0 from h1, show f_X9_in a1 0 9 = 0 from h2, if00]
    exact ⟨_, _, _, rfl, rfl, Iv.rf hI⟩

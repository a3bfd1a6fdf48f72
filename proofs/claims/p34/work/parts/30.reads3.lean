/-! Pure: leastWind, ifTurned, mendingExchange. -/
theorem zs0 {α : Type} {V : Wd} {k : Nat} {x : Int32} {g : Wd → Option α} : st_ V k 136 0 x g = g (u2 V k 0 x) := st_n (n := 0) (by decide) (by decide)
theorem zs1 {α : Type} {V : Wd} {k : Nat} {x : Int32} {g : Wd → Option α} : st_ V k 136 1 x g = g (u2 V k 1 x) := st_n (n := 1) (by decide) (by decide)
theorem zs2 {α : Type} {V : Wd} {k : Nat} {x : Int32} {g : Wd → Option α} : st_ V k 136 2 x g = g (u2 V k 2 x) := st_n (n := 2) (by decide) (by decide)
theorem zs3 {α : Type} {V : Wd} {k : Nat} {x : Int32} {g : Wd → Option α} : st_ V k 136 3 x g = g (u2 V k 3 x) := st_n (n := 3) (by decide) (by decide)
theorem zs4 {α : Type} {V : Wd} {k : Nat} {x : Int32} {g : Wd → Option α} : st_ V k 136 4 x g = g (u2 V k 4 x) := st_n (n := 4) (by decide) (by decide)
theorem zs5 {α : Type} {V : Wd} {k : Nat} {x : Int32} {g : Wd → Option α} : st_ V k 136 5 x g = g (u2 V k 5 x) := st_n (n := 5) (by decide) (by decide)
theorem zs6 {α : Type} {V : Wd} {k : Nat} {x : Int32} {g : Wd → Option α} : st_ V k 136 6 x g = g (u2 V k 6 x) := st_n (n := 6) (by decide) (by decide)
theorem zs7 {α : Type} {V : Wd} {k : Nat} {x : Int32} {g : Wd → Option α} : st_ V k 136 7 x g = g (u2 V k 7 x) := st_n (n := 7) (by decide) (by decide)
theorem WR_eqs {z z' : Nat → Int32} (h : ∀ j, 5 ≤ j → j < 87 → z' j = z j) : (∀ k, k < 5 → zS z' k = zS z k) ∧ (∀ k p, k < 5 → p < 4 → zG z' k p = zG z k p) ∧ en z' = en z ∧ (∀ f, f < 10 → zH z' f = zH z f ∧ zF z' f = zF z f ∧ zW z' f = zW z f) ∧ (∀ e, e < 12 → zC z' e = zC z e ∧ zO z' e = zO z e) :=
  ⟨fun k hk => h _ (by omega) (by omega), fun k p hk hp => h _ (by omega) (by omega), by unfold en; rw [h 5 (by omega) (by omega)], fun f hf => ⟨h _ (by omega) (by omega), h _ (by omega) (by omega), h _ (by omega) (by omega)⟩, fun e he => ⟨h _ (by omega) (by omega), h _ (by omega) (by omega)⟩⟩
theorem rc_congr {t t' : Nat → Int32} : ∀ n, (∀ p, p < n → t p = t' p) → rc t n = rc t' n
  | 0, _ => rfl
  | n + 1, h => by rw [rc, rc, rc_congr n (fun p hp => h p (by omega)), h n (by omega)]
theorem wf_congr {co wo co' wo' : Nat → Int32} {c : Int32} {n : Nat} : ∀ d, d ≤ n → (∀ e, e < n → co e = co' e ∧ wo e = wo' e) → wf co wo c n d = wf co' wo' c n d
  | 0, _, _ => rfl
  | d + 1, hd, h => by
    rw [wf, wf, wf_congr d (by omega) h, (h (n - (d + 1)) (by omega)).1, (h (n - (d + 1)) (by omega)).2]
/-- the word of the hoist h' of z' is that of the hoist h of z -/
theorem WR_cong {z z' : Nat → Int32} (hv : VR z) {h h' : Nat} (hh : h < 5) (hs : zS z' h' = zS z h) (hg : ∀ p, p < 4 → zG z' h' p = zG z h p) (hn : z' 5 = z 5) (hf : ∀ f, f < 10 → zH z' f = zH z f ∧ zF z' f = zF z f ∧ zW z' f = zW z f) (he : ∀ e, e < 12 → zC z' e = zC z e ∧ zO z' e = zO z e) (first str : Int32) : WR z' first str h' = WR z first str h := by
  obtain ⟨e1, h4, hsg⟩ := hv.sn hh
  obtain ⟨-, h12, -⟩ := hv.en
  have es : sn z' h' = sn z h := by unfold sn; rw [hs]
  have ee : en z' = en z := by unfold en; rw [hn]
  have ew : ∀ c, wz z' c = wz z c := fun c => by
    unfold wz
    rw [ee]
    exact wf_congr _ (Nat.le_refl _) (fun e h => he e (by omega))
  have et : ∀ p, p < sn z h → T_ z' first str h' p = T_ z first str h p := fun p hp => by
    unfold T_
    have e2 : FN z' h' p = FN z h p := by
      unfold FN FL
      rw [fl_congr (g := zG z h) (g' := zG z' h') 3 p (by omega) (fun j hj => hsg j (by omega)) (fun j hj => (hg j (by omega)).symm)]
    rw [e2]
    exact tk_congr (FL_ok hv hh hp).2 (fun f h => hf f h)
  unfold WR RW
  rw [es, rc_congr (sn z h) et]
  by_cases q : sn z h = 0
  · rw [if_pos q, if_pos q]
  · rw [if_neg q, if_neg q]
    split
    · rfl
    · exact ew _
theorem VR_cong {z z' : Nat → Int32} (hv : VR z) (h : ∀ j, 5 ≤ j → j < 87 → z' j = z j) : VR z' := by
  obtain ⟨⟨n, hn, e, hs⟩, hg⟩ := hv
  refine ⟨⟨n, hn, by rw [h 5 (by omega) (by omega)]; exact e, fun k hk => ?_⟩, fun k hk => ?_⟩
  · rw [h (63 + 2 * k) (by omega) (by omega), h (64 + 2 * k) (by omega) (by omega)]
    exact hs k hk
  · obtain ⟨m, hm, e2, hs2⟩ := hg k hk
    refine ⟨m, hm, (h _ (by omega) (by omega)).trans e2, fun p hp => ?_⟩
    rw [show zG z' k p = zG z k p from h _ (by omega) (by omega)]
    exact hs2 p hp
theorem ka_B (l : List Int32) : isB (ka l) := by
  unfold ka
  split
  · exact Or.inr rfl
  · exact Or.inl rfl
/-- the least of the strengths 10 - d .. 9 with P -/
def lw_ (P : Int32 → Int32) : Nat → Int32
  | 0 => -6
  | d + 1 => if P (nI (10 - (d + 1))) = 0 then lw_ P d else nI (10 - (d + 1))
theorem lw_cases (P : Int32 → Int32) : ∀ d, lw_ P d = -6 ∨ ∃ j, j < 10 ∧ lw_ P d = nI j
  | 0 => Or.inl rfl
  | d + 1 => by
    rw [lw_]
    split
    · exact lw_cases P d
    · exact Or.inr ⟨10 - (d + 1), by omega, rfl⟩
theorem c_lw_l {r : Nat} (hr : r = 106 ∨ r = 109) {z : Nat → Int32} (hv : VR z) (x1 side : Int32) : ∀ (d n : Nat) (V : Wd), d ≤ 10 → d < n → FS V 2 z → HS V 6 z → BS V 9 z → z 2 = V 1 6 → V r 0 = side → ∃ V', f_X8_leastWind_19 x1 n V r (nI (10 - d)) = some (lw_ (fun s => ka (ML (WR z (fst_ z side) s) side)) d, V') ∧ FR r V V' := by
  intro d
  induction d with
  | zero =>
    intro n V hd hn hF hH hB e2 hs
    obtain ⟨n, rfl⟩ : ∃ k, n = k + 1 := ⟨n - 1, by omega⟩
    refine ⟨V, ?_, FR.rf r V⟩
    rw [f_X8_leastWind_19, if_pos (by decide)]
    rfl
  | succ d ih =>
    intro n V hd hn hF hH hB e2 hs
    obtain ⟨n, rfl⟩ : ∃ k, n = k + 1 := ⟨n - 1, by omega⟩
    rw [f_X8_leastWind_19, if_neg (by rw [L10, nJ_le (by omega) (by omega)]; omega)]
    obtain ⟨V1, g1, g2, g3, g4⟩ := c_look (r := r) (by omega) hv hF hH hB (nI (10 - (d + 1))) (V 1 6) hs
    rw [g1, obs, c_knowsAll g2, obs, n1, show 10 - (d + 1) + 1 = 10 - d by omega, lw_]
    have ef : (if side = V 1 6 then (1 : Int32) else 0) = fst_ z side := by unfold fst_; rw [e2]
    rw [ef]
    have hc : ∀ c, c < 100 → V1 c = V c := fun c hc => g4.1 c (by omega) (by omega) (by omega)
    rcases ka_B (ML (WR z (fst_ z side) (nI (10 - (d + 1)))) side) with e0 | e0
    · rw [e0, if_pos t00, if_pos t00]
      obtain ⟨V', k1, k2⟩ := ih n V1 (by omega) (by omega) (FS_fr (hc _ (by omega)) (hc _ (by omega)) (hc _ (by omega)) hF) (HS_fr (hc _ (by omega)) (hc _ (by omega)) hH) (BS_fr (by rw [hc _ (by omega)]) (hc _ (by omega)) (hc _ (by omega)) hB) (by rw [hc 1 (by omega)]; exact e2) (by rw [g4.2 0 (by decide)]; exact hs)
      exact ⟨V', k1, g4.tr k2⟩
    · rw [e0, if_neg t10, if_neg t10]
      exact ⟨V1, rfl, g4⟩
theorem uf_at (V : Wd) (k : Nat) (f : Nat → Int32) : uf V k f k = f := by unfold uf; rw [if_pos rfl]
theorem uf_ne {V : Wd} {k c : Nat} {f : Nat → Int32} (h : c ≠ k) : uf V k f c = V c := by unfold uf; rw [if_neg h]
theorem m_lw_l {z : Nat → Int32} (hv : VR z) (side x2 : Int32) : ∀ (j n : Nat) (V : Wd) (f : Int32), j < 10 → j + 2 ≤ n → (∃ a, V 113 = upd z 1 a) → f = lw_ (fun s => ka (ML (WR z (fst_ z side) s) side)) (9 - j) → ∃ V', f_X9_leastWind_24 side n V x2 f (nI j) = some (lw_ (fun s => ka (ML (WR z (fst_ z side) s) side)) 10, V') ∧ V' 113 = upd z 1 x2 ∧ ∀ c, c ≠ 113 → V' c = V c := by
  intro j
  have step : ∀ (j : Nat) (V : Wd), j < 10 → (∃ a, V 113 = upd z 1 a) → ∃ V3, u2 V 113 1 (nI j) = V3 ∧ V3 113 = upd z 1 (nI j) ∧ (∀ c, c ≠ 113 → V3 c = V c) ∧ f_X9_knowsAll V3 side = some (ka (ML (WR z (fst_ z side) (nI j)) side)) := by
    intro j V hj hz
    obtain ⟨a, ha⟩ := hz
    refine ⟨_, rfl, ?_, fun c hc => u2_ne hc, ?_⟩
    · rw [u2_at, ha]
      funext i
      unfold upd
      split <;> rfl
    · have e3 : u2 V 113 1 (nI j) 113 = upd z 1 (nI j) := by
        rw [u2_at, ha]
        funext i
        unfold upd
        split <;> rfl
      have hq : ∀ i, 5 ≤ i → i < 87 → (upd z 1 (nI j)) i = z i := fun i h1 _ => pk_un (by omega)
      have hv3 : VR (u2 V 113 1 (nI j) 113) := by rw [e3]; exact VR_cong hv hq
      rw [m_knowsAll hv3 side, e3]
      refine congrArg (fun l => some (ka l)) (ML_congr side (fun h hh => ?_))
      obtain ⟨w1, w2, w3, w4, w5⟩ := WR_eqs hq
      show WR (upd z 1 (nI j)) (fst_ (upd z 1 (nI j)) side) (upd z 1 (nI j) 1) h = _
      rw [show fst_ (upd z 1 (nI j)) side = fst_ z side by unfold fst_; rw [pk_un (by decide)], pk_us]
      exact WR_cong hv hh (w1 h hh) (fun p hp => w2 h p hh hp) (pk_un (by decide)) w4 w5 _ _
  induction j with
  | zero =>
    intro n V f hj hn hz hf
    obtain ⟨n, rfl⟩ : ∃ k, n = k + 2 := ⟨n - 2, by omega⟩
    obtain ⟨V3, g1, g2, g3, g4⟩ := step 0 V (by decide) hz
    rw [f_X9_leastWind_24, if_neg (nI_pos (by omega)), zs1, g1, g4, obs]
    have hl : ∀ y : Int32, f_X9_leastWind_24 side (n + 1) V3 x2 y (nI 0 + -1) = some (y, u2 V3 113 1 x2) := by
      intro y
      rw [f_X9_leastWind_24, if_pos (by decide)]
      unfold f_X9_leastWind_58
      rw [zs1]
    have e10 : lw_ (fun s => ka (ML (WR z (fst_ z side) s) side)) 10 = if ka (ML (WR z (fst_ z side) (nI 0)) side) = 0 then lw_ (fun s => ka (ML (WR z (fst_ z side) s) side)) 9 else nI 0 := rfl
    rw [e10, hl, hl]
    refine ⟨u2 V3 113 1 x2, ?_, ?_, fun c hc => by rw [u2_ne hc, g3 c hc]⟩
    · rcases ka_B (ML (WR z (fst_ z side) (nI 0)) side) with e0 | e0
      · rw [e0, if_pos t00, if_pos t00, hf]
      · rw [e0, if_neg t10, if_neg t10]
    · rw [u2_at, g2]
      funext i
      unfold upd
      split <;> rfl
  | succ j ih =>
    intro n V f hj hn hz hf
    obtain ⟨n, rfl⟩ : ∃ k, n = k + 1 := ⟨n - 1, by omega⟩
    obtain ⟨V3, g1, g2, g3, g4⟩ := step (j + 1) V hj hz
    rw [f_X9_leastWind_24, if_neg (nI_pos (by omega)), zs1, g1, g4, obs, nm]
    have e10 : lw_ (fun s => ka (ML (WR z (fst_ z side) s) side)) (9 - j) = if ka (ML (WR z (fst_ z side) (nI (j + 1))) side) = 0 then lw_ (fun s => ka (ML (WR z (fst_ z side) s) side)) (9 - (j + 1)) else nI (j + 1) := by
      rw [show 9 - j = (9 - (j + 1)) + 1 by omega, lw_, show 10 - (9 - (j + 1) + 1) = j + 1 by omega]
    have hz3 : ∃ a, V3 113 = upd z 1 a := ⟨_, g2⟩
    rcases ka_B (ML (WR z (fst_ z side) (nI (j + 1))) side) with e0 | e0
    · rw [e0, if_pos t00]
      obtain ⟨V', k1, k2, k3⟩ := ih n V3 f (by omega) (by omega) hz3 (by rw [e10, e0, if_pos t00]; exact hf)
      exact ⟨V', k1, k2, fun c hc => (k3 c hc).trans (g3 c hc)⟩
    · rw [e0, if_neg t10]
      obtain ⟨V', k1, k2, k3⟩ := ih n V3 (nI (j + 1)) (by omega) (by omega) hz3 (by rw [e10, e0, if_neg t10])
      exact ⟨V', k1, k2, fun c hc => (k3 c hc).trans (g3 c hc)⟩
theorem upd_same (z : Nat → Int32) (k : Nat) : upd z k (z k) = z := by
  funext i
  unfold upd
  split
  · next h => rw [h]
  · rfl
theorem Inv_eq {V V' : Wd} (h : Inv V) (hc : ∀ c, V' c = V c) : Inv V' := by
  rw [show V' = V from funext hc]
  exact h
theorem c_rdof {V : Wd} (h : Inv V) {s : Nat} (hs : s < 2) : ∃ r, (r = 106 ∨ r = 109) ∧ kd r = 8 ∧ f_X8_readingOf V (nI s) = r ∧ V r 0 = nI s := by
  obtain ⟨h6, h9⟩ := h.sides
  rcases (show s = 0 ∨ s = 1 by omega) with rfl | rfl
  · exact ⟨106, Or.inl rfl, rfl, rfl, h6⟩
  · exact ⟨109, Or.inr rfl, rfl, rfl, h9⟩
theorem c_leastWind {V : Wd} (hI : Inv V) {s : Nat} (hs : s < 2) : ∃ V', f_X8_leastWind V (nI s) = some (lw_ (fun t => ka (ML (WR (V 113) (fst_ (V 113) (nI s)) t) (nI s))) 10, V') ∧ Ir V V' := by
  obtain ⟨⟨⟨e0, e1, e2, e3, e4⟩, hF, hH, hB, -⟩, hv, -⟩ := id hI
  unfold f_X8_leastWind
  rw [show f_X8_isBelow (nI s) 2 = 1 from bl_y (n := 2) (x := 2) rfl hs (by decide), if_neg t10]
  obtain ⟨r, hr, hk, er, es⟩ := c_rdof hI hs
  rw [er, lib_, if_pos hk]
  obtain ⟨V1, g1, g2⟩ := c_lw_l hr hv.vr (nI s) (nI s) 10 FU_ V (by decide) (by decide) hF hH hB e2 es
  exact ⟨V1, g1, Ir_FR hI hr g2⟩
theorem c_ifTurned {V : Wd} (hI : Inv V) {s : Nat} (hs : s < 2) : ∃ V', f_X8_ifTurned V (nI s) = some (nI (kn (ML (WR (V 113) (if nI s = 1 - V 113 2 then 1 else 0) (V 113 1)) (nI s))), V') ∧ Ir V V' := by
  obtain ⟨⟨⟨e0, e1, e2, e3, e4⟩, hF, hH, hB, -⟩, hv, -⟩ := id hI
  unfold f_X8_ifTurned
  rw [show f_X8_isBelow (nI s) 2 = 1 from bl_y (n := 2) (x := 2) rfl hs (by decide), if_neg t10]
  obtain ⟨r, hr, hk, er, es⟩ := c_rdof hI hs
  rw [er, lib_, if_pos hk]
  obtain ⟨V1, g1, g2, g3, g4⟩ := c_look (r := r) (by omega) hv.vr hF hH hB (V 1 5) (1 - V 1 6) es
  rw [g1, obs, c_countKnown g2, obs, e1, e2]
  exact ⟨V1, rfl, Ir_FR hI hr g4⟩

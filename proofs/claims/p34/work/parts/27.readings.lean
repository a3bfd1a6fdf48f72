/-! Pure: the class's readings. -/
theorem u2_ne {V : Wd} {k j c : Nat} {x : Int32} (h : c ≠ k) : u2 V k j x c = V c := by unfold u2; rw [if_neg h]
theorem u2_at (V : Wd) (k j : Nat) (x : Int32) : u2 V k j x k = upd (V k) j x := by unfold u2; rw [if_pos rfl]
theorem u2_s (V : Wd) (k j : Nat) (x : Int32) : u2 V k j x k j = x := by rw [u2_at]; exact pk_us
theorem u2_n {V : Wd} {k j c i : Nat} {x : Int32} (h : c ≠ k ∨ i ≠ j) : u2 V k j x c i = V c i := by
  by_cases hc : c = k
  · subst hc
    rw [u2_at]
    exact pk_un (h.resolve_left (fun q => q rfl))
  · rw [u2_ne hc]
def MG (V : Wd) (r : Nat) (L : List Int32) : Prop := V r 3 = nI L.length ∧ L.length ≤ 5 ∧ ∀ i, i < L.length → L[i]? = some (V (r + 2) i)
def FR (r : Nat) (V V' : Wd) : Prop := (∀ c, c ≠ r → c ≠ r + 1 → c ≠ r + 2 → V' c = V c) ∧ ∀ j, j ≠ 3 → V' r j = V r j
theorem FR.rf (r : Nat) (V : Wd) : FR r V V := ⟨fun _ _ _ _ => rfl, fun _ _ => rfl⟩
theorem FR.tr {r : Nat} {V V1 V2 : Wd} (h : FR r V V1) (g : FR r V1 V2) : FR r V V2 := ⟨fun c h0 h1 h2 => (g.1 c h0 h1 h2).trans (h.1 c h0 h1 h2), fun j hj => (g.2 j hj).trans (h.2 j hj)⟩
def sw (a b x : Nat) : Nat := if x = a then b else if x = b then a else x
theorem sw_lt {a b x : Nat} (ha : a < 5) (hb : b < 5) (hx : x < 5) : sw a b x < 5 := by
  unfold sw
  split
  · exact hb
  · split <;> omega
theorem c_arr_l {r : Nat} {f : Nat → Int32} {a b : Nat} (ha : a < 5) (hb : b < 5) (side : Int32) {L : List Int32} (hL : L.length ≤ 5) : ∀ (d n : Nat) (V : Wd) (pre : List Int32), d ≤ 5 → d < n → (∀ h, h < 5 → V (r + 1) h = f h) → V r 0 = side → pre ++ sfx (fun k => f (sw a b (sd side k))) d = L → pre.length ≤ 5 - d → V r 3 = nI pre.length → (∀ i, i < pre.length → pre[i]? = some (V (r + 2) i)) →
    ∃ V', f_X5_arrange_7 r (nI a) (nI b) n V (nI (5 - d)) = some V' ∧ MG V' r L ∧ V' (r + 1) = V (r + 1) ∧ FR r V V' := by
  intro d
  induction d with
  | zero =>
    intro n V pre hd hn hw hs hp hl h3 hm
    obtain ⟨n, rfl⟩ : ∃ k, n = k + 1 := ⟨n - 1, by omega⟩
    rw [sfx, List.append_nil] at hp
    subst hp
    refine ⟨V, ?_, ⟨h3, hL, hm⟩, rfl, FR.rf r V⟩
    rw [f_X5_arrange_7, if_pos (by decide)]
  | succ d ih =>
    intro n V pre hd hn hw hs hp hl h3 hm
    obtain ⟨n, rfl⟩ : ∃ k, n = k + 1 := ⟨n - 1, by omega⟩
    have hsd : sd side (5 - (d + 1)) < 5 := sd_lt side (by omega)
    have hsw : sw a b (sd side (5 - (d + 1))) < 5 := sw_lt ha hb hsd
    have key : ∃ V', f_X5_arrange_26 r (nI a) (nI b) (fun V1 a3 => f_X5_arrange_7 r (nI a) (nI b) n V1 a3) V (nI (5 - (d + 1))) (nI (sd side (5 - (d + 1)))) = some V' ∧ MG V' r L ∧ V' (r + 1) = V (r + 1) ∧ FR r V V' := by
      have key2 : ∃ V', f_X5_arrange_49 r (nI a) (nI b) (fun V1 a3 => f_X5_arrange_7 r (nI a) (nI b) n V1 a3) V (nI (5 - (d + 1))) (nI (sw a b (sd side (5 - (d + 1))))) = some V' ∧ MG V' r L ∧ V' (r + 1) = V (r + 1) ∧ FR r V V' := by
        unfold f_X5_arrange_49
        rw [bl_y (n := 5) (x := 5) rfl hsw (by decide), if_neg (by decide), h3, bl_y (n := 5) (x := 5) rfl (by omega) (by decide), if_neg (by decide), rdb (n := sw a b (sd side (5 - (d + 1)))) rfl hsw (by decide), hw _ hsw, n1, show 5 - (d + 1) + 1 = 5 - d by omega]
        rw [sfx] at hp
        by_cases q : f (sw a b (sd side (5 - (d + 1)))) = -7
        · rw [if_pos q] at hp ⊢
          exact ih n V pre (by omega) (by omega) hw hs hp (by omega) h3 hm
        · rw [if_neg q] at hp ⊢
          rw [rdb (n := sw a b (sd side (5 - (d + 1)))) rfl hsw (by decide), hw _ hsw, st_n (by omega) (by decide)]
          unfold li_
          obtain ⟨y, hy⟩ : ∃ y, f (sw a b (sd side (5 - (d + 1)))) = y := ⟨_, rfl⟩
          rw [hy] at hp ⊢
          obtain ⟨V9, h9⟩ : ∃ V9, u2 (u2 V (r + 2) pre.length y) r 3 (u2 V (r + 2) pre.length y r 3 + 1) = V9 := ⟨_, rfl⟩
          rw [h9]
          have g1 : V9 (r + 1) = V (r + 1) := by rw [← h9, u2_ne (by omega), u2_ne (by omega)]
          have g0 : ∀ j, j ≠ 3 → V9 r j = V r j := fun j hj => by rw [← h9, u2_n (Or.inr hj), u2_ne (by omega)]
          have g3 : V9 r 3 = nI (pre ++ [y]).length := by
            rw [← h9, u2_s, u2_ne (by omega), h3, n1, List.length_append]
            rfl
          have g2 : ∀ i, V9 (r + 2) i = if i = pre.length then y else V (r + 2) i := fun i => by
            rw [← h9, u2_ne (by omega), u2_at]
            rfl
          obtain ⟨V', e1, e2, e3, e4⟩ := ih n V9 (pre ++ [y]) (by omega) (by omega) (fun h hh => by rw [g1]; exact hw h hh) (by rw [g0 0 (by decide)]; exact hs) (by rw [List.append_assoc]; exact hp) (by simp only [List.length_append, List.length_cons, List.length_nil]; omega) g3 (fun i hi => by
            rw [g2]
            rcases Nat.lt_or_ge i pre.length with q2 | q2
            · rw [if_neg (by omega), List.getElem?_append_left q2]
              exact hm i q2
            · have : i = pre.length := by simp only [List.length_append, List.length_cons, List.length_nil] at hi; omega
              subst this
              rw [if_pos rfl, List.getElem?_concat_length])
          refine ⟨V', e1, e2, e3.trans g1, FR.tr ⟨fun c h0 h1 h2 => ?_, g0⟩ e4⟩
          rw [← h9, u2_ne h0, u2_ne h2]
      unfold f_X5_arrange_26
      unfold sw at key2
      by_cases q : sd side (5 - (d + 1)) = a
      · rw [if_pos q] at key2
        rw [if_pos (by rw [q])]
        exact key2
      · rw [if_neg q] at key2
        rw [if_neg (by rw [nJ_eq (by omega) (by omega)]; exact q)]
        by_cases q2 : sd side (5 - (d + 1)) = b
        · rw [if_pos q2] at key2
          rw [if_pos (by rw [q2])]
          exact key2
        · rw [if_neg q2] at key2
          rw [if_neg (by rw [nJ_eq (by omega) (by omega)]; exact q2)]
          exact key2
    rw [f_X5_arrange_7, if_neg (by rw [L5, nJ_le (by omega) (by omega)]; omega), hs]
    by_cases q : side = 0
    · rw [if_pos q]
      rw [show sd side (5 - (d + 1)) = 5 - (d + 1) by unfold sd; rw [if_pos q]] at key
      exact key
    · rw [if_neg q, L4, pk_sub (by omega)]
      rw [show sd side (5 - (d + 1)) = 4 - (5 - (d + 1)) by unfold sd; rw [if_neg q]] at key
      exact key
theorem c_arrange {r : Nat} {V : Wd} {f : Nat → Int32} {a b : Nat} (ha : a < 5) (hb : b < 5) {side : Int32} (hw : ∀ h, h < 5 → V (r + 1) h = f h) (hs : V r 0 = side) : ∃ V', f_X5_arrange r V (nI a) (nI b) = some V' ∧ MG V' r (ML (fun h => f (sw a b h)) side) ∧ V' (r + 1) = V (r + 1) ∧ FR r V V' := by
  unfold f_X5_arrange li_
  have h5 := ML_len5 (fun h => f (sw a b h)) side
  obtain ⟨V', e1, e2, e3, e4⟩ := c_arr_l (r := r) (f := f) ha hb side h5 5 FU_ (u2 V r 3 0) [] (by decide) (by decide) (fun h hh => by rw [u2_ne (by omega)]; exact hw h hh) (by rw [u2_n (Or.inr (by decide))]; exact hs) rfl (by simp) (by rw [u2_s]; rfl) (fun i hi => by simp at hi)
  refine ⟨V', e1, e2, by rw [e3, u2_ne (by omega)], FR.tr ⟨fun c h0 _ _ => u2_ne h0, fun j hj => u2_n (Or.inr hj)⟩ e4⟩
theorem sw00 (h : Nat) : sw 0 0 h = h := by
  unfold sw
  split
  · next q => exact q.symm
  · rfl
theorem ML_congr {f g : Nat → Int32} (side : Int32) (h : ∀ k, k < 5 → f k = g k) : ML f side = ML g side := by
  unfold ML
  have key : ∀ d, d ≤ 5 → sfx (fun k => f (sd side k)) d = sfx (fun k => g (sd side k)) d := by
    intro d
    induction d with
    | zero => intro _; rfl
    | succ d ih =>
      intro hd
      rw [sfx, sfx, ih (by omega), h _ (sd_lt side (by omega))]
  exact key 5 (Nat.le_refl 5)
theorem c_look_l {r : Nat} (hr : 100 ≤ r) {z : Nat → Int32} (hv : VR z) (str first side from_ : Int32) : ∀ (d n : Nat) (V : Wd), d ≤ 5 → d < n → FS V 2 z → HS V 6 z → BS V 9 z → V r 0 = side → (∀ h, h < 5 - d → V (r + 1) h = WR z first str h) →
    ∃ V', f_X5_look_13 r 1 str from_ n V first (nI (5 - d)) = some V' ∧ MG V' r (ML (WR z first str) side) ∧ (∀ h, h < 5 → V' (r + 1) h = WR z first str h) ∧ FR r V V' := by
  intro d
  induction d with
  | zero =>
    intro n V hd hn hF hH hB hs hw
    obtain ⟨n, rfl⟩ : ∃ k, n = k + 1 := ⟨n - 1, by omega⟩
    rw [f_X5_look_13, if_pos (by decide)]
    obtain ⟨V', e1, e2, e3, e4⟩ := c_arrange (r := r) (V := V) (f := WR z first str) (a := 0) (b := 0) (by decide) (by decide) hw hs
    rw [show f_X5_arrange r V 0 0 = some V' from e1, obs]
    refine ⟨V', rfl, ?_, fun h hh => by rw [e3]; exact hw h hh, e4⟩
    rw [ML_congr side (fun k _ => by rw [sw00])] at e2
    exact e2
  | succ d ih =>
    intro n V hd hn hF hH hB hs hw
    obtain ⟨n, rfl⟩ : ∃ k, n = k + 1 := ⟨n - 1, by omega⟩
    rw [f_X5_look_13, if_neg (by rw [L5, nJ_le (by omega) (by omega)]; omega), c_readHoist (k := 1) hF hH hB hv first str (by omega), obs, st_n (by omega) (by decide), n1, show 5 - (d + 1) + 1 = 5 - d by omega]
    obtain ⟨V', e1, e2, e3, e4⟩ := ih n (u2 V (r + 1) (5 - (d + 1)) (WR z first str (5 - (d + 1)))) (by omega) (by omega) (FS_fr (u2_ne (by omega)) (u2_ne (by omega)) (u2_ne (by omega)) hF) (HS_fr (u2_ne (by omega)) (u2_ne (by omega)) hH) (BS_fr (by rw [u2_ne (by omega)]) (u2_ne (by omega)) (u2_ne (by omega)) hB) (by rw [u2_ne (by omega)]; exact hs) (fun h hh => by
      rw [u2_at]
      by_cases q : h = 5 - (d + 1)
      · subst q; exact pk_us
      · rw [pk_un q]; exact hw h (by omega))
    exact ⟨V', e1, e2, e3, FR.tr ⟨fun c h0 h1 _ => u2_ne h1, fun j _ => u2_n (Or.inl (by omega))⟩ e4⟩
theorem c_look {r : Nat} (hr : 100 ≤ r) {z : Nat → Int32} (hv : VR z) {V : Wd} (hF : FS V 2 z) (hH : HS V 6 z) (hB : BS V 9 z) (str from_ : Int32) {side : Int32} (hs : V r 0 = side) :
    ∃ V', f_X5_look r 1 V str from_ = some V' ∧ MG V' r (ML (WR z (if side = from_ then 1 else 0) str) side) ∧ (∀ h, h < 5 → V' (r + 1) h = WR z (if side = from_ then 1 else 0) str h) ∧ FR r V V' := by
  unfold f_X5_look li_ f_X8_isHoistFirst
  rw [hs]
  exact c_look_l hr hv str (if side = from_ then 1 else 0) side from_ 5 FU_ V (by decide) (by decide) hF hH hB hs (fun h hh => absurd hh (by omega))
theorem drop_cons {L : List Int32} {i : Nat} {x : Int32} (h : L[i]? = some x) : L.drop i = x :: L.drop (i + 1) := by
  obtain ⟨h1, h2⟩ := List.getElem?_eq_some_iff.mp h
  rw [List.drop_eq_getElem_cons h1, h2]
theorem c_ck_l {r : Nat} {V : Wd} {L : List Int32} (hM : MG V r L) : ∀ (d n a : Nat), d ≤ L.length → d < n → a + d < 1000 → f_X5_countKnown_4 r V n (nI a) (nI (L.length - d)) = some (nI (a + kn (L.drop (L.length - d)))) := by
  obtain ⟨h3, h5, hm⟩ := hM
  intro d
  induction d with
  | zero =>
    intro n a hd hn ha
    obtain ⟨n, rfl⟩ : ∃ k, n = k + 1 := ⟨n - 1, by omega⟩
    rw [f_X5_countKnown_4, h3, if_pos (by rw [nJ_le (by omega) (by omega)]; omega), Nat.sub_zero, List.drop_length]
    rfl
  | succ d ih =>
    intro n a hd hn ha
    obtain ⟨n, rfl⟩ : ∃ k, n = k + 1 := ⟨n - 1, by omega⟩
    rw [f_X5_countKnown_4, h3, if_neg (by rw [nJ_le (by omega) (by omega)]; omega), if_neg (by rw [L5, nJ_le (by omega) (by omega)]; omega), rdb (n := L.length - (d + 1)) rfl (by omega) (by decide), n1 (L.length - (d + 1)), drop_cons (hm (L.length - (d + 1)) (by omega)), kn, show L.length - (d + 1) + 1 = L.length - d by omega]
    by_cases q : V (r + 2) (L.length - (d + 1)) = -6
    · rw [if_pos q, if_pos q]
      exact ih n a (by omega) (by omega) (by omega)
    · rw [if_neg q, if_neg q, n1]
      refine (ih n (a + 1) (by omega) (by omega) (by omega)).trans ?_
      congr 2
      omega
theorem c_countKnown {r : Nat} {V : Wd} {L : List Int32} (hM : MG V r L) : f_X5_countKnown r V = some (nI (kn L)) := by
  have h := c_ck_l hM L.length FU_ 0 (Nat.le_refl _) (by have := hM.2.1; unfold FU_; omega) (by have := hM.2.1; omega)
  rw [Nat.sub_self, Nat.zero_add] at h
  exact h
theorem c_knowsAll {r : Nat} {V : Wd} {L : List Int32} (hM : MG V r L) : f_X5_knowsAll r V = some (ka L) := by
  unfold f_X5_knowsAll ka
  have hk := kn_le L
  have h5 := hM.2.1
  rw [c_countKnown hM, obs, hM.1]
  by_cases q : L.length = 0
  · rw [if_pos (by rw [q]; decide), if_neg (fun h => h.1 q)]
  · rw [if_neg (by rw [L0, nJ_le (by omega) (by omega)]; omega)]
    by_cases q2 : kn L = L.length
    · rw [if_pos (by rw [q2]), if_pos ⟨q, q2⟩]
    · rw [if_neg (by rw [nJ_eq (by omega) (by omega)]; exact q2), if_neg (fun h => q2 h.2)]
theorem c_ag_l {r s : Nat} {V : Wd} {L M : List Int32} (hM : MG V r L) (hN : MG V s M) (hl : L.length = M.length) : ∀ (d n : Nat), d ≤ L.length → d < n → f_X5_agreesWith_22 r s V n (nI (L.length - d)) = some (if L.drop (L.length - d) = M.drop (L.length - d) then 1 else 0) := by
  obtain ⟨h3, h5, hm⟩ := hM
  obtain ⟨-, -, hn2⟩ := hN
  intro d
  induction d with
  | zero =>
    intro n hd hn
    obtain ⟨n, rfl⟩ : ∃ k, n = k + 1 := ⟨n - 1, by omega⟩
    rw [f_X5_agreesWith_22, h3, if_pos (by rw [nJ_le (by omega) (by omega)]; omega), Nat.sub_zero, List.drop_length, hl, List.drop_length, if_pos rfl]
  | succ d ih =>
    intro n hd hn
    obtain ⟨n, rfl⟩ : ∃ k, n = k + 1 := ⟨n - 1, by omega⟩
    rw [f_X5_agreesWith_22, h3, if_neg (by rw [nJ_le (by omega) (by omega)]; omega), if_neg (by rw [L5, nJ_le (by omega) (by omega)]; omega), rdb (n := L.length - (d + 1)) rfl (by omega) (by decide), rdb (n := L.length - (d + 1)) rfl (by omega) (by decide), n1, drop_cons (hm (L.length - (d + 1)) (by omega)), drop_cons (hn2 (L.length - (d + 1)) (by omega)), show L.length - (d + 1) + 1 = L.length - d by omega]
    by_cases q : V (r + 2) (L.length - (d + 1)) = V (s + 2) (L.length - (d + 1))
    · rw [if_pos q, ih n (by omega) (by omega)]
      by_cases q2 : L.drop (L.length - d) = M.drop (L.length - d)
      · rw [if_pos q2, if_pos (by rw [q, q2])]
      · rw [if_neg q2, if_neg (fun h => q2 (List.cons.inj h).2)]
    · rw [if_neg q, if_neg (fun h => q (List.cons.inj h).1)]
theorem c_agrees {r s : Nat} {V : Wd} {L M : List Int32} (hM : MG V r L) (hN : MG V s M) : f_X5_agreesWith r s V = some (ag L M) := by
  unfold f_X5_agreesWith ag
  have h5 := hM.2.1
  have h6 := hN.2.1
  rw [c_knowsAll hM, obs, hM.1, hN.1]
  unfold ka
  by_cases q : L.length ≠ 0 ∧ kn L = L.length
  · rw [if_pos q, if_neg (by decide)]
    by_cases q2 : L.length = M.length
    · rw [if_pos (by rw [q2])]
      have h := c_ag_l hM hN q2 L.length FU_ (Nat.le_refl _) (by unfold FU_; omega)
      rw [Nat.sub_self, List.drop_zero, List.drop_zero] at h
      refine h.trans ?_
      by_cases q3 : L = M
      · rw [if_pos q3, if_pos ⟨q, q3⟩]
      · rw [if_neg q3, if_neg (fun h => q3 h.2)]
    · rw [if_neg (by rw [nJ_eq (by omega) (by omega)]; exact q2), if_neg (fun h => q2 (by rw [h.2]))]
  · rw [if_neg q, if_pos rfl, if_neg (fun h => q h.1)]

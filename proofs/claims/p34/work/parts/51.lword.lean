/-! Pure: the law's word of a hoist, by digits. -/
theorem rc_val {t : Nat → Int32} : ∀ n, n ≤ 4 → (∀ p, p < n → t p = -6 ∨ ∃ j, j < 10 ∧ t p = nI j) → rc t n = none ∨ ∃ M, 1 ≤ M ∧ M < 2 * 10 ^ n ∧ rc t n = some (nI M)
  | 0, _, _ => Or.inr ⟨1, by decide, by decide, rfl⟩
  | n + 1, hn, ht => by
    rw [rc]
    rcases rc_val n (by omega) (fun p hp => ht p (by omega)) with e | ⟨M, h1, h2, e⟩
    · rw [e]; exact Or.inl rfl
    · rw [e]
      dsimp only
      rcases ht n (by omega) with e6 | ⟨j, hj, ej⟩
      · rw [if_pos e6]; exact Or.inl rfl
      · rw [ej, if_neg (nI_ne6 (by omega))]
        refine Or.inr ⟨10 * M + j, by omega, ?_, by rw [x10]⟩
        rw [Nat.pow_succ]
        omega
/-- the last p digits of N are what the reader takes, the rest is 1 -/
def MT (t : Nat → Int32) : Nat → Nat → Prop
  | 0, N => N = 1
  | p + 1, N => (nI (N % 10) = t p ∧ 9 < N) ∧ MT t p (N / 10)
theorem MT_rc {t : Nat → Int32} : ∀ n N, n ≤ 4 → N < 20000 → (∀ p, p < n → t p = -6 ∨ ∃ j, j < 10 ∧ t p = nI j) → (MT t n N ↔ rc t n = some (nI N))
  | 0, N, _, hN, _ => by
    show N = 1 ↔ some 1 = some (nI N)
    rw [Option.some.injEq, L1, nJ_eq (by omega) (by omega)]
    omega
  | n + 1, N, hn, hN, ht => by
    have ih := MT_rc n (N / 10) (by omega) (by omega) (fun p hp => ht p (by omega))
    rw [MT, rc, ih]
    rcases rc_val n (by omega) (fun p hp => ht p (by omega)) with e | ⟨M, h1, h2, e⟩
    · rw [e]
      exact ⟨fun h => (by cases h.2), fun h => (by cases h)⟩
    · rw [e]
      dsimp only
      have h10 : 10 ^ n ≤ 10 ^ 3 := Nat.pow_le_pow_right (by decide) (by omega)
      have h4 : (10 : Nat) ^ 3 = 1000 := by decide
      rcases ht n (by omega) with e6 | ⟨j, hj, ej⟩
      · rw [e6, if_pos rfl]
        exact ⟨fun h => absurd h.1.1 (nI_ne6 (by omega)), fun h => by cases h⟩
      · rw [ej, if_neg (nI_ne6 (by omega)), x10, Option.some.injEq, Option.some.injEq, nJ_eq (by omega) (by omega), nJ_eq (by omega) (by omega), nJ_eq (by omega) (by omega)]
        omega
theorem T_cases {z : Nat → Int32} (first str : Int32) (h p : Nat) : T_ z first str h p = -6 ∨ ∃ j, j < 10 ∧ T_ z first str h p = nI j := tk_cases _ _ _ _ _ _
theorem l_w0 (V : Wd) (x4 x5 x6 : Int32) (K3 : Int32 → Option Int32) : ∀ (p n N : Nat), p ≤ 4 → p < n → N < 20000 → f_L_word_32 V x4 x5 K3 n x6 (nI N) 0 (nI p - 1) = K3 (x6 + 1) := by
  intro p
  induction p with
  | zero =>
    intro n N hp hn hN
    obtain ⟨n, rfl⟩ : ∃ k, n = k + 1 := ⟨n - 1, by omega⟩
    rw [f_L_word_32, if_pos (by decide)]
    unfold f_L_word_92
    rw [if_pos t00]
  | succ p ih =>
    intro n N hp hn hN
    obtain ⟨n, rfl⟩ : ∃ k, n = k + 1 := ⟨n - 1, by omega⟩
    rw [f_L_word_32, ns1, if_neg (nI_pos (by omega)), if_pos t00]
    unfold f_L_word_76
    rw [lib_, dv10 (by omega), mm1]
    exact ih n (N / 10) (by omega) (by omega) (by omega)
theorem l_w1 {V : Wd} {z : Nat → Int32} (hR : RR V z) {s h e : Nat} (hs : s < 2) (hh : h < 5) (he : e < en z) (K3 : Int32 → Option Int32) : ∀ (p n N : Nat), p ≤ sn z h → p < n → N < 20000 →
    (MT (T_ z (fst_ z (nI s)) (z 1) h) p N ∧ f_L_word_32 V (nI s) (nI h) K3 n (nI e) (nI N) 1 (nI p - 1) = some (zO z e)) ∨ (¬ MT (T_ z (fst_ z (nI s)) (z 1) h) p N ∧ f_L_word_32 V (nI s) (nI h) K3 n (nI e) (nI N) 1 (nI p - 1) = K3 (nI e + 1)) := by
  have h4 := (hR.1.sn hh).2.1
  have h12 := hR.1.en.2.1
  intro p
  induction p with
  | zero =>
    intro n N hp hn hN
    obtain ⟨n, rfl⟩ : ∃ k, n = k + 1 := ⟨n - 1, by omega⟩
    rw [f_L_word_32, if_pos (by decide)]
    unfold f_L_word_92
    rw [if_neg t10]
    by_cases q : N = 1
    · refine Or.inl ⟨q, ?_⟩
      rw [if_pos (by rw [q]; rfl)]
      unfold f_L_word_103
      rw [rdb (n := 2 * e + 1) (i2_1 e) (by omega) (by omega), (hR.2.2.2.2.1 e he).2]
    · refine Or.inr ⟨q, ?_⟩
      rw [if_neg (by rw [L1, nJ_eq (by omega) (by omega)]; exact q)]
  | succ p ih =>
    intro n N hp hn hN
    obtain ⟨n, rfl⟩ : ∃ k, n = k + 1 := ⟨n - 1, by omega⟩
    have hf := (FL_ok hR.1 hh (p := p) (by omega)).2
    rw [f_L_word_32, ns1, if_neg (nI_pos (by omega)), if_neg t10, l_stands hR hh (by omega), obs, l_taken hR hs hf, obs, rm10 (by omega)]
    by_cases q : nI (N % 10) = T_ z (fst_ z (nI s)) (z 1) h p
    · rw [if_pos (show nI (N % 10) = tk (zH z) (zF z) (zW z) (fst_ z (nI s)) (z 1) (FN z h p) from q)]
      by_cases q9 : 9 < N
      · rw [if_neg (by rw [L9, nJ_le (by omega) (by omega)]; omega), lib_, dv10 (by omega), mm1]
        rcases ih n (N / 10) (by omega) (by omega) (by omega) with ⟨g1, g2⟩ | ⟨g1, g2⟩
        · exact Or.inl ⟨⟨⟨q, q9⟩, g1⟩, g2⟩
        · exact Or.inr ⟨fun hx => g1 hx.2, g2⟩
      · rw [if_pos (by rw [L9, nJ_le (by omega) (by omega)]; omega)]
        unfold f_L_word_76
        rw [lib_, dv10 (by omega), mm1]
        exact Or.inr ⟨fun hx => q9 hx.1.2, l_w0 V _ _ _ K3 p n (N / 10) (by omega) (by omega) (by omega)⟩
    · rw [if_neg (show ¬ nI (N % 10) = tk (zH z) (zF z) (zW z) (fst_ z (nI s)) (z 1) (FN z h p) from q)]
      unfold f_L_word_76
      rw [lib_, dv10 (by omega), mm1]
      exact Or.inr ⟨fun hx => q hx.1.1, l_w0 V _ _ _ K3 p n (N / 10) (by omega) (by omega) (by omega)⟩
theorem CD_lt {c : Int32} (h : CD c) : ∃ N, c = nI N ∧ 10 ≤ N ∧ N < 20000 := by
  obtain ⟨n, e, h⟩ := h
  exact ⟨n, e, by omega, by omega⟩
def wO (z : Nat → Int32) (o : Option Int32) (d : Nat) : Int32 := match o with
  | none => -6
  | some c => wf (zC z) (zO z) c (en z) d
theorem l_word_l {V : Wd} {z : Nat → Int32} (hR : RR V z) {s h : Nat} (hs : s < 2) (hh : h < 5) : ∀ (d n : Nat), d ≤ en z → d < n → f_L_word_3 V (nI s) (nI h) n (nI (en z - d)) = some (wO z (rc (T_ z (fst_ z (nI s)) (z 1) h) (sn z h)) d) := by
  have hF := FU_v
  have h4 := (hR.1.sn hh).2.1
  obtain ⟨e5, h12, hen⟩ := hR.1.en
  intro d
  induction d with
  | zero =>
    intro n hd hn
    obtain ⟨n, rfl⟩ : ∃ k, n = k + 1 := ⟨n - 1, by omega⟩
    rw [f_L_word_3, tr5, hR.2.2.2.2.2.2.2, e5, if_pos (by rw [nJ_le (by omega) (by omega)]; omega)]
    cases rc (T_ z (fst_ z (nI s)) (z 1) h) (sn z h) <;> rfl
  | succ d ih =>
    intro n hd hn
    obtain ⟨n, rfl⟩ : ∃ k, n = k + 1 := ⟨n - 1, by omega⟩
    obtain ⟨e, hee⟩ : ∃ e, e = en z - (d + 1) := ⟨_, rfl⟩
    have h3 := ih n (by omega) (by omega)
    obtain ⟨N, eN, -, hN⟩ := CD_lt (hen e (by omega)).1
    rw [f_L_word_3, ← hee, tr5, hR.2.2.2.2.2.2.2, e5, if_neg (by rw [nJ_le (by omega) (by omega)]; omega), rdb (n := 2 * e) (i2_0 e) (by omega) (by omega), (hR.2.2.2.2.1 e (by omega)).1, eN, l_many hR hh, obs, lib_]
    rw [show en z - d = e + 1 by omega, ← n1] at h3
    have hm := MT_rc (t := T_ z (fst_ z (nI s)) (z 1) h) (sn z h) N h4 hN (fun p _ => T_cases _ _ _ _)
    rcases l_w1 hR hs hh (show e < en z by omega) (fun a6 => f_L_word_3 V (nI s) (nI h) n a6) (sn z h) FU_ N (by omega) (by omega) hN with ⟨g1, g2⟩ | ⟨g1, g2⟩
    · rw [g2, hm.mp g1]
      show some (zO z e) = some (if zC z (en z - (d + 1)) = nI N then zO z (en z - (d + 1)) else wf (zC z) (zO z) (nI N) (en z) d)
      rw [← hee, if_pos eN]
    · rw [g2, h3]
      cases hr : rc (T_ z (fst_ z (nI s)) (z 1) h) (sn z h) with
      | none => rfl
      | some c =>
        show some (wf (zC z) (zO z) c (en z) d) = some (if zC z (en z - (d + 1)) = c then zO z (en z - (d + 1)) else wf (zC z) (zO z) c (en z) d)
        rw [← hee, if_neg]
        intro hc
        apply g1
        rw [hm, hr, ← eN, hc]
theorem l_word {V : Wd} {z : Nat → Int32} (hR : RR V z) {s h : Nat} (hs : s < 2) (hh : h < 5) : f_L_word V (nI s) (nI h) = some (RW z (fst_ z (nI s)) (z 1) h) := by
  have hF := FU_v
  have h12 := hR.1.en.2.1
  unfold f_L_word
  rw [show (0 : Int32) = nI (en z - en z) by rw [Nat.sub_self]; rfl, l_word_l hR hs hh (en z) FU_ (Nat.le_refl _) (by omega)]
  unfold RW wz
  cases rc (T_ z (fst_ z (nI s)) (z 1) h) (sn z h) <;> rfl

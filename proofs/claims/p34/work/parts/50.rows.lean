/-! Pure: the law's five rows say what a z-row says; the law's small words over them. -/
theorem L9 : (9 : Int32) = nI 9 := rfl
theorem L11 : (11 : Int32) = nI 11 := rfl
theorem L20 : (20 : Int32) = nI 20 := rfl
theorem tr0 {β : Type} (f : Nat → Int32) (g : Int32 → Option β) : (rd_ f 7 0).bind g = g (f 0) := rdb (n := 0) rfl (by decide) (by decide)
theorem tr1 {β : Type} (f : Nat → Int32) (g : Int32 → Option β) : (rd_ f 7 1).bind g = g (f 1) := rdb (n := 1) rfl (by decide) (by decide)
theorem tr2 {β : Type} (f : Nat → Int32) (g : Int32 → Option β) : (rd_ f 7 2).bind g = g (f 2) := rdb (n := 2) rfl (by decide) (by decide)
theorem tr3 {β : Type} (f : Nat → Int32) (g : Int32 → Option β) : (rd_ f 7 3).bind g = g (f 3) := rdb (n := 3) rfl (by decide) (by decide)
theorem tr4 {β : Type} (f : Nat → Int32) (g : Int32 → Option β) : (rd_ f 7 4).bind g = g (f 4) := rdb (n := 4) rfl (by decide) (by decide)
theorem tr5 {β : Type} (f : Nat → Int32) (g : Int32 → Option β) : (rd_ f 7 5).bind g = g (f 5) := rdb (n := 5) rfl (by decide) (by decide)
theorem tr6 {β : Type} (f : Nat → Int32) (g : Int32 → Option β) : (rd_ f 7 6).bind g = g (f 6) := rdb (n := 6) rfl (by decide) (by decide)
theorem ts0 {α : Type} {V : Wd} {k : Nat} {x : Int32} {g : Wd → Option α} : st_ V k 7 0 x g = g (u2 V k 0 x) := st_n (n := 0) (by decide) (by decide)
theorem ts1 {α : Type} {V : Wd} {k : Nat} {x : Int32} {g : Wd → Option α} : st_ V k 7 1 x g = g (u2 V k 1 x) := st_n (n := 1) (by decide) (by decide)
theorem ts2 {α : Type} {V : Wd} {k : Nat} {x : Int32} {g : Wd → Option α} : st_ V k 7 2 x g = g (u2 V k 2 x) := st_n (n := 2) (by decide) (by decide)
theorem ts3 {α : Type} {V : Wd} {k : Nat} {x : Int32} {g : Wd → Option α} : st_ V k 7 3 x g = g (u2 V k 3 x) := st_n (n := 3) (by decide) (by decide)
theorem ts4 {α : Type} {V : Wd} {k : Nat} {x : Int32} {g : Wd → Option α} : st_ V k 7 4 x g = g (u2 V k 4 x) := st_n (n := 4) (by decide) (by decide)
theorem ts5 {α : Type} {V : Wd} {k : Nat} {x : Int32} {g : Wd → Option α} : st_ V k 7 5 x g = g (u2 V k 5 x) := st_n (n := 5) (by decide) (by decide)
theorem ts6 {α : Type} {V : Wd} {k : Nat} {x : Int32} {g : Wd → Option α} : st_ V k 7 6 x g = g (u2 V k 6 x) := st_n (n := 6) (by decide) (by decide)
def RC (V : Wd) (z : Nat → Int32) : Prop := ∀ j, j < 30 → V 118 j = z (8 + j)
def RM (V : Wd) (z : Nat → Int32) : Prop := ∀ h p, h < 5 → p < 4 → V 119 (4 * h + p) = if p < sn z h then zG z h p else -1
def RB (V : Wd) (z : Nat → Int32) : Prop := ∀ e, e < en z → V 120 (2 * e) = zC z e ∧ V 120 (2 * e + 1) = zO z e
def RT (V : Wd) (z : Nat → Int32) : Prop := V 122 1 = z 1 ∧ V 122 2 = z 2 ∧ V 122 5 = z 5
def VCo (z : Nat → Int32) : Prop := (∀ f, f < 10 → ∃ a b w, a < 8 ∧ b < 8 ∧ w < 10 ∧ zH z f = nI a ∧ zF z f = nI b ∧ zW z f = nI w) ∧ (z 2 = 0 ∨ z 2 = 1)
/-- what the law's words of hoists and readers rest on -/
def RR (V : Wd) (z : Nat → Int32) : Prop := VR z ∧ VCo z ∧ RC V z ∧ RM V z ∧ RB V z ∧ RT V z
theorem SG_nI {x : Int32} {p : Nat} (h : SG x p) : ∃ k, k ≤ 13 ∧ x = nI k := by
  rcases h with ⟨f, hf, rfl⟩ | ⟨q, h1, h2, h3, rfl⟩
  · exact ⟨f, by omega, rfl⟩
  · exact ⟨10 + q, by omega, rfl⟩
theorem mm1 (p : Nat) : nI p + (-1) = nI p - 1 := by
  cases p with
  | zero => decide
  | succ q => rw [nm, ns1]
theorem i4 (h p : Nat) : 4 * nI h + nI p = nI (4 * h + p) := by simp only [L4, pk_mul, nI_add]
theorem i40 (h : Nat) : 4 * nI h = nI (4 * h) := by simp only [L4, pk_mul]
theorem i3_0 (f : Nat) : 3 * nI f = nI (3 * f) := by simp only [L3, pk_mul]
theorem i3_1 (f : Nat) : 3 * nI f + 1 = nI (3 * f + 1) := by rw [i3_0, n1]
theorem i3_2 (f : Nat) : 3 * nI f + 2 = nI (3 * f + 2) := by rw [i3_0, L2, nI_add]
theorem i2_0 (e : Nat) : 2 * nI e = nI (2 * e) := by simp only [L2, pk_mul]
theorem i2_1 (e : Nat) : 2 * nI e + 1 = nI (2 * e + 1) := by rw [i2_0, n1]
theorem rm_y {V : Wd} {z : Nat → Int32} (hM : RM V z) {h p : Nat} (hh : h < 5) (hp : p < sn z h) (h4 : sn z h ≤ 4) : V 119 (4 * h + p) = zG z h p := by
  rw [hM h p hh (by omega), if_pos hp]
theorem rm_n {V : Wd} {z : Nat → Int32} (hM : RM V z) {h p : Nat} (hh : h < 5) (hp : sn z h ≤ p) (h4 : p < 4) : V 119 (4 * h + p) = -1 := by
  rw [hM h p hh h4, if_neg (by omega)]
theorem l_many_l {V : Wd} {z : Nat → Int32} (hv : VR z) (hM : RM V z) {h : Nat} (hh : h < 5) : ∀ (d n p : Nat), p + d = sn z h → d < n → f_L_many_2 V (nI h) n (nI p) = some (nI (sn z h)) := by
  obtain ⟨e1, h4, hs⟩ := hv.sn hh
  intro d
  induction d with
  | zero =>
    intro n p hp hn
    obtain ⟨n, rfl⟩ : ∃ k, n = k + 1 := ⟨n - 1, by omega⟩
    have ep : p = sn z h := by omega
    rw [f_L_many_2]
    by_cases q : p = 4
    · rw [if_pos (by rw [q]; decide), ep]
    · rw [if_neg (by rw [L4, nJ_le (by omega) (by omega)]; omega), rdb (n := 4 * h + p) (i4 h p) (by omega) (by omega), rm_n hM hh (by omega) (by omega), if_pos (by decide), ep]
  | succ d ih =>
    intro n p hp hn
    obtain ⟨n, rfl⟩ : ∃ k, n = k + 1 := ⟨n - 1, by omega⟩
    obtain ⟨k, hk, ek⟩ := SG_nI (hs p (by omega))
    rw [f_L_many_2, if_neg (by rw [L4, nJ_le (by omega) (by omega)]; omega), rdb (n := 4 * h + p) (i4 h p) (by omega) (by omega), rm_y hM hh (by omega) h4, ek, if_neg (nI_pos (by omega)), n1]
    exact ih n (p + 1) (by omega) (by omega)
theorem l_many {V : Wd} {z : Nat → Int32} (hR : RR V z) {h : Nat} (hh : h < 5) : f_L_many V (nI h) = some (nI (sn z h)) := by
  have hF := FU_v
  have h4 := (hR.1.sn hh).2.1
  unfold f_L_many
  rw [L0]
  exact l_many_l hR.1 hR.2.2.2.1 hh (sn z h) FU_ 0 (by omega) (by omega)
theorem l_stands_l {V : Wd} {z : Nat → Int32} (hv : VR z) (hM : RM V z) {h : Nat} (hh : h < 5) (x2 : Int32) : ∀ (d p k n : Nat), p ≤ d → d + k ≤ 3 → d < n → p < sn z h → f_L_stands_11 V (nI h) x2 n (zG z h p) (nI k) = some (fl (zG z h) d p) := by
  obtain ⟨e1, h4, hs⟩ := hv.sn hh
  intro d
  induction d with
  | zero =>
    intro p k n hp hk hn hps
    obtain ⟨n, rfl⟩ : ∃ k, n = k + 1 := ⟨n - 1, by omega⟩
    obtain rfl : p = 0 := by omega
    rcases SG_le (hs 0 hps) with ⟨h1, f, hf, e⟩ | ⟨h1, q, hq, -⟩
    · rw [f_L_stands_11, if_neg (by rw [L4, nJ_le (by omega) (by omega)]; omega), if_pos (by rw [e, L9, nJ_le (by omega) (by omega)]; omega)]
      rfl
    · omega
  | succ d ih =>
    intro p k n hp hk hn hps
    obtain ⟨n, rfl⟩ : ∃ k, n = k + 1 := ⟨n - 1, by omega⟩
    rcases SG_le (hs p hps) with ⟨h1, f, hf, e⟩ | ⟨h1, q, hq, hq3, e, e2⟩
    · rw [f_L_stands_11, if_neg (by rw [L4, nJ_le (by omega) (by omega)]; omega), if_pos (by rw [e, L9, nJ_le (by omega) (by omega)]; omega), fl, if_pos h1]
    · have hR : fl (zG z h) (d + 1) p = fl (zG z h) d q := by rw [fl, if_neg h1, e, nI_clamp (by omega), show q + 1 - 1 = q by omega]
      have ei : 4 * nI h + nI (11 + q) - 11 = nI (4 * h + q) := by
        rw [i4, L11, pk_sub (by omega)]
        congr 1
        omega
      rw [hR, f_L_stands_11, if_neg (by rw [L4, nJ_le (by omega) (by omega)]; omega), e2, if_neg (by rw [L9, nJ_le (by omega) (by omega)]; omega), rdb (n := 4 * h + q) ei (by omega) (by omega), rm_y hM hh (by omega) h4, n1]
      exact ih q (k + 1) n (by omega) (by omega) (by omega) (by omega)
theorem l_stands {V : Wd} {z : Nat → Int32} (hR : RR V z) {h p : Nat} (hh : h < 5) (hp : p < sn z h) : f_L_stands V (nI h) (nI p) = some (nI (FN z h p)) := by
  have hF := FU_v
  have h4 := (hR.1.sn hh).2.1
  unfold f_L_stands
  rw [rdb (n := 4 * h + p) (i4 h p) (by omega) (by omega), rm_y hR.2.2.2.1 hh hp h4, L0, l_stands_l hR.1 hR.2.2.2.1 hh (nI p) 3 p 0 FU_ (by omega) (by omega) (by omega) hp]
  exact congrArg some (FL_ok hR.1 hh hp).1
theorem eqc {a b c d : Nat} (ha : a < 8) (hb : b < 8) (hc : c < 8) (hd : d < 8) : 10 * nI a + nI b = 10 * nI c + nI d ↔ nI a = nI c ∧ nI b = nI d := by
  rw [x10, x10, nJ_eq (by omega) (by omega), nJ_eq (by omega) (by omega), nJ_eq (by omega) (by omega)]
  omega
theorem rc_0 {V : Wd} {z : Nat → Int32} (hC : RC V z) {f : Nat} (hf : f < 10) : V 118 (3 * f) = zH z f := hC _ (by omega)
theorem rc_1 {V : Wd} {z : Nat → Int32} (hC : RC V z) {f : Nat} (hf : f < 10) : V 118 (3 * f + 1) = zF z f := by
  rw [hC _ (by omega)]
  show z _ = z _
  congr 1
  omega
theorem rc_2 {V : Wd} {z : Nat → Int32} (hC : RC V z) {f : Nat} (hf : f < 10) : V 118 (3 * f + 2) = zW z f := by
  rw [hC _ (by omega)]
  show z _ = z _
  congr 1
  omega
theorem l_taken_l {V : Wd} {z : Nat → Int32} (hR : RR V z) (x2 : Int32) {f : Nat} (hf : f < 10) {a b : Nat} (ha : a < 8) (hb : b < 8) : ∀ (d n : Nat), d ≤ 10 → d < n → f_L_taken_49 V x2 (nI f) n (10 * nI a + nI b) (nI (10 - d)) = some (if zW z f ≤ z 1 then fw (zH z) (zF z) (nI a) (nI b) d else -6) := by
  obtain ⟨hv, hc, hC, hM, hB, hT⟩ := hR
  intro d
  induction d with
  | zero =>
    intro n hd hn
    obtain ⟨n, rfl⟩ : ∃ k, n = k + 1 := ⟨n - 1, by omega⟩
    rw [f_L_taken_49, if_pos (by decide)]
    split <;> rfl
  | succ d ih =>
    intro n hd hn
    obtain ⟨n, rfl⟩ : ∃ k, n = k + 1 := ⟨n - 1, by omega⟩
    obtain ⟨i, hi⟩ : ∃ i, i = 10 - (d + 1) := ⟨_, rfl⟩
    have h3 := ih n (by omega) (by omega)
    rw [f_L_taken_49, ← hi, if_neg (by rw [L10, nJ_le (by omega) (by omega)]; omega), rdb (n := 3 * f + 2) (i3_2 f) (by omega) (by omega), rc_2 hC hf, tr1, hT.1]
    by_cases qw : zW z f ≤ z 1
    · obtain ⟨c, d', w, hc1, hd1, -, eh, ef, -⟩ := hc.1 i (by omega)
      rw [if_neg (nlt_le.mpr qw), if_pos qw, rdb (n := 3 * i) (i3_0 i) (by omega) (by omega), rc_0 hC (by omega), rdb (n := 3 * i + 1) (i3_1 i) (by omega) (by omega), rc_1 hC (by omega), fw, ← hi, n1, show i + 1 = 10 - d by omega, h3, if_pos qw, eh, ef]
      simp only [eqc hc1 hd1 ha hb]
      by_cases q : nI c = nI a ∧ nI d' = nI b
      · rw [if_pos q, if_pos q]
      · rw [if_neg q, if_neg q]
    · rw [if_pos (nle_lt.mp qw), if_neg qw]
theorem sd2 {x : Int32} (h : x = 0 ∨ x = 1) : ∃ s, s < 2 ∧ x = nI s := by
  rcases h with h | h
  · exact ⟨0, by omega, h⟩
  · exact ⟨1, by omega, h⟩
theorem l_taken {V : Wd} {z : Nat → Int32} (hR : RR V z) {s f : Nat} (hs : s < 2) (hf : f < 10) : f_L_taken V (nI s) (nI f) = some (tk (zH z) (zF z) (zW z) (fst_ z (nI s)) (z 1) f) := by
  have hF := FU_v
  obtain ⟨hv, hc, hC, hM, hB, hT⟩ := id hR
  obtain ⟨a, b, w, ha, hb, -, eh, ef, -⟩ := hc.1 f hf
  unfold f_L_taken
  rw [tr2, hT.2.1, rdb (n := 3 * f + 1) (i3_1 f) (by omega) (by omega), rdb (n := 3 * f) (i3_0 f) (by omega) (by omega), rdb (n := 3 * f) (i3_0 f) (by omega) (by omega), rdb (n := 3 * f + 1) (i3_1 f) (by omega) (by omega), rc_0 hC hf, rc_1 hC hf, eh, ef, lib_, lib_, show (0 : Int32) = nI (10 - 10) from rfl, l_taken_l hR (nI s) hf ha hb 10 FU_ (by omega) (by omega), l_taken_l hR (nI s) hf hb ha 10 FU_ (by omega) (by omega)]
  have hq : (nI s + z 2 = 1) ↔ ¬ nI s = z 2 := by
    rcases (show s = 0 ∨ s = 1 by omega) with rfl | rfl <;> rcases hc.2 with e | e <;> rw [e] <;> decide
  unfold tk fst_
  rw [eh, ef]
  by_cases q : nI s = z 2
  · rw [if_neg (fun h => hq.mp h q), if_pos q, if_neg t10]
  · rw [if_pos (hq.mpr q), if_neg q, if_pos t00]

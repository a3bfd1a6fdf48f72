/-! Pure: what a state is, for both sides, and the words of the document over it. -/
/-- first of the flags 10 - d .. 9 with these colours -/
def fw (hc fc : Nat → Int32) (a b : Int32) : Nat → Int32
  | 0 => -6
  | d + 1 => if hc (10 - (d + 1)) = a ∧ fc (10 - (d + 1)) = b then nI (10 - (d + 1)) else fw hc fc a b d
/-- how many of the first n -/
def cw (p : Nat → Prop) [DecidablePred p] : Nat → Nat
  | 0 => 0
  | n + 1 => if p n then cw p n + 1 else cw p n
theorem fw_congr {hc fc hc' fc' : Nat → Int32} {a b : Int32} (h : ∀ f, f < 10 → hc f = hc' f ∧ fc f = fc' f) : ∀ d, d ≤ 10 → fw hc fc a b d = fw hc' fc' a b d
  | 0, _ => rfl
  | d + 1, hd => by
    have h1 := h (10 - (d + 1)) (by omega)
    rw [fw, fw, h1.1, h1.2, fw_congr h d (by omega)]
theorem fw_cases (hc fc : Nat → Int32) (a b : Int32) : ∀ d, d ≤ 10 → fw hc fc a b d = -6 ∨ ∃ j, j < 10 ∧ fw hc fc a b d = nI j
  | 0, _ => Or.inl rfl
  | d + 1, hd => by
    rw [fw]
    split
    · exact Or.inr ⟨10 - (d + 1), by omega, rfl⟩
    · exact fw_cases hc fc a b d (by omega)
theorem cw_congr {p q : Nat → Prop} [DecidablePred p] [DecidablePred q] : ∀ {n : Nat}, (∀ j, j < n → (p j ↔ q j)) → cw p n = cw q n
  | 0, _ => rfl
  | n + 1, h => by
    rw [cw, cw, cw_congr (fun j hj => h j (by omega))]
    simp only [h n (by omega)]
theorem cw_le (p : Nat → Prop) [DecidablePred p] : ∀ n, cw p n ≤ n
  | 0 => Nat.le_refl 0
  | n + 1 => by
    have := cw_le p n
    rw [cw]
    split <;> omega
/-- the flag for which a reader takes the flag f, straight or mirrored -/
def tk (hc fc wt : Nat → Int32) (first : Int32) (str : Int32) (f : Nat) : Int32 :=
  if wt f ≤ str then (if first = 0 then fw hc fc (fc f) (hc f) 10 else fw hc fc (hc f) (fc f) 10) else -6
/-- the word of the first of the entries n - d .. n - 1 with this code -/
def wf (co wo : Nat → Int32) (c : Int32) (n : Nat) : Nat → Int32
  | 0 => -6
  | d + 1 => if co (n - (d + 1)) = c then wo (n - (d + 1)) else wf co wo c n d
/-- the code of the first n flags that a reader takes -/
def rc (t : Nat → Int32) : Nat → Option Int32
  | 0 => some 1
  | n + 1 => match rc t n with
    | none => none
    | some c => if t n = -6 then none else some (10 * c + t n)
/-- a sign at the place p (from 0) of a hoist: a flag, or a pennant that repeats a sign above -/
def SG (x : Int32) (p : Nat) : Prop := (∃ f, f < 10 ∧ x = nI f) ∨ ∃ q, 1 ≤ q ∧ q ≤ p ∧ q ≤ 3 ∧ x = nI (10 + q)
def CD (c : Int32) : Prop := ∃ n, c = nI n ∧ ((10 ≤ n ∧ n ≤ 19) ∨ (100 ≤ n ∧ n ≤ 199) ∨ (1000 ≤ n ∧ n ≤ 1999) ∨ (10000 ≤ n ∧ n ≤ 19999))
/-- the z row: size of a hoist, sign at the place p (from 0) -/
def zS (z : Nat → Int32) (h : Nat) : Int32 := z (38 + 5 * h)
def zG (z : Nat → Int32) (h p : Nat) : Int32 := z (39 + 5 * h + p)
/-- pieces of a sign in one hoist of n signs, and in all -/
def cnH (g : Nat → Int32) (x : Int32) (n : Nat) : Nat := cw (fun p => g p = x) n
def cnA (z : Nat → Int32) (x : Int32) : Nat → Nat
  | 0 => 0
  | h + 1 => cnA z x h + cnH (zG z h) x (zS z h).toNatClampNeg
def VZ (z : Nat → Int32) : Prop :=
  (z 3 = 0 ∨ z 3 = 1) ∧ ((z 4 = 0 ∨ z 4 = 1 ∨ z 4 = 2) ∧ (z 4 ≠ 0 → ∃ h, h < 5 ∧ zS z h ≠ 0)) ∧
  (∃ n, n ≤ 12 ∧ z 5 = nI n ∧ ∀ e, e < n → CD (z (63 + 2 * e)) ∧ ∃ w, w < 100 ∧ z (64 + 2 * e) = nI w) ∧
  (∃ n, n ≤ 8 ∧ z 6 = nI n ∧ ∀ m, m < n → ∃ l, l ≤ 5 ∧ z (87 + 6 * m) = nI l) ∧
  (∀ h, h < 5 → ∃ n, n ≤ 4 ∧ zS z h = nI n ∧ ∀ p, p < n → SG (zG z h p) p) ∧
  (∀ x, x ≤ 13 → nI (cnA z (nI x) 5) ≤ z 0)
/-- the flags, the hoists, the book, the log at the cell K hold what the row z says -/
def FS (V : Wd) (K : Nat) (z : Nat → Int32) : Prop := ∀ f, f < 10 → z (8 + 3 * f) = V (K + 1) f ∧ z (9 + 3 * f) = V (K + 2) f ∧ z (10 + 3 * f) = V (K + 3) f
def HS (V : Wd) (K : Nat) (z : Nat → Int32) : Prop := ∀ h, h < 5 → zS z h = V (K + 2) h ∧ ∀ p, p < 4 → nI p < zS z h → zG z h p = V (K + 1) (4 * h + p)
def BS (V : Wd) (K : Nat) (z : Nat → Int32) : Prop := z 5 = V K 2 ∧ ∀ e, e < 12 → nI e < z 5 → z (63 + 2 * e) = V (K + 1) e ∧ z (64 + 2 * e) = V (K + 2) e
def LGS (V : Wd) (K : Nat) (z : Nat → Int32) : Prop := z 6 = V K 2 ∧ z 7 = V K 3 ∧ ∀ m, m < 8 → nI m < z 6 → z (87 + 6 * m) = V (K + 2) m ∧ ∀ i, i < 5 → nI i < z (87 + 6 * m) → z (88 + 6 * m + i) = V (K + 1) (5 * m + i)
/-- the State at the cell k holds what the row z says -/
def RS (V : Wd) (k : Nat) (z : Nat → Int32) : Prop :=
  (z 0 = V k 4 ∧ z 1 = V k 5 ∧ z 2 = V k 6 ∧ z 3 = V k 7 ∧ z 4 = V k 8) ∧ FS V (k + 1) z ∧ HS V (k + 5) z ∧ BS V (k + 8) z ∧ LGS V (k + 11) z
/-- what a reading needs to be sound -/
def VR (z : Nat → Int32) : Prop :=
  (∃ n, n ≤ 12 ∧ z 5 = nI n ∧ ∀ e, e < n → CD (z (63 + 2 * e)) ∧ ∃ w, w < 100 ∧ z (64 + 2 * e) = nI w) ∧ (∀ h, h < 5 → ∃ n, n ≤ 4 ∧ zS z h = nI n ∧ ∀ p, p < n → SG (zG z h p) p)
def HI (V : Wd) : Prop := ∃ s nx, s ≤ 5 ∧ nx < 5 ∧ V 29 2 = nI s ∧ V 112 2 = nI s ∧ V 29 1 = nI nx ∧ ∀ i, i < s → RS V (31 + 14 * ((nx + 5 - s + i) % 5)) (fun j => V 114 (136 * i + j)) ∧ VZ (fun j => V 114 (136 * i + j))
def BU (V : Wd) : Prop := ∃ t, t ≤ 50 ∧ V 101 1 = nI t ∧ V 112 6 = nI t ∧ ∀ i, i < t → V 102 i = V 116 i ∧ ∃ c, 33 ≤ c ∧ c ≤ 126 ∧ V 102 i = nI c
def Inv (V : Wd) : Prop :=
  RS V 1 (V 113) ∧ VZ (V 113) ∧ (V 0 2 = V 112 4 ∧ (V 112 4 = 0 ∨ (V 112 4 = 1 ∧ RS V 15 (V 115) ∧ VZ (V 115)))) ∧ HI V ∧ BU V ∧ (V 106 0 = 0 ∧ V 109 0 = 1)
theorem FS_fr {V V' : Wd} {K : Nat} {z : Nat → Int32} (h1 : V' (K + 1) = V (K + 1)) (h2 : V' (K + 2) = V (K + 2)) (h3 : V' (K + 3) = V (K + 3)) (h : FS V K z) : FS V' K z := by
  unfold FS at *; rw [h1, h2, h3]; exact h
theorem HS_fr {V V' : Wd} {K : Nat} {z : Nat → Int32} (h1 : V' (K + 1) = V (K + 1)) (h2 : V' (K + 2) = V (K + 2)) (h : HS V K z) : HS V' K z := by
  unfold HS at *; rw [h1, h2]; exact h
theorem BS_fr {V V' : Wd} {K : Nat} {z : Nat → Int32} (h0 : V' K 2 = V K 2) (h1 : V' (K + 1) = V (K + 1)) (h2 : V' (K + 2) = V (K + 2)) (h : BS V K z) : BS V' K z := by
  unfold BS at *; rw [h0, h1, h2]; exact h
theorem LGS_fr {V V' : Wd} {K : Nat} {z : Nat → Int32} (h0 : V' K 2 = V K 2) (h3 : V' K 3 = V K 3) (h1 : V' (K + 1) = V (K + 1)) (h2 : V' (K + 2) = V (K + 2)) (h : LGS V K z) : LGS V' K z := by
  unfold LGS at *; rw [h0, h3, h1, h2]; exact h
theorem RS_frame {V V' : Wd} {k : Nat} {z : Nat → Int32} (h : ∀ c, k ≤ c → c < k + 14 → V' c = V c) (hR : RS V k z) : RS V' k z := by
  obtain ⟨g1, g2, g3, g4, g5⟩ := hR
  refine ⟨?_, FS_fr (h _ (by omega) (by omega)) (h _ (by omega) (by omega)) (h _ (by omega) (by omega)) g2, HS_fr (h _ (by omega) (by omega)) (h _ (by omega) (by omega)) g3, BS_fr (by rw [h _ (by omega) (by omega)]) (h _ (by omega) (by omega)) (h _ (by omega) (by omega)) g4, LGS_fr (by rw [h _ (by omega) (by omega)]) (by rw [h _ (by omega) (by omega)]) (h _ (by omega) (by omega)) (h _ (by omega) (by omega)) g5⟩
  rw [h k (by omega) (by omega)]
  exact g1
theorem VZ.vr {z : Nat → Int32} (h : VZ z) : VR z := ⟨h.2.2.1, h.2.2.2.2.1⟩

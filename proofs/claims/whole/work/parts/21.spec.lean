/-! Pure: what a state is, for both sides, and the words of the document over it. -/
/-- first of the flags 10 - d .. 9 with these colours -/
def fw (hc fc : Nat → Int32) (a b : Int32) : Nat → Int32
  | 0 => -6
  | d + 1 => if hc (10 - (d + 1)) = a ∧ fc (10 - (d + 1)) = b then nI (10 - (d + 1)) else fw hc fc a b d
/-- how many of the first n -/
def cw (p : Nat → Prop) [DecidablePred p] : Nat → Nat
  | 0 => 0
  | n + 1 => if p n then cw p n + 1 else cw p n
theorem fw_congr {hc fc hc' fc' : Nat → Int32} {a b : Int32} (h : ∀ f, f < 10 → hc f = hc' f ∧ fc f = fc' f) : ∀ d, d ≤ 10 → fw hc fc a b d = fw hc' fc' a b d
  | 0, _ => rfl
  | d + 1, hd => by
    have h1 := h (10 - (d + 1)) (by omega)
    rw [fw, fw, h1.1, h1.2, fw_congr h d (by omega)]
theorem fw_cases (hc fc : Nat → Int32) (a b : Int32) : ∀ d, d ≤ 10 → fw hc fc a b d = -6 ∨ ∃ j, j < 10 ∧ fw hc fc a b d = nI j
  | 0, _ => Or.inl rfl
  | d + 1, hd => by
    rw [fw]
    split
    · exact Or.inr ⟨10 - (d + 1), by omega, rfl⟩
    · exact fw_cases hc fc a b d (by omega)
theorem cw_congr {p q : Nat → Prop} [DecidablePred p] [DecidablePred q] : ∀ {n : Nat}, (∀ j, j < n → (p j ↔ q j)) → cw p n = cw q n
  | 0, _ => rfl
  | n + 1, h => by
    rw [cw, cw, cw_congr (fun j hj => h j (by omega))]
    simp only [h n (by omega)]
theorem cw_le (p : Nat → Prop) [DecidablePred p] : ∀ n, cw p n ≤ n
  | 0 => Nat.le_refl 0
  | n + 1 => by
    have := cw_le p n
    rw [cw]
    split <;> omega
/-- the flag for which a reader takes the flag f, straight or mirrored -/
def tk (hc fc wt : Nat → Int32) (first : Int32) (str : Int32) (f : Nat) : Int32 :=
  if wt f ≤ str then (if first = 0 then fw hc fc (fc f) (hc f) 10 else fw hc fc (hc f) (fc f) 10) else -6
/-- the word of the first of the entries n - d .. n - 1 with this code -/
def wf (co wo : Nat → Int32) (c : Int32) (n : Nat) : Nat → Int32
  | 0 => -6
  | d + 1 => if co (n - (d + 1)) = c then wo (n - (d + 1)) else wf co wo c n d
/-- the code of the first n flags that a reader takes -/
def rc (t : Nat → Int32) : Nat → Option Int32
  | 0 => some 1
  | n + 1 => match rc t n with
    | none => none
    | some c => if t n = -6 then none else some (10 * c + t n)
/-- a sign at the place p (from 0) of a hoist: a flag, or a pennant that repeats a sign above -/
def SG (x : Int32) (p : Nat) : Prop := (∃ f, f < 10 ∧ x = nI f) ∨ ∃ q, 1 ≤ q ∧ q ≤ p ∧ q ≤ 3 ∧ x = nI (10 + q)
def CD (c : Int32) : Prop := ∃ n, c = nI n ∧ ((10 ≤ n ∧ n ≤ 19) ∨ (100 ≤ n ∧ n ≤ 199) ∨ (1000 ≤ n ∧ n ≤ 1999) ∨ (10000 ≤ n ∧ n ≤ 19999))
/-- the z row: size of a hoist, sign at the place p (from 0) -/
def zS (z : Nat → Int32) (h : Nat) : Int32 := z (38 + 5 * h)
def zG (z : Nat → Int32) (h p : Nat) : Int32 := z (39 + 5 * h + p)
/-- pieces of a sign in one hoist of n signs, and in all -/
def cnH (g : Nat → Int32) (x : Int32) (n : Nat) : Nat := cw (fun p => g p = x) n
def cnA (z : Nat → Int32) (x : Int32) : Nat → Nat
  | 0 => 0
  | h + 1 => cnA z x h + cnH (zG z h) x (zS z h).toNatClampNeg
def VZ (z : Nat → Int32) : Prop :=
  (z 3 = 0 ∨ z 3 = 1) ∧ ((z 4 = 0 ∨ z 4 = 1 ∨ z 4 = 2) ∧ (z 4 ≠ 0 → ∃ h, h < 5 ∧ zS z h ≠ 0)) ∧
  (∃ n, n ≤ 12 ∧ z 5 = nI n ∧ ∀ e, e < n → CD (z (63 + 2 * e)) ∧ ∃ w, w < 100 ∧ z (64 + 2 * e) = nI w) ∧
  (∃ n, n ≤ 8 ∧ z 6 = nI n ∧ ∀ m, m < n → ∃ l, l ≤ 5 ∧ z (87 + 6 * m) = nI l) ∧
  (∀ h, h < 5 → ∃ n, n ≤ 4 ∧ zS z h = nI n ∧ ∀ p, p < n → SG (zG z h p) p) ∧
  (∀ x, x ≤ 13 → nI (cnA z (nI x) 5) ≤ z 0)
/-- the State at the cell k holds what the row z says -/
def RS (V : Wd) (k : Nat) (z : Nat → Int32) : Prop :=
  (z 0 = V k 4 ∧ z 1 = V k 5 ∧ z 2 = V k 6 ∧ z 3 = V k 7 ∧ z 4 = V k 8 ∧ z 5 = V (k + 8) 2 ∧ z 6 = V (k + 11) 2 ∧ z 7 = V (k + 11) 3) ∧
  (∀ f, f < 10 → z (8 + 3 * f) = V (k + 2) f ∧ z (9 + 3 * f) = V (k + 3) f ∧ z (10 + 3 * f) = V (k + 4) f) ∧
  (∀ h, h < 5 → zS z h = V (k + 7) h ∧ ∀ p, p < 4 → nI p < zS z h → zG z h p = V (k + 6) (4 * h + p)) ∧
  (∀ e, e < 12 → nI e < z 5 → z (63 + 2 * e) = V (k + 9) e ∧ z (64 + 2 * e) = V (k + 10) e) ∧
  (∀ m, m < 8 → nI m < z 6 → z (87 + 6 * m) = V (k + 13) m ∧ ∀ i, i < 5 → nI i < z (87 + 6 * m) → z (88 + 6 * m + i) = V (k + 12) (5 * m + i))
def HI (V : Wd) : Prop := ∃ s nx, s ≤ 5 ∧ nx < 5 ∧ V 29 2 = nI s ∧ V 112 2 = nI s ∧ V 29 1 = nI nx ∧ ∀ i, i < s → RS V (31 + 14 * ((nx + 5 - s + i) % 5)) (fun j => V 114 (136 * i + j)) ∧ VZ (fun j => V 114 (136 * i + j))
def BU (V : Wd) : Prop := ∃ t, t ≤ 50 ∧ V 101 1 = nI t ∧ V 112 6 = nI t ∧ ∀ i, i < t → V 102 i = V 116 i ∧ ∃ c, 33 ≤ c ∧ c ≤ 126 ∧ V 102 i = nI c
def Inv (V : Wd) : Prop :=
  RS V 1 (V 113) ∧ VZ (V 113) ∧ (V 0 2 = V 112 4 ∧ (V 112 4 = 0 ∨ (V 112 4 = 1 ∧ RS V 15 (V 115) ∧ VZ (V 115)))) ∧ HI V ∧ BU V ∧ (V 106 0 = 0 ∧ V 109 0 = 1)
theorem RS_frame {V V' : Wd} {k : Nat} {z : Nat → Int32} (h : ∀ c, k ≤ c → c < k + 14 → V' c = V c) (hR : RS V k z) : RS V' k z := by
  unfold RS at *
  have e0 := h k (by omega) (by omega)
  have e2 := h (k + 2) (by omega) (by omega)
  have e3 := h (k + 3) (by omega) (by omega)
  have e4 := h (k + 4) (by omega) (by omega)
  have e6 := h (k + 6) (by omega) (by omega)
  have e7 := h (k + 7) (by omega) (by omega)
  have e8 := h (k + 8) (by omega) (by omega)
  have e9 := h (k + 9) (by omega) (by omega)
  have e10 := h (k + 10) (by omega) (by omega)
  have e11 := h (k + 11) (by omega) (by omega)
  have e12 := h (k + 12) (by omega) (by omega)
  have e13 := h (k + 13) (by omega) (by omega)
  rw [e0, e2, e3, e4, e6, e7, e8, e9, e10, e11, e12, e13]
  exact hR

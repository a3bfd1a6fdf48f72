/-! Pure: what a step of the class and of the ghost is; Iv and Ir say what they leave. -/
def Iv (V V1 V2 : Wd) : Prop := Inv V2 ∧ (∀ c, 111 < c → V1 c = V c) ∧ ∀ c, c ≠ 112 → c ≠ 113 → c ≠ 114 → V2 c = V1 c
def Ir (V V1 : Wd) : Prop := Inv V1 ∧ ∀ c, 111 < c → V1 c = V c
theorem Iv.rf {V : Wd} (h : Inv V) : Iv V V V := ⟨h, fun _ _ => rfl, fun _ _ _ _ => rfl⟩
theorem Ir.rf {V : Wd} (h : Inv V) : Ir V V := ⟨h, fun _ _ => rfl⟩
theorem Ir.iv {V V1 : Wd} (h : Ir V V1) : Iv V V1 V1 := ⟨h.1, h.2, fun _ _ _ _ => rfl⟩
theorem Ir.then {V V' V1 V2 : Wd} (h : Ir V V') (g : Iv V' V1 V2) : Iv V V1 V2 := ⟨g.1, fun c hc => (g.2.1 c hc).trans (h.2 c hc), g.2.2⟩
theorem Ir.tr {V V1 V2 : Wd} (h : Ir V V1) (g : Ir V1 V2) : Ir V V2 := ⟨g.1, fun c hc => (g.2 c hc).trans (h.2 c hc)⟩
def S_paint : Prop := ∀ V : Wd, Inv V → ∀ a1 a2 a3 a4 : Int32, ∃ (r : Int32) (V1 V2 : Wd), f_X8_paint V a1 a2 a3 a4 = some (r, V1) ∧ f_X9_paint V1 a1 a2 a3 a4 = some (r, V2) ∧ Iv V V1 V2
def S_setStock : Prop := ∀ V : Wd, Inv V → ∀ a1 : Int32, ∃ (r : Int32) (V1 V2 : Wd), f_X8_setStock V a1 = some (r, V1) ∧ f_X9_setStock V1 a1 = some (r, V2) ∧ Iv V V1 V2
def S_setWind : Prop := ∀ V : Wd, Inv V → ∀ a1 a2 : Int32, ∃ (r : Int32) (V1 V2 : Wd), f_X8_setWind V a1 a2 = some (r, V1) ∧ f_X9_setWind V1 a1 a2 = some (r, V2) ∧ Iv V V1 V2
def S_flag : Prop := ∀ V : Wd, Inv V → ∀ a1 a2 : Int32, ∃ (r : Int32), f_X8_flag V a1 a2 = some r ∧ f_X9_flag V a1 a2 = some r
def S_bend : Prop := ∀ V : Wd, Inv V → ∀ a1 a2 : Int32, ∃ (r : Int32) (V1 V2 : Wd), f_X8_bend V a1 a2 = some (r, V1) ∧ f_X9_bend V1 a1 a2 = some (r, V2) ∧ Iv V V1 V2
def S_unbend : Prop := ∀ V : Wd, Inv V → ∀ a1 : Int32, ∃ (r : Int32) (V1 V2 : Wd), f_X8_unbend V a1 = some (r, V1) ∧ f_X9_unbend V1 a1 = some (r, V2) ∧ Iv V V1 V2
def S_exchange : Prop := ∀ V : Wd, Inv V → ∀ a1 a2 : Int32, ∃ (r : Int32) (V1 V2 : Wd), f_X8_exchange V a1 a2 = some (r, V1) ∧ f_X9_exchange V1 a1 a2 = some (r, V2) ∧ Iv V V1 V2
def S_lower : Prop := ∀ V : Wd, Inv V → ∃ (r : Int32) (V1 V2 : Wd), f_X8_lower V = some (r, V1) ∧ f_X9_lower V1 = some (r, V2) ∧ Iv V V1 V2
def S_sign : Prop := ∀ V : Wd, Inv V → ∀ a1 a2 a3 : Int32, ∃ (r : Int32), f_X8_sign V a1 a2 a3 = some r ∧ f_X9_sign V a1 a2 a3 = some r
def S_enter : Prop := ∀ V : Wd, Inv V → ∀ a1 a2 : Int32, ∃ (r : Int32) (V1 V2 : Wd), f_X8_enter V a1 a2 = some (r, V1) ∧ f_X9_enter V1 a1 a2 = some (r, V2) ∧ Iv V V1 V2
def S_strike : Prop := ∀ V : Wd, Inv V → ∀ a1 : Int32, ∃ (r : Int32) (V1 V2 : Wd), f_X8_strike V a1 = some (r, V1) ∧ f_X9_strike V1 a1 = some (r, V2) ∧ Iv V V1 V2
def S_entry : Prop := ∀ V : Wd, Inv V → ∀ a1 a2 : Int32, ∃ (r : Int32), f_X8_entry V a1 a2 = some r ∧ f_X9_entry V a1 a2 = some r
def S_seen : Prop := ∀ V : Wd, Inv V → ∀ a1 a2 a3 : Int32, ∃ (r : Int32), f_X8_seen V a1 a2 a3 = some r ∧ f_X9_seen V a1 a2 a3 = some r
def S_sail : Prop := ∀ V : Wd, Inv V → ∀ a1 : Int32, ∃ (r : Int32) (V1 V2 : Wd), f_X8_sail V a1 = some (r, V1) ∧ f_X9_sail V1 a1 = some (r, V2) ∧ Iv V V1 V2
def S_answer : Prop := ∀ V : Wd, Inv V → ∃ (r : Int32) (V1 V2 : Wd), f_X8_answer V = some (r, V1) ∧ f_X9_answer V1 = some (r, V2) ∧ Iv V V1 V2
def S_logged : Prop := ∀ V : Wd, Inv V → ∀ a1 a2 : Int32, ∃ (r : Int32), f_X8_logged V a1 a2 = some r ∧ f_X9_logged V a1 a2 = some r
def S_total : Prop := ∀ V : Wd, Inv V → ∀ a1 : Int32, ∃ (r : Int32), f_X8_total V a1 = some r ∧ f_X9_total V a1 = some r
def S_bestEntry : Prop := ∀ V : Wd, Inv V → ∀ a1 : Int32, ∃ (r : Int32), f_X8_bestEntry V a1 = some r ∧ f_X9_bestEntry V a1 = some r

/-! Pure: the start, all steps. -/
theorem v0_F : ∀ f, f < 10 → iniZ (8 + 3 * f) = iniH f ∧ iniZ (9 + 3 * f) = iniF f ∧ iniZ (10 + 3 * f) = iniW f := by decide +kernel
theorem v0_S : ∀ h, h < 5 → zS iniZ h = nI 0 := by decide +kernel
theorem v0_c (x : Int32) : ∀ n, n ≤ 5 → cnA iniZ x n = 0
  | 0, _ => rfl
  | n + 1, hn => by
    rw [cnA, v0_c x n (by omega), v0_S n (by omega), nI_clamp (by omega)]
    rfl
theorem v0_5 : iniZ 5 = nI 0 := by decide +kernel
theorem v0_6 : iniZ 6 = nI 0 := by decide +kernel
theorem v0_s : iniZ 0 = iniS 4 ∧ iniZ 1 = iniS 5 ∧ iniZ 2 = iniS 6 ∧ iniZ 3 = iniS 7 ∧ iniZ 4 = iniS 8 := by decide +kernel
theorem v0_7 : iniZ 7 = 0 := by decide +kernel
theorem v0_3 : iniZ 3 = 0 := by decide +kernel
theorem v0_4 : iniZ 4 = 0 := by decide +kernel
theorem v0_0 : nI 0 ≤ iniZ 0 := by decide +kernel
theorem inv0 : Inv V0 := by
  have e113 : V0 113 = iniZ := rfl
  have e1 : V0 1 = iniS := rfl
  have e3 : V0 (1 + 1 + 1) = iniH := rfl
  have e4 : V0 (1 + 1 + 2) = iniF := rfl
  have e5 : V0 (1 + 1 + 3) = iniW := rfl
  have e7 : V0 (1 + 5 + 2) = z0_ := rfl
  have e9 : V0 (1 + 8) = z0_ := rfl
  have e12 : V0 (1 + 11) = z0_ := rfl
  have e0 : V0 0 = z0_ := rfl
  have e112 : V0 112 = z0_ := rfl
  have e29 : V0 29 = z0_ := rfl
  have e101 : V0 101 = iniT := rfl
  have e106 : V0 106 = z0_ := rfl
  have e109 : V0 109 = iniR := rfl
  have n0 : ∀ {p : Nat}, p < 100 → ¬ nI p < nI 0 := fun {p} hp h => by
    rw [nJ_lt (by omega) (by omega)] at h
    omega
  refine ⟨?_, ?_, ⟨by rw [e0, e112]; rfl, Or.inl (by rw [e112]; rfl)⟩, ⟨0, 0, by omega, by omega, by rw [e29]; rfl, by rw [e112]; rfl, by rw [e29]; rfl, fun i hi => absurd hi (by omega)⟩, ⟨0, by omega, by rw [e101]; rfl, by rw [e112]; rfl, fun i hi => absurd hi (by omega)⟩, by rw [e106]; rfl, by rw [e109]; rfl⟩
  · rw [e113]
    refine ⟨by rw [e1]; exact v0_s, fun f hf => by rw [e3, e4, e5]; exact v0_F f hf, fun h hh => ⟨by rw [e7]; exact v0_S h hh, fun p hp hq => ?_⟩, ⟨by rw [e9]; exact v0_5, fun e he hq => ?_⟩, ⟨by rw [e12]; exact v0_6, by rw [e12]; exact v0_7, fun m hm hq => ?_⟩⟩
    · rw [v0_S h hh] at hq
      exact absurd hq (n0 (by omega))
    · rw [v0_5] at hq
      exact absurd hq (n0 (by omega))
    · rw [v0_6] at hq
      exact absurd hq (n0 (by omega))
  · rw [e113]
    refine VZ_mk (Or.inl v0_3) v0_4 ⟨0, by omega, v0_5, fun e he => absurd he (by omega)⟩ ⟨0, by omega, v0_6, fun e he => absurd he (by omega)⟩ (fun h hh => ⟨0, by omega, v0_S h hh, fun p hp => absurd hp (by omega)⟩) (fun x hx => ?_)
    rw [v0_c (nI x) 5 (by omega)]
    exact v0_0

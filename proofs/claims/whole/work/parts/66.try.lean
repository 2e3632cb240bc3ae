/-! SMALL FUNCTIONS -/
theorem gd_t {α : Type} {b : Bool} {x : Option α} (h : b = true) : gd b x = x := by rw [h]; rfl
theorem isbb_0 : isbb 0 = true := rfl
theorem isbb_1 : isbb 1 = true := rfl
def bZ (p : Prop) [Decidable p] : Int32 := if p then 1 else 0
theorem bZ_0 {p : Prop} [Decidable p] : (bZ p = 0) = ¬ p := by
  unfold bZ
  by_cases h : p
  · simp [h]
  · simp [h]
theorem s_in (v lo hi : Int64) (σ : St) : f_X10_in v lo hi σ = some (bZ (lo.toInt ≤ v.toInt ∧ v.toInt ≤ hi.toInt), σ) := by
  unfold f_X10_in f_X10_in_17 f_X10_in_18 bZ
  simp only [cmL, cmG, lJ, gd_t isbb_0, gd_t isbb_1]
  by_cases h1 : v.toInt < lo.toInt
  · rw [if_pos h1, if_neg (by omega)]
  · rw [if_neg h1]
    by_cases h2 : hi.toInt < v.toInt
    · rw [if_pos h2, if_neg (by omega)]
    · rw [if_neg h2, if_pos (by omega)]
theorem s_isRope9 (r : Int32) (σ : St) : f_X9_isRope r σ = some (bZ (0 ≤ r.toInt ∧ r.toInt < (gI σ 1 0).toInt), σ) := by
  unfold f_X9_isRope f_X9_isRope_19 f_X9_isRope_20 bZ
  have e0 : (0 : Int32).toInt = 0 := rfl
  simp only [lI, leI, e0, gd_t isbb_0, gd_t isbb_1]
  by_cases h1 : r.toInt < 0
  · rw [if_pos h1, if_neg (by omega)]
  · rw [if_neg h1]
    by_cases h2 : (gI σ 1 0).toInt ≤ r.toInt
    · rw [if_pos h2, if_neg (by omega)]
    · rw [if_neg h2, if_pos (by omega)]
theorem s_isRope10 (r : Int32) (σ : St) (h : 0 ≤ (gI σ 38 1).toInt) : f_X10_isRope r σ = some (bZ (0 ≤ r.toInt ∧ r.toInt < (gI σ 38 1).toInt), σ) := by
  unfold f_X10_isRope
  rw [s_in]
  have e0 : (0 : Int64).toInt = 0 := rfl
  have e1 : (1 : Int32).toInt = 1 := rfl
  have h2 := i_hi (gI σ 38 1)
  rw [t64, t64, e0, tsub (by rw [e1]; omega) (by rw [e1]; omega), e1]
  simp only [Option.bind_some]
  have hb : ∀ p : Prop, ∀ [Decidable p], isbb (bZ p) = true := by
    intro p _
    unfold bZ
    by_cases hp : p <;> simp [hp, isbb]
  rw [gd_t (hb _)]
  congr 2
  unfold bZ
  congr 1
  exact propext (by omega)

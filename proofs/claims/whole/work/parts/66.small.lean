/-! numbers written out -/
theorem t_0 : (0 : Int32).toInt = 0 := rfl
theorem t_1 : (1 : Int32).toInt = 1 := rfl
theorem t_2 : (2 : Int32).toInt = 2 := rfl
theorem t_3 : (3 : Int32).toInt = 3 := rfl
theorem t_4 : (4 : Int32).toInt = 4 := rfl
theorem t_5 : (5 : Int32).toInt = 5 := rfl
theorem t_6 : (6 : Int32).toInt = 6 := rfl
theorem t_7 : (7 : Int32).toInt = 7 := rfl
theorem t_8 : (8 : Int32).toInt = 8 := rfl
theorem t_9 : (9 : Int32).toInt = 9 := rfl
theorem t_10 : (10 : Int32).toInt = 10 := rfl
theorem t_11 : (11 : Int32).toInt = 11 := rfl
theorem t_12 : (12 : Int32).toInt = 12 := rfl
theorem t_13 : (13 : Int32).toInt = 13 := rfl
theorem t_18 : (18 : Int32).toInt = 18 := rfl
theorem t_19 : (19 : Int32).toInt = 19 := rfl
theorem t_20 : (20 : Int32).toInt = 20 := rfl
theorem t_31 : (31 : Int32).toInt = 31 := rfl
theorem t_32 : (32 : Int32).toInt = 32 := rfl
theorem t_40 : (40 : Int32).toInt = 40 := rfl
theorem t_48 : (48 : Int32).toInt = 48 := rfl
theorem t_57 : (57 : Int32).toInt = 57 := rfl
theorem t_99 : (99 : Int32).toInt = 99 := rfl
theorem t_100 : (100 : Int32).toInt = 100 := rfl
theorem t_160 : (160 : Int32).toInt = 160 := rfl
theorem t_255 : (255 : Int32).toInt = 255 := rfl
theorem t_511 : (511 : Int32).toInt = 511 := rfl
theorem t_999 : (999 : Int32).toInt = 999 := rfl
theorem t_1000 : (1000 : Int32).toInt = 1000 := rfl
theorem t_9999 : (9999 : Int32).toInt = 9999 := rfl
theorem t_100000 : (100000 : Int32).toInt = 100000 := rfl
theorem t_999999999 : (999999999 : Int32).toInt = 999999999 := rfl
theorem t_2147483647 : (2147483647 : Int32).toInt = 2147483647 := rfl
theorem t_m1 : (-1 : Int32).toInt = -1 := rfl
theorem t_m2 : (-2 : Int32).toInt = -2 := rfl
theorem l_0 : (0 : Int64).toInt = 0 := rfl
theorem l_1 : (1 : Int64).toInt = 1 := rfl
theorem l_2 : (2 : Int64).toInt = 2 := rfl
theorem l_3 : (3 : Int64).toInt = 3 := rfl
theorem l_5 : (5 : Int64).toInt = 5 := rfl
theorem l_6 : (6 : Int64).toInt = 6 := rfl
theorem l_9 : (9 : Int64).toInt = 9 := rfl
theorem l_10 : (10 : Int64).toInt = 10 := rfl
theorem l_12 : (12 : Int64).toInt = 12 := rfl
theorem l_99 : (99 : Int64).toInt = 99 := rfl
theorem l_100 : (100 : Int64).toInt = 100 := rfl
theorem l_511 : (511 : Int64).toInt = 511 := rfl
theorem l_999 : (999 : Int64).toInt = 999 := rfl
theorem l_1000 : (1000 : Int64).toInt = 1000 := rfl
theorem l_9999 : (9999 : Int64).toInt = 9999 := rfl
theorem l_1000000 : (1000000 : Int64).toInt = 1000000 := rfl
theorem l_999999999 : (999999999 : Int64).toInt = 999999999 := rfl
theorem l_1000000000000 : (1000000000000 : Int64).toInt = 1000000000000 := rfl
theorem l_1000000000000000000 : (1000000000000000000 : Int64).toInt = 1000000000000000000 := rfl
theorem l_m1 : (-1 : Int64).toInt = -1 := rfl
/-! SMALL FUNCTIONS -/
theorem gd_t {α : Type} {b : Bool} {x : Option α} (h : b = true) : gd b x = x := by rw [h]; rfl
theorem isbb_0 : isbb 0 = true := rfl
theorem isbb_1 : isbb 1 = true := rfl
def bZ (p : Prop) [Decidable p] : Int32 := if p then 1 else 0
theorem bZ_0 {p : Prop} [Decidable p] : (bZ p = 0) = ¬ p := by
  unfold bZ
  by_cases h : p
  · simp [h]
  · simp [h]
theorem bZ_t {p : Prop} [Decidable p] (h : p) : bZ p = 1 := if_pos h
theorem bZ_f {p : Prop} [Decidable p] (h : ¬ p) : bZ p = 0 := if_neg h
theorem bZ_0t {p : Prop} [Decidable p] : ((bZ p).toInt = 0) = ¬ p := by
  unfold bZ
  by_cases h : p
  · simp [h, t_1]
  · simp [h]
theorem s_in (v lo hi : Int64) (σ : St) : f_X10_in v lo hi σ = some (bZ (lo.toInt ≤ v.toInt ∧ v.toInt ≤ hi.toInt), σ) := by
  unfold f_X10_in f_X10_in_17 f_X10_in_18 bZ
  simp only [cmL, cmG, lJ, gd_t isbb_0, gd_t isbb_1]
  by_cases h1 : v.toInt < lo.toInt
  · rw [if_pos h1, if_neg (by omega)]
  · rw [if_neg h1]
    by_cases h2 : hi.toInt < v.toInt
    · rw [if_pos h2, if_neg (by omega)]
    · rw [if_neg h2, if_pos (by omega)]
theorem s_isRope9 (r : Int32) (σ : St) : f_X9_isRope r σ = some (bZ (0 ≤ r.toInt ∧ r.toInt < (gI σ 1 0).toInt), σ) := by
  unfold f_X9_isRope f_X9_isRope_19 f_X9_isRope_20 bZ
  have e0 : (0 : Int32).toInt = 0 := rfl
  simp only [lI, leI, e0, gd_t isbb_0, gd_t isbb_1]
  by_cases h1 : r.toInt < 0
  · rw [if_pos h1, if_neg (by omega)]
  · rw [if_neg h1]
    by_cases h2 : (gI σ 1 0).toInt ≤ r.toInt
    · rw [if_pos h2, if_neg (by omega)]
    · rw [if_neg h2, if_pos (by omega)]
theorem s_isRope10 (r : Int32) (σ : St) (h : 0 ≤ (gI σ 38 1).toInt) : f_X10_isRope r σ = some (bZ (0 ≤ r.toInt ∧ r.toInt < (gI σ 38 1).toInt), σ) := by
  unfold f_X10_isRope
  rw [s_in]
  have e0 : (0 : Int64).toInt = 0 := rfl
  have e1 : (1 : Int32).toInt = 1 := rfl
  have h2 := i_hi (gI σ 38 1)
  rw [t64, t64, e0, tsub (by rw [e1]; omega) (by rw [e1]; omega), e1]
  simp only [Option.bind_some]
  have hb : ∀ p : Prop, ∀ [Decidable p], isbb (bZ p) = true := by
    intro p _
    unfold bZ
    by_cases hp : p <;> simp [hp, isbb]
  rw [gd_t (hb _)]
  congr 2
  unfold bZ
  congr 1
  exact propext (by omega)

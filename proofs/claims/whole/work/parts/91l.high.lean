/-! THE HIGH HALF OF A PRODUCT -/
theorem jZn (a : Nat) : jZ (a : Int) = Int64.ofNat a := by
  unfold jZ
  exact Int64.ofInt_eq_ofNat
theorem bvn {a : Nat} (h : a < 9223372036854775808) : (jZ (a : Int)).toBitVec.toNat = a := by
  rw [jZn]
  show (BitVec.ofNat 64 a).toNat = a
  rw [BitVec.toNat_ofNat, Nat.mod_eq_of_lt (by omega)]
theorem j_of_bv {x : Int64} {a : Nat} (ha : a < 9223372036854775808) (h : x.toBitVec.toNat = a) : x = jZ (a : Int) := by
  apply Int64.toBitVec_inj.mp
  apply BitVec.eq_of_toNat_eq
  rw [h, bvn ha]
theorem shr32 {a : Nat} (h : a < 9223372036854775808) : shrJ (jZ (a : Int)) 32 = jZ ((a / 4294967296 : Nat) : Int) := by
  refine j_of_bv (by omega) ?_
  have e : (shrJ (jZ (a : Int)) 32).toBitVec = (jZ (a : Int)).toBitVec.sshiftRight 32 := by
    show BitVec.sshiftRight' (jZ (a : Int)).toBitVec (((32 : Int32).toInt64 &&& 63).toBitVec.smod 64) = _
    have : ((32 : Int32).toInt64 &&& 63).toBitVec.smod 64 = BitVec.ofNat 64 32 := by decide
    rw [this]
    rfl
  have hm : (jZ (a : Int)).toBitVec.msb = false := by
    rw [BitVec.msb_eq_decide, bvn h]
    exact decide_eq_false (by omega)
  rw [e, BitVec.sshiftRight_eq_of_msb_false hm, BitVec.toNat_ushiftRight, bvn h, Nat.shiftRight_eq_div_pow]
theorem ush32 {a : Nat} (h : a < 9223372036854775808) : ushJ (jZ (a : Int)) 32 = jZ ((a / 4294967296 : Nat) : Int) := by
  refine j_of_bv (by omega) ?_
  have e : (ushJ (jZ (a : Int)) 32).toBitVec = (jZ (a : Int)).toBitVec >>> 32 := by
    show (jZ (a : Int)).toBitVec >>> ((((32 : Int32).toInt64.toUInt64 &&& Int64.toUInt64 63)).toBitVec % 64) = _
    have : (((32 : Int32).toInt64.toUInt64 &&& Int64.toUInt64 63)).toBitVec % 64 = BitVec.ofNat 64 32 := by decide
    rw [this]
    rfl
  rw [e, BitVec.toNat_ushiftRight, bvn h, Nat.shiftRight_eq_div_pow]
theorem and32 {a : Nat} (h : a < 9223372036854775808) : jZ (a : Int) &&& 4294967295 = jZ ((a % 4294967296 : Nat) : Int) := by
  refine j_of_bv (by omega) ?_
  show ((jZ (a : Int)).toBitVec &&& (4294967295 : Int64).toBitVec).toNat = _
  rw [BitVec.toNat_and, bvn h]
  have e : (4294967295 : Int64).toBitVec.toNat = 2 ^ 32 - 1 := by decide
  rw [e, Nat.and_two_pow_sub_one_eq_mod]
theorem s_high {x y : Nat} (hx : x < 9223372036854775808) (hy : y < 2147483648) (σ : St) : f_J9_multiplyHigh_f86c9 (jZ (x : Int)) (jZ (y : Int)) σ = some (jZ ((x * y / 18446744073709551616 : Nat) : Int), σ) := by
  unfold f_J9_multiplyHigh_f86c9 f_J9_multiplyHigh_f86c9_6 f_J9_multiplyHigh_f86c9_13 f_J9_multiplyHigh_f86c9_19 f_J9_multiplyHigh_f86c9_26 f_J9_multiplyHigh_f86c9_33 f_J9_multiplyHigh_f86c9_46 f_J9_multiplyHigh_f86c9_54 f_J9_multiplyHigh_f86c9_61 f_J9_multiplyHigh_f86c9_71
  have hy0 : y / 4294967296 = 0 := Nat.div_eq_of_lt (by omega)
  have hyl : y % 4294967296 = y := Nat.mod_eq_of_lt (by omega)
  rw [shr32 hx, and32 hx, shr32 (by omega), and32 (by omega), hy0, hyl]
  have hl : x % 4294967296 < 4294967296 := Nat.mod_lt _ (by omega)
  have hh : x / 4294967296 < 2147483648 := by omega
  have dm := Nat.div_add_mod x 4294967296
  generalize x / 4294967296 = a at hh dm ⊢
  generalize x % 4294967296 = b at hl dm ⊢
  have p1 : b * y < 4294967296 * 2147483648 := Nat.mul_lt_mul'' hl hy
  have p2 : a * y ≤ 2147483647 * 2147483647 := Nat.mul_le_mul (by omega) (by omega)
  have e1 : jZ (b : Int) * jZ (y : Int) = jZ ((b * y : Nat) : Int) := by rw [jZ_mul, Int.natCast_mul]
  have e2 : jZ (a : Int) * jZ (y : Int) = jZ ((a * y : Nat) : Int) := by rw [jZ_mul, Int.natCast_mul]
  have exy : x * y = a * y * 4294967296 + b * y := by
    rw [← dm, Nat.add_mul, Nat.mul_comm 4294967296 a, Nat.mul_assoc, Nat.mul_comm 4294967296 y, ← Nat.mul_assoc]
  rw [e1, e2, ush32 (by omega)]
  generalize b * y = u at p1 exy ⊢
  generalize a * y = v at p2 exy ⊢
  have e3 : jZ (v : Int) + jZ ((u / 4294967296 : Nat) : Int) = jZ ((v + u / 4294967296 : Nat) : Int) := by rw [jZ_add, Int.natCast_add]
  rw [e3, shr32 (by omega), and32 (by omega)]
  have z1 : ∀ k : Nat, jZ (k : Int) * jZ ((0 : Nat) : Int) = jZ ((0 : Nat) : Int) := fun k => by
    rw [jZ_mul]; congr 1
  rw [z1, z1]
  have e4 : jZ (((v + u / 4294967296) % 4294967296 : Nat) : Int) + jZ ((0 : Nat) : Int) = jZ (((v + u / 4294967296) % 4294967296 : Nat) : Int) := by
    rw [jZ_add]; congr 1
  rw [e4, shr32 (by omega)]
  have e5 : (v + u / 4294967296) % 4294967296 / 4294967296 = 0 := by omega
  rw [e5]
  have e6 : jZ ((0 : Nat) : Int) + jZ (((v + u / 4294967296) / 4294967296 : Nat) : Int) + jZ ((0 : Nat) : Int) = jZ (((v + u / 4294967296) / 4294967296 : Nat) : Int) := by
    rw [jZ_add, jZ_add]; congr 1; omega
  rw [e6, exy]
  congr 3
  omega
theorem low_t (z : Int) : (jZ z + (-9223372036854775808)).toInt = z % 18446744073709551616 - 9223372036854775808 := by
  have e : (-9223372036854775808 : Int64) = jZ (-9223372036854775808) := by decide
  rw [e, jZ_add]
  unfold jZ
  rw [Int64.toInt_ofInt]
  unfold Int.bmod
  have e2 : (Int64.size : Int) = 18446744073709551616 := rfl
  simp only [e2]
  omega
theorem m_part_go {S D : Nat} (hS : 0 < S) (hb : S ≤ 9000000000000000000) (P : Nat) (hP : P ≤ 9000000000000000000) (eD : D = P * 1000000) (σ : St) : ∀ k n q : Nat, k ≤ 20 → k < n → q + 2 ^ k ≤ 1048576 → q * S ≤ D → D < (q + 2 ^ k) * S → f_X10_partOf_8 n (jZ (P : Int)) (jZ (S : Int)) (iZ (q : Int)) (iZ ((2 ^ k / 2 : Nat) : Int)) σ = some (iZ ((D / S : Nat) : Int), σ) := by
  intro k
  induction k with
  | zero =>
    intro n q _ hn hq h1 h2
    cases n with
    | zero => omega
    | succ n =>
      have e0 : 2 ^ 0 / 2 = 0 := by decide
      rw [e0, f_X10_partOf_8, if_pos (by rw [leI]; exact Int.le_refl _)]
      rw [Nat.pow_zero, Nat.succ_mul] at h2
      have := (dmu (a := D) (q := q) (c := D - q * S) hS (by omega) (by omega)).1
      rw [this]
  | succ k ih =>
    intro n q hk hn hq h1 h2
    cases n with
    | zero => omega
    | succ n =>
      have e2 : 2 ^ (k + 1) / 2 = 2 ^ k := by rw [Nat.pow_succ]; omega
      have hp0 : 0 < 2 ^ k := Nat.pow_pos (by omega)
      have hp1 : 2 ^ (k + 1) = 2 ^ k + 2 ^ k := by rw [Nat.pow_succ]; omega
      rw [e2]
      have hk2 : 2 ^ k ≤ 1048576 := by omega
      rw [hp1] at hq h2
      have shr := shr_iZ (b := 2 ^ k) (k := 1) (by omega) (by omega)
      have hd1 : 2 ^ k / 2 ^ 1 = 2 ^ k / 2 := by rw [Nat.pow_one]
      rw [hd1] at shr
      have ihq := ih n q (by omega) (by omega) (by omega) h1
      have ihb := ih n (q + 2 ^ k) (by omega) (by omega) (by omega)
      rw [Nat.add_assoc] at ihb
      generalize 2 ^ k / 2 = B2 at shr ihq ihb ⊢
      generalize 2 ^ k = B at hp0 hk2 hq h2 shr ihq ihb ⊢
      rw [f_X10_partOf_8, if_neg (by rw [leI, iZt (by omega), t_0]; omega), iZa, iZ_l (by omega) (by omega), bnd (s_high (by omega) (by omega) σ)]
      unfold f_X10_partOf_35
      have h6 : (1000000 : Int64) = jZ ((1000000 : Nat) : Int) := rfl
      rw [h6, bnd (s_high (by omega) (by omega) σ), ← eD]
      have el : jZ (S : Int) * jZ ((q + B : Nat) : Int) = jZ ((S * (q + B) : Nat) : Int) := by rw [jZ_mul, Int.natCast_mul]
      have ed : jZ (P : Int) * jZ ((1000000 : Nat) : Int) = jZ ((D : Nat) : Int) := by rw [jZ_mul, eD, Int.natCast_mul]
      have eS : S * (q + B) = (q + B) * S := Nat.mul_comm _ _
      have hA : (q + B) * S ≤ 1048576 * 9000000000000000000 := Nat.mul_le_mul (by omega) hb
      rw [el, ed, eS]
      unfold f_X10_partOf_51 f_X10_partOf_83 f_X10_partOf_87 f_X10_partOf_88 f_X10_partOf_103 f_X10_partOf_106 f_X10_partOf_112
      have sh1 : shrI (iZ (B : Int)) 1 = iZ (B2 : Int) := shr
      rw [if_neg (show ¬ (1 : Int32) = 0 by rw [eI, t_1, t_0]; omega), if_pos rfl, sh1, Int32.add_zero, iZa]
      have hD : D ≤ 9000000000000000000 * 1000000 := by omega
      have key : ((q + B) * S ≤ D ∧ D < (q + (B + B)) * S) ∨ (D < (q + B) * S) := by omega
      generalize (q + B) * S = A at hA ihq ihb key ⊢
      have hc1 : (lg_cmp (jZ ((A / 18446744073709551616 : Nat) : Int)) (jZ ((D / 18446744073709551616 : Nat) : Int)) < 0) = (A / 18446744073709551616 < D / 18446744073709551616) := by
        rw [cmL, jZ_lt (by omega) (by omega) (by omega) (by omega)]
        exact propext (by omega)
      have hc2 : (lg_cmp (jZ ((A / 18446744073709551616 : Nat) : Int)) (jZ ((D / 18446744073709551616 : Nat) : Int)) = 0) = (A / 18446744073709551616 = D / 18446744073709551616) := by
        rw [cmE, jZ_eq (by omega) (by omega) (by omega) (by omega)]
        exact propext (by omega)
      have hc3 : ((0 : Int32) < lg_cmp (jZ (A : Int) + (-9223372036854775808)) (jZ (D : Int) + (-9223372036854775808))) = (D % 18446744073709551616 < A % 18446744073709551616) := by
        rw [cmG, lJ, low_t, low_t]
        exact propext (by omega)
      by_cases c : A ≤ D
      · have g : f_X10_partOf_8 n (jZ (P : Int)) (jZ (S : Int)) (iZ ((q + B : Nat) : Int)) (iZ (B2 : Int)) σ = some (iZ ((D / S : Nat) : Int), σ) := ihb c (by omega)
        by_cases c1 : A / 18446744073709551616 < D / 18446744073709551616
        · rw [if_pos (hc1.mpr c1)]; exact g
        · rw [if_neg (fun h => c1 (hc1.mp h)), if_pos (hc2.mpr (by omega)), if_neg (fun h => by have := hc3.mp h; omega)]; exact g
      · have g : f_X10_partOf_8 n (jZ (P : Int)) (jZ (S : Int)) (iZ (q : Int)) (iZ (B2 : Int)) σ = some (iZ ((D / S : Nat) : Int), σ) := ihq (by omega)
        rw [if_neg (fun h => by have := hc1.mp h; omega)]
        by_cases c2 : A / 18446744073709551616 = D / 18446744073709551616
        · rw [if_pos (hc2.mpr c2), if_pos (hc3.mpr (by omega))]; exact g
        · rw [if_neg (fun h => c2 (hc2.mp h))]; exact g
theorem s_part_of {S P : Nat} (hS : 0 < S) (hb : S ≤ 9000000000000000000) (hP : P ≤ S) (σ : St) : f_X10_partOf (jZ (P : Int)) (jZ (S : Int)) σ = some (iZ ((P * 10 ^ 6 / S : Nat) : Int), σ) := by
  have e6 : 10 ^ 6 = 1000000 := by decide
  have e20 : 2 ^ 20 = 1048576 := by decide
  rw [e6]
  unfold f_X10_partOf
  have := m_part_go hS hb P (by omega) rfl σ 20 FU 0 (by omega) (by unfold FU; omega) (by omega) (by rw [Nat.zero_mul]; exact Nat.zero_le _) (by
    rw [Nat.zero_add, e20]
    have : P * 1000000 ≤ S * 1000000 := Nat.mul_le_mul_right _ hP
    omega)
  exact this

/-! NUMBERS: whole numbers of 32 and 64 bits told by integers -/
def iZ (z : Int) : Int32 := Int32.ofInt z
def jZ (z : Int) : Int64 := Int64.ofInt z
theorem iZ_toInt {z : Int} (h1 : -2147483648 ≤ z) (h2 : z < 2147483648) : (iZ z).toInt = z := by
  unfold iZ
  rw [Int32.toInt_ofInt]
  unfold Int.bmod
  have e : (Int32.size : Int) = 4294967296 := rfl
  simp only [e]
  omega
theorem jZ_toInt {z : Int} (h1 : -9223372036854775808 ≤ z) (h2 : z < 9223372036854775808) : (jZ z).toInt = z := by
  unfold jZ
  rw [Int64.toInt_ofInt]
  unfold Int.bmod
  have e : (Int64.size : Int) = 18446744073709551616 := rfl
  simp only [e]
  omega
theorem iZ_self (x : Int32) : iZ x.toInt = x := by
  unfold iZ
  exact Int32.ofInt_toInt x
theorem jZ_self (x : Int64) : jZ x.toInt = x := by
  unfold jZ
  exact Int64.ofInt_toInt x
theorem iZ_add (a b : Int) : iZ a + iZ b = iZ (a + b) := by unfold iZ; exact (Int32.ofInt_add a b).symm
theorem iZ_sub (a b : Int) : iZ a - iZ b = iZ (a - b) := by unfold iZ; exact (Int32.ofInt_sub a b).symm
theorem iZ_mul (a b : Int) : iZ a * iZ b = iZ (a * b) := by unfold iZ; exact (Int32.ofInt_mul a b).symm
theorem iZ_neg (a : Int) : -iZ a = iZ (-a) := by unfold iZ; exact (Int32.ofInt_neg a).symm
theorem jZ_add (a b : Int) : jZ a + jZ b = jZ (a + b) := by unfold jZ; exact (Int64.ofInt_add a b).symm
theorem jZ_sub (a b : Int) : jZ a - jZ b = jZ (a - b) := by unfold jZ; exact (Int64.ofInt_sub a b).symm
theorem jZ_mul (a b : Int) : jZ a * jZ b = jZ (a * b) := by unfold jZ; exact (Int64.ofInt_mul a b).symm
theorem jZ_neg (a : Int) : -jZ a = jZ (-a) := by unfold jZ; exact (Int64.ofInt_neg a).symm
theorem iZ_lt {a b : Int} (h1 : -2147483648 ≤ a) (h2 : a < 2147483648) (h3 : -2147483648 ≤ b) (h4 : b < 2147483648) : (iZ a < iZ b) = (a < b) := by
  rw [Int32.lt_iff_toInt_lt, iZ_toInt h1 h2, iZ_toInt h3 h4]
theorem iZ_le {a b : Int} (h1 : -2147483648 ≤ a) (h2 : a < 2147483648) (h3 : -2147483648 ≤ b) (h4 : b < 2147483648) : (iZ a ≤ iZ b) = (a ≤ b) := by
  rw [Int32.le_iff_toInt_le, iZ_toInt h1 h2, iZ_toInt h3 h4]
theorem iZ_eq {a b : Int} (h1 : -2147483648 ≤ a) (h2 : a < 2147483648) (h3 : -2147483648 ≤ b) (h4 : b < 2147483648) : (iZ a = iZ b) = (a = b) := by
  apply propext
  constructor
  · intro h
    have := congrArg Int32.toInt h
    rw [iZ_toInt h1 h2, iZ_toInt h3 h4] at this
    exact this
  · intro h; rw [h]
theorem jZ_lt {a b : Int} (h1 : -9223372036854775808 ≤ a) (h2 : a < 9223372036854775808) (h3 : -9223372036854775808 ≤ b) (h4 : b < 9223372036854775808) : (jZ a < jZ b) = (a < b) := by
  rw [Int64.lt_iff_toInt_lt, jZ_toInt h1 h2, jZ_toInt h3 h4]
theorem jZ_le {a b : Int} (h1 : -9223372036854775808 ≤ a) (h2 : a < 9223372036854775808) (h3 : -9223372036854775808 ≤ b) (h4 : b < 9223372036854775808) : (jZ a ≤ jZ b) = (a ≤ b) := by
  rw [Int64.le_iff_toInt_le, jZ_toInt h1 h2, jZ_toInt h3 h4]
theorem jZ_eq {a b : Int} (h1 : -9223372036854775808 ≤ a) (h2 : a < 9223372036854775808) (h3 : -9223372036854775808 ≤ b) (h4 : b < 9223372036854775808) : (jZ a = jZ b) = (a = b) := by
  apply propext
  constructor
  · intro h
    have := congrArg Int64.toInt h
    rw [jZ_toInt h1 h2, jZ_toInt h3 h4] at this
    exact this
  · intro h; rw [h]
theorem iZ_cl {a : Int} (h1 : 0 ≤ a) (h2 : a < 2147483648) : (iZ a).toNatClampNeg = a.toNat := by
  show (iZ a).toInt.toNat = a.toNat
  rw [iZ_toInt (by omega) h2]
theorem iZ_inb {a : Int} {n : Nat} (h1 : 0 ≤ a) (h2 : a < 2147483648) : inb (iZ a) n = decide (a < n) := by
  unfold inb
  have e0 : (0 : Int32) = iZ 0 := rfl
  have e : (iZ a < 0) = False := by
    rw [e0, iZ_lt (by omega) h2 (by omega) (by omega)]
    simp; omega
  simp only [e, iZ_cl h1 h2, false_or]
  by_cases h : a < n
  · simp only [h, decide_true]; simp; omega
  · simp only [h, decide_false]; simp; omega
theorem iZ_l {a : Int} (h1 : -2147483648 ≤ a) (h2 : a < 2147483648) : (iZ a).toInt64 = jZ a := by
  have h : ((iZ a).toInt64).toInt = (jZ a).toInt := by
    rw [Int32.toInt_toInt64, iZ_toInt h1 h2, jZ_toInt (by omega) (by omega)]
  exact Int64.toInt_inj.mp h
theorem jZ_i (a : Int) : (jZ a).toInt32 = iZ a := by
  unfold jZ iZ
  exact Int64.toInt32_ofInt
theorem iZ_div {a b : Int} (h1 : 0 ≤ a) (h2 : a < 2147483648) (h3 : 0 < b) (h4 : b < 2147483648) : iZ a / iZ b = iZ (a / b) := by
  have q1 : 0 ≤ a / b := Int.ediv_nonneg h1 (by omega)
  have q2 : a / b ≤ a := Int.ediv_le_self b h1
  have h : (iZ a / iZ b).toInt = (iZ (a / b)).toInt := by
    rw [Int32.toInt_div, iZ_toInt (by omega) h2, iZ_toInt (by omega) h4, iZ_toInt (by omega) (by omega), Int.tdiv_eq_ediv_of_nonneg h1]
    unfold Int.bmod
    have e : ((2 ^ 32 : Nat) : Int) = 4294967296 := rfl
    simp only [e]
    omega
  exact Int32.toInt_inj.mp h
theorem jZ_div {a b : Int} (h1 : 0 ≤ a) (h2 : a < 9223372036854775808) (h3 : 0 < b) (h4 : b < 9223372036854775808) : jZ a / jZ b = jZ (a / b) := by
  have q1 : 0 ≤ a / b := Int.ediv_nonneg h1 (by omega)
  have q2 : a / b ≤ a := Int.ediv_le_self b h1
  have h : (jZ a / jZ b).toInt = (jZ (a / b)).toInt := by
    rw [Int64.toInt_div, jZ_toInt (by omega) h2, jZ_toInt (by omega) h4, jZ_toInt (by omega) (by omega), Int.tdiv_eq_ediv_of_nonneg h1]
    unfold Int.bmod
    have e : ((2 ^ 64 : Nat) : Int) = 18446744073709551616 := rfl
    simp only [e]
    omega
  exact Int64.toInt_inj.mp h
theorem iZ_rm {a b : Int} (h1 : 0 ≤ a) (h2 : a < 2147483648) (h3 : 0 < b) (h4 : b < 2147483648) : rmI (iZ a) (iZ b) = iZ (a % b) := by
  unfold rmI
  rw [iZ_div h1 h2 h3 h4, iZ_mul, iZ_sub]
  congr 1
  have := Int.emod_add_mul_ediv a b
  rw [Int.mul_comm] at this
  omega
theorem jZ_rm {a b : Int} (h1 : 0 ≤ a) (h2 : a < 9223372036854775808) (h3 : 0 < b) (h4 : b < 9223372036854775808) : rmJ (jZ a) (jZ b) = jZ (a % b) := by
  unfold rmJ
  rw [jZ_div h1 h2 h3 h4, jZ_mul, jZ_sub]
  congr 1
  have := Int.emod_add_mul_ediv a b
  rw [Int.mul_comm] at this
  omega
theorem iZ_nz {b : Int} (h3 : b ≠ 0) (h5 : -2147483648 ≤ b) (h4 : b < 2147483648) : nzI (iZ b) = true := by
  unfold nzI
  have e0 : (0 : Int32) = iZ 0 := rfl
  simp only [e0, iZ_eq h5 h4 (show -2147483648 ≤ (0 : Int) by omega) (by omega)]
  simpa using h3
theorem jZ_nz {b : Int} (h3 : b ≠ 0) (h5 : -9223372036854775808 ≤ b) (h4 : b < 9223372036854775808) : nzJ (jZ b) = true := by
  unfold nzJ
  have e0 : (0 : Int64) = jZ 0 := rfl
  simp only [e0, jZ_eq h5 h4 (show -9223372036854775808 ≤ (0 : Int) by omega) (by omega)]
  simpa using h3
theorem iZ_mx {a b : Int} (h1 : -2147483648 ≤ a) (h2 : a < 2147483648) (h3 : -2147483648 ≤ b) (h4 : b < 2147483648) : mxI (iZ a) (iZ b) = iZ (max a b) := by
  unfold mxI
  simp only [iZ_lt h1 h2 h3 h4]
  split
  · congr 1; omega
  · congr 1; omega
theorem iZ_mn {a b : Int} (h1 : -2147483648 ≤ a) (h2 : a < 2147483648) (h3 : -2147483648 ≤ b) (h4 : b < 2147483648) : mnI (iZ a) (iZ b) = iZ (min a b) := by
  unfold mnI
  simp only [iZ_lt h3 h4 h1 h2]
  split
  · congr 1; omega
  · congr 1; omega
theorem iZ_ab {a : Int} (h1 : -2147483648 < a) (h2 : a < 2147483648) : abI (iZ a) = iZ (a.natAbs) := by
  unfold abI
  have e0 : (0 : Int32) = iZ 0 := rfl
  simp only [e0, iZ_le (show -2147483648 ≤ (0 : Int) by omega) (by omega) (show -2147483648 ≤ a by omega) h2]
  split
  · congr 1; omega
  · rw [iZ_sub]; congr 1; omega
theorem cmL (x y : Int64) : (lg_cmp x y < 0) = (x < y) := propext (lg_cmp_lt x y)
theorem cmLE (x y : Int64) : (lg_cmp x y ≤ 0) = (x ≤ y) := propext (lg_cmp_le x y)
theorem cmE (x y : Int64) : (lg_cmp x y = 0) = (x = y) := propext (lg_cmp_eq x y)
theorem cmG (x y : Int64) : (0 < lg_cmp x y) = (y < x) := propext (lg_cmp_gt x y)
theorem cmGE (x y : Int64) : (0 ≤ lg_cmp x y) = (y ≤ x) := propext (lg_cmp_ge x y)
theorem tens_jZ {j : Nat} (h : j ≤ 18) : tens j = jZ ((10 : Int) ^ j) := by
  unfold tens jZ
  rw [← Int64.ofInt_eq_ofNat]
  simp
/-- order and equality by the integers -/
theorem lI (a b : Int32) : (a < b) = (a.toInt < b.toInt) := propext Int32.lt_iff_toInt_lt
theorem leI (a b : Int32) : (a ≤ b) = (a.toInt ≤ b.toInt) := propext Int32.le_iff_toInt_le
theorem eI (a b : Int32) : (a = b) = (a.toInt = b.toInt) := propext Int32.toInt_inj.symm
theorem lJ (a b : Int64) : (a < b) = (a.toInt < b.toInt) := propext Int64.lt_iff_toInt_lt
theorem leJ (a b : Int64) : (a ≤ b) = (a.toInt ≤ b.toInt) := propext Int64.le_iff_toInt_le
theorem eJ (a b : Int64) : (a = b) = (a.toInt = b.toInt) := propext Int64.toInt_inj.symm
theorem i_lo (a : Int32) : -2147483648 ≤ a.toInt := Int32.le_toInt a
theorem i_hi (a : Int32) : a.toInt < 2147483648 := Int32.toInt_lt a
theorem tadd {a b : Int32} (h1 : -2147483648 ≤ a.toInt + b.toInt) (h2 : a.toInt + b.toInt < 2147483648) : (a + b).toInt = a.toInt + b.toInt := by
  rw [← iZ_self a, ← iZ_self b, iZ_add, iZ_self, iZ_self]; exact iZ_toInt h1 h2
theorem tsub {a b : Int32} (h1 : -2147483648 ≤ a.toInt - b.toInt) (h2 : a.toInt - b.toInt < 2147483648) : (a - b).toInt = a.toInt - b.toInt := by
  rw [← iZ_self a, ← iZ_self b, iZ_sub, iZ_self, iZ_self]; exact iZ_toInt h1 h2
theorem tmul {a b : Int32} (h1 : -2147483648 ≤ a.toInt * b.toInt) (h2 : a.toInt * b.toInt < 2147483648) : (a * b).toInt = a.toInt * b.toInt := by
  rw [← iZ_self a, ← iZ_self b, iZ_mul, iZ_self, iZ_self]; exact iZ_toInt h1 h2
theorem t64 (a : Int32) : a.toInt64.toInt = a.toInt := Int32.toInt_toInt64 a
theorem tlit (n : Nat) (h : n < 2147483648) : (OfNat.ofNat n : Int32).toInt = n := iZ_toInt (z := n) (by omega) (by omega)
theorem cl_of' {a : Int32} : a.toNatClampNeg = a.toInt.toNat := rfl
theorem inb_t {a : Int32} {n : Nat} : inb a n = decide (0 ≤ a.toInt ∧ a.toInt < n) := by
  unfold inb
  have e0 : (0 : Int32).toInt = 0 := rfl
  have hc : a.toNatClampNeg = a.toInt.toNat := rfl
  exact decide_eq_decide.mpr (by rw [lI, e0, hc]; omega)
theorem inb_i {a : Int32} {n : Nat} (h1 : 0 ≤ a.toInt) (h2 : a.toInt < n) : inb a n = true := by rw [inb_t]; exact decide_eq_true ⟨h1, h2⟩

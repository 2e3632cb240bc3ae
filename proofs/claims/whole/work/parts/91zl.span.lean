/-! SPAN: how many, the least and the greatest -/
def Wf (m : Int) (h : Nat → Nat) : Nat → Int → Int
  | 0, z => if z % m = 0 then 1 else 0
  | k + 1, z => esum (fun d => Wf m h k (z - (d : Int) * 10 ^ (h k))) 10
theorem Wf_per {m : Int} {h : Nat → Nat} : ∀ k z z', z % m = z' % m → Wf m h k z = Wf m h k z' := by
  intro k
  induction k with
  | zero =>
    intro z z' e
    show (if z % m = 0 then (1 : Int) else 0) = if z' % m = 0 then 1 else 0
    rw [e]
  | succ k ih =>
    intro z z' e
    refine esum_cg 10 (fun d _ => ih _ _ ?_)
    rw [Int.sub_emod, e, ← Int.sub_emod]
theorem Wf_nn {m : Int} {h : Nat → Nat} : ∀ k z, 0 ≤ Wf m h k z := by
  intro k
  induction k with
  | zero =>
    intro z
    show 0 ≤ (if z % m = 0 then (1 : Int) else 0)
    split <;> omega
  | succ k ih => intro z; exact esum_nn 10 (fun d _ => ih _)
theorem esum_c (c : Int) : ∀ n : Nat, esum (fun _ => c) n = n * c := by
  intro n
  induction n with
  | zero => show (0 : Int) = ((0 : Nat) : Int) * c; rw [Int.natCast_zero, Int.zero_mul]
  | succ n ih =>
    show esum (fun _ => c) n + c = ((n + 1 : Nat) : Int) * c
    rw [ih, Int.natCast_add, Int.add_mul, Int.natCast_one, Int.one_mul]
theorem Wf_le {m : Int} {h : Nat → Nat} : ∀ k z, Wf m h k z ≤ 10 ^ k := by
  intro k
  induction k with
  | zero =>
    intro z
    show (if z % m = 0 then (1 : Int) else 0) ≤ 1
    split <;> omega
  | succ k ih =>
    intro z
    refine Int.le_trans (esum_le (g := fun _ => 10 ^ k) 10 (fun d _ => ih _)) ?_
    rw [esum_c, Int.pow_succ, Int.mul_comm]
    exact Int.le_refl _
theorem esum_pos {f : Nat → Int} : ∀ n : Nat, (∀ j, j < n → 0 ≤ f j) → (0 < esum f n ↔ ∃ j, j < n ∧ 0 < f j) := by
  intro n
  induction n with
  | zero => intro _; exact ⟨fun q => by have : (0 : Int) < 0 := q; omega, fun ⟨j, a, _⟩ => by omega⟩
  | succ n ih =>
    intro h
    have i1 := ih (fun j a => h j (by omega))
    have i2 := esum_nn n (fun j a => h j (by omega))
    have i3 := h n (by omega)
    show 0 < esum f n + f n ↔ _
    constructor
    · intro q
      by_cases c : 0 < f n
      · exact ⟨n, by omega, c⟩
      · obtain ⟨j, a, b⟩ := i1.mp (by omega)
        exact ⟨j, by omega, b⟩
    · rintro ⟨j, a, b⟩
      by_cases c : j = n
      · subst c; omega
      · have := i1.mpr ⟨j, by omega, b⟩
        omega
def fsD (P : Nat → Bool) : Nat → Option Nat
  | 0 => none
  | n + 1 => match fsD P n with
    | some a => some a
    | none => bif P n then some n else none
def laD (P : Nat → Bool) : Nat → Option Nat
  | 0 => none
  | n + 1 => bif P n then some n else laD P n
theorem fsD_none {P : Nat → Bool} : ∀ n, fsD P n = none ↔ ∀ j, j < n → P j = false := by
  intro n
  induction n with
  | zero => exact ⟨fun _ j a => by omega, fun _ => rfl⟩
  | succ n ih =>
    show (match fsD P n with | some a => some a | none => bif P n then some n else none) = none ↔ _
    cases e : fsD P n with
    | some a =>
      refine ⟨fun q => (by cases q), fun q => ?_⟩
      rw [ih.mpr (fun j a => q j (by omega))] at e
      cases e
    | none =>
      have := ih.mp e
      cases p : P n with
      | true => exact ⟨fun q => (by cases q), fun q => by rw [q n (by omega)] at p; cases p⟩
      | false =>
        refine ⟨fun _ j a => ?_, fun _ => rfl⟩
        by_cases c : j = n
        · rw [c]; exact p
        · exact this j (by omega)
theorem fsD_some {P : Nat → Bool} {a : Nat} : ∀ n, fsD P n = some a → a < n ∧ P a = true ∧ ∀ j, j < a → P j = false := by
  intro n
  induction n with
  | zero => intro h; cases h
  | succ n ih =>
    intro h
    have h' : (match fsD P n with | some a => some a | none => bif P n then some n else none) = some a := h
    cases e : fsD P n with
    | some b =>
      rw [e] at h'
      have : b = a := Option.some.inj h'
      subst this
      obtain ⟨i1, i2⟩ := ih e
      exact ⟨by omega, i2⟩
    | none =>
      rw [e] at h'
      cases p : P n with
      | true =>
        rw [p] at h'
        have : n = a := Option.some.inj h'
        subst this
        exact ⟨by omega, p, (fsD_none n).mp e⟩
      | false => rw [p] at h'; cases h'
theorem laD_none {P : Nat → Bool} : ∀ n, laD P n = none ↔ ∀ j, j < n → P j = false := by
  intro n
  induction n with
  | zero => exact ⟨fun _ j a => by omega, fun _ => rfl⟩
  | succ n ih =>
    show (bif P n then some n else laD P n) = none ↔ _
    cases p : P n with
    | true => exact ⟨fun q => (by cases q), fun q => by rw [q n (by omega)] at p; cases p⟩
    | false =>
      refine Iff.trans ih ⟨fun q j a => ?_, fun q j a => q j (by omega)⟩
      by_cases c : j = n
      · rw [c]; exact p
      · exact q j (by omega)
theorem laD_some {P : Nat → Bool} {a : Nat} : ∀ n, laD P n = some a → a < n ∧ P a = true ∧ ∀ j, a < j → j < n → P j = false := by
  intro n
  induction n with
  | zero => intro h; cases h
  | succ n ih =>
    intro h
    have h' : (bif P n then some n else laD P n) = some a := h
    cases p : P n with
    | true =>
      rw [p] at h'
      have : n = a := Option.some.inj h'
      subst this
      exact ⟨by omega, p, fun j _ _ => by omega⟩
    | false =>
      rw [p] at h'
      obtain ⟨i1, i2, i3⟩ := ih h'
      refine ⟨by omega, i2, fun j a b => ?_⟩
      by_cases c : j = n
      · rw [c]; exact p
      · exact i3 j a (by omega)
def Pk (m : Int) (h : Nat → Nat) (k : Nat) (z : Int) (d : Nat) : Bool := decide (0 < Wf m h k (z - (d : Int) * 10 ^ (h k)))
def seD (g : Bool) (P : Nat → Bool) : Nat → Option Nat := bif g then laD P else fsD P
def ov (m : Int) (h : Nat → Nat) (g : Bool) : Nat → Int → Int
  | 0, _ => 0
  | k + 1, z => match seD g (Pk m h k z) 10 with
    | some d => (d : Int) * 10 ^ (h k) + ov m h g k (z - (d : Int) * 10 ^ (h k))
    | none => 0
theorem seD_lt {g : Bool} {P : Nat → Bool} {n a : Nat} (e : seD g P n = some a) : a < n ∧ P a = true := by
  cases g with
  | true => exact ⟨(laD_some n e).1, (laD_some n e).2.1⟩
  | false => exact ⟨(fsD_some n e).1, (fsD_some n e).2.1⟩
def mxV (h : Nat → Nat) : Nat → Int
  | 0 => 0
  | k + 1 => mxV h k + 9 * 10 ^ (h k)
theorem tnP (k : Nat) : (0 : Int) < 10 ^ k := Int.pow_pos (by omega)
theorem mxV_nn {h : Nat → Nat} : ∀ k, 0 ≤ mxV h k := by
  intro k
  induction k with
  | zero => exact Int.le_refl _
  | succ k ih => show 0 ≤ mxV h k + 9 * 10 ^ (h k); have := tnP (h k); omega
theorem mxV_lt {h : Nat → Nat} {s : Nat} (hi : ∀ i, i + 1 < s → h i < h (i + 1)) : ∀ k, k < s → mxV h k < 10 ^ (h k) := by
  intro k
  induction k with
  | zero => intro _; exact tnP _
  | succ k ih =>
    intro hk
    have a := ih (by omega)
    have b : (10 : Int) ^ (h k + 1) ≤ 10 ^ (h (k + 1)) := by
      have := Nat.pow_le_pow_right (n := 10) (by omega) (show h k + 1 ≤ h (k + 1) from hi k hk)
      exact_mod_cast this
    rw [Int.pow_succ] at b
    show mxV h k + 9 * 10 ^ (h k) < _
    omega
theorem ov_b {m : Int} {h : Nat → Nat} {g : Bool} : ∀ k z, 0 ≤ ov m h g k z ∧ ov m h g k z ≤ mxV h k := by
  intro k
  induction k with
  | zero => intro z; exact ⟨Int.le_refl _, Int.le_refl _⟩
  | succ k ih =>
    intro z
    have mn := mxV_nn (h := h) k
    have pp := tnP (h k)
    show 0 ≤ (match seD g (Pk m h k z) 10 with | some d => (d : Int) * 10 ^ (h k) + ov m h g k (z - (d : Int) * 10 ^ (h k)) | none => 0) ∧ (match seD g (Pk m h k z) 10 with | some d => (d : Int) * 10 ^ (h k) + ov m h g k (z - (d : Int) * 10 ^ (h k)) | none => 0) ≤ mxV h k + 9 * 10 ^ (h k)
    cases e : seD g (Pk m h k z) 10 with
    | none => exact ⟨Int.le_refl _, by show (0 : Int) ≤ _; omega⟩
    | some d =>
      obtain ⟨a1, a2⟩ := ih (z - (d : Int) * 10 ^ (h k))
      have hd := (seD_lt e).1
      have b1 : (0 : Int) ≤ (d : Int) * 10 ^ (h k) := Int.mul_nonneg (by omega) (by omega)
      have b2 : (d : Int) * 10 ^ (h k) ≤ 9 * 10 ^ (h k) := Int.mul_le_mul_of_nonneg_right (by omega) (by omega)
      show 0 ≤ (d : Int) * 10 ^ (h k) + _ ∧ (d : Int) * 10 ^ (h k) + _ ≤ _
      omega
/-- what a code of digits adds -/
def Vf (h : Nat → Nat) : Nat → Nat → Int
  | 0, _ => 0
  | i + 1, c => Vf h i c + ((c / 10 ^ i % 10 : Nat) : Int) * 10 ^ (h i)
theorem dig_hi {a k c i : Nat} (hc : c < 10 ^ k) (hi : k ≤ i) : (a * 10 ^ k + c) / 10 ^ i = (a * 10 ^ k) / 10 ^ i := by
  have e : 10 ^ i = 10 ^ k * 10 ^ (i - k) := by rw [← Nat.pow_add]; congr 1; omega
  have p : 0 < 10 ^ k := Nat.pow_pos (by omega)
  rw [e, ← Nat.div_div_eq_div_mul, ← Nat.div_div_eq_div_mul, Nat.mul_div_cancel _ p, Nat.add_comm, Nat.add_mul_div_right _ _ p, Nat.div_eq_of_lt hc, Nat.zero_add]
theorem dig_lo {a k c i : Nat} (hi : i < k) : (a * 10 ^ k + c) / 10 ^ i % 10 = c / 10 ^ i % 10 := by
  have p : 0 < 10 ^ i := Nat.pow_pos (by omega)
  have e : a * 10 ^ k = 10 ^ i * (10 * (a * 10 ^ (k - i - 1))) := by
    have : 10 ^ k = 10 ^ i * (10 * 10 ^ (k - i - 1)) := by
      rw [← Nat.pow_succ', ← Nat.pow_add]; congr 1; omega
    rw [this]
    simp only [Nat.mul_comm, Nat.mul_left_comm, Nat.mul_assoc]
  rw [e, Nat.add_comm, Nat.add_mul_div_left _ _ p, Nat.add_mul_mod_self_left]
theorem Vf_lo {h : Nat → Nat} {a k c : Nat} : ∀ j, j ≤ k → Vf h j (a * 10 ^ k + c) = Vf h j c := by
  intro j
  induction j with
  | zero => intro _; rfl
  | succ j ih =>
    intro hj
    show Vf h j (a * 10 ^ k + c) + (((a * 10 ^ k + c) / 10 ^ j % 10 : Nat) : Int) * 10 ^ (h j) = Vf h j c + ((c / 10 ^ j % 10 : Nat) : Int) * 10 ^ (h j)
    rw [ih (by omega), dig_lo (by omega)]
theorem Vf_0 {h : Nat → Nat} : ∀ j, Vf h j 0 = 0 := by
  intro j
  induction j with
  | zero => rfl
  | succ j ih =>
    show Vf h j 0 + ((0 / 10 ^ j % 10 : Nat) : Int) * 10 ^ (h j) = 0
    rw [ih, Nat.zero_div]
    simp
theorem Vf_hi {h : Nat → Nat} {a k c : Nat} (hc : c < 10 ^ k) : ∀ n, Vf h (k + n) (a * 10 ^ k + c) = Vf h (k + n) (a * 10 ^ k) + Vf h k c := by
  intro n
  induction n with
  | zero =>
    have e : Vf h k (a * 10 ^ k) = 0 := by
      have := Vf_lo (h := h) (a := a) (k := k) (c := 0) k (Nat.le_refl k)
      rw [Nat.add_zero] at this
      rw [this, Vf_0]
    rw [Nat.add_zero, Vf_lo k (Nat.le_refl k), e, Int.zero_add]
  | succ n ih =>
    show Vf h (k + n) (a * 10 ^ k + c) + (((a * 10 ^ k + c) / 10 ^ (k + n) % 10 : Nat) : Int) * 10 ^ (h (k + n)) = Vf h (k + n) (a * 10 ^ k) + (((a * 10 ^ k) / 10 ^ (k + n) % 10 : Nat) : Int) * 10 ^ (h (k + n)) + Vf h k c
    rw [ih, dig_hi hc (by omega)]
    omega
theorem Vf_sub {h : Nat → Nat} {a k d s : Nat} (hd : d < 10) (hk : k + 1 ≤ s) : Vf h s ((10 * a + d) * 10 ^ k) = Vf h s (a * 10 ^ (k + 1)) + (d : Int) * 10 ^ (h k) := by
  have p : 0 < 10 ^ k := Nat.pow_pos (by omega)
  have e : (10 * a + d) * 10 ^ k = a * 10 ^ (k + 1) + d * 10 ^ k := by
    rw [Nat.add_mul, Nat.pow_succ]
    simp only [Nat.mul_comm, Nat.mul_left_comm, Nat.mul_assoc]
  have hc : d * 10 ^ k < 10 ^ (k + 1) := by
    rw [Nat.pow_succ, Nat.mul_comm]
    exact Nat.mul_lt_mul_of_pos_left hd p
  have := Vf_hi (h := h) (a := a) hc (s - (k + 1))
  rw [show k + 1 + (s - (k + 1)) = s by omega] at this
  rw [e, this]
  congr 1
  show Vf h k (d * 10 ^ k) + ((d * 10 ^ k / 10 ^ k % 10 : Nat) : Int) * 10 ^ (h k) = _
  have e0 : Vf h k (d * 10 ^ k) = 0 := by
    have := Vf_lo (h := h) (a := d) (k := k) (c := 0) k (Nat.le_refl k)
    rw [Nat.add_zero] at this
    rw [this, Vf_0]
  rw [e0, Nat.mul_div_cancel _ p, Nat.mod_eq_of_lt hd, Int.zero_add]
theorem Vf_b {h : Nat → Nat} : ∀ s c, 0 ≤ Vf h s c ∧ Vf h s c ≤ mxV h s := by
  intro s
  induction s with
  | zero => intro c; exact ⟨Int.le_refl _, Int.le_refl _⟩
  | succ s ih =>
    intro c
    obtain ⟨a1, a2⟩ := ih c
    have pp := tnP (h s)
    have hd : c / 10 ^ s % 10 < 10 := Nat.mod_lt _ (by omega)
    have b1 : (0 : Int) ≤ ((c / 10 ^ s % 10 : Nat) : Int) * 10 ^ (h s) := Int.mul_nonneg (by omega) (by omega)
    have b2 : ((c / 10 ^ s % 10 : Nat) : Int) * 10 ^ (h s) ≤ 9 * 10 ^ (h s) := Int.mul_le_mul_of_nonneg_right (by omega) (by omega)
    show 0 ≤ Vf h s c + ((c / 10 ^ s % 10 : Nat) : Int) * 10 ^ (h s) ∧ Vf h s c + ((c / 10 ^ s % 10 : Nat) : Int) * 10 ^ (h s) ≤ mxV h s + 9 * 10 ^ (h s)
    omega

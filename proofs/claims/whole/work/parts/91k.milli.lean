/-! PARTS OF A MILLION -/
theorem dmu {a b q c : Nat} (hb : 0 < b) (h : q * b + c = a) (hc : c < b) : a / b = q ∧ a % b = c := by
  have := (Nat.div_mod_unique (a := a) (b := b) (c := c) (d := q) hb).mpr ⟨by rw [Nat.mul_comm b q]; omega, hc⟩
  exact this
theorem c_mil38 {S : Nat} (hS : 0 < S) (hb : S ≤ 9000000000000000000) (K : Int64 → Int32 → Int64 → Int32 → St → Option (Int32 × St)) (x4 x7 : Int32) (σ : St) (r : Nat) (hr : r < S) : ∀ m n t dg tf : Nat, t + m = 10 → m < n → dg * S + tf = t * r → tf < S → f_X9_millionths_38 K n (jZ (S : Int)) x4 (jZ (r : Int)) x7 (iZ (dg : Int)) (jZ (tf : Int)) (iZ (t : Int)) σ = K (jZ (S : Int)) (10 * x4 + iZ ((10 * r / S : Nat) : Int)) (jZ ((10 * r % S : Nat) : Int)) (x7 + 1) σ := by
  intro m
  induction m with
  | zero =>
    intro n t dg tf e hn h1 h2
    cases n with
    | zero => omega
    | succ n =>
      have ht : t = 10 := by omega
      subst ht
      obtain ⟨d1, d2⟩ := dmu hS h1 h2
      rw [f_X9_millionths_38, if_pos (by rw [leI, t_10, iZt (by omega)]; omega), d1, d2]
      rfl
  | succ m ih =>
    intro n t dg tf e hn h1 h2
    cases n with
    | zero => omega
    | succ n =>
      have es : jZ (S : Int) - jZ (r : Int) = jZ ((S - r : Nat) : Int) := by rw [jZ_sub]; congr 1; omega
      rw [f_X9_millionths_38, if_neg (by rw [leI, t_10, iZt (by omega)]; omega), es]
      unfold f_X9_millionths_64 f_X9_millionths_77
      have hc : (lg_cmp (jZ (tf : Int)) (jZ ((S - r : Nat) : Int)) < 0) = (tf < S - r) := by
        rw [cmL, jZ_lt (by omega) (by omega) (by omega) (by omega)]
        exact propext (by omega)
      have hm : (t + 1) * r = t * r + r := Nat.succ_mul t r
      by_cases c : tf < S - r
      · rw [if_pos (hc.mpr c), jZ_add, iZs t]
        have := ih n (t + 1) dg (tf + r) (by omega) (by omega) (by omega) (by omega)
        rw [Int.natCast_add] at this
        exact this
      · rw [if_neg (fun h => c (hc.mp h)), jZ_sub, iZs t, iZs dg]
        have hd : (dg + 1) * S = dg * S + S := Nat.succ_mul dg S
        have := ih n (t + 1) (dg + 1) (tf - (S - r)) (by omega) (by omega) (by omega) (by omega)
        have e2 : (tf : Int) - ((S - r : Nat) : Int) = ((tf - (S - r) : Nat) : Int) := by omega
        rw [e2]
        exact this
theorem c_mil22 {S P : Nat} (hS : 0 < S) (hb : S ≤ 9000000000000000000) (σ : St) : ∀ m n t q r : Nat, t + m = 6 → m < n → q * S + r = P * 10 ^ t → r < S → f_X9_millionths_22 n (jZ (S : Int)) (iZ (q : Int)) (jZ (r : Int)) (iZ (t : Int)) σ = some (iZ ((P * 10 ^ 6 / S : Nat) : Int), σ) := by
  intro m
  induction m with
  | zero =>
    intro n t q r e hn h1 h2
    cases n with
    | zero => omega
    | succ n =>
      have ht : t = 6 := by omega
      subst ht
      obtain ⟨d1, _⟩ := dmu hS h1 h2
      rw [f_X9_millionths_22, if_pos (by rw [leI, t_6, iZt (by omega)]; omega), d1]
  | succ m ih =>
    intro n t q r e hn h1 h2
    cases n with
    | zero => omega
    | succ n =>
      rw [f_X9_millionths_22, if_neg (by rw [leI, t_6, iZt (by omega)]; omega)]
      have w := c_mil38 hS hb (f_X9_millionths_22 n) (iZ (q : Int)) (iZ (t : Int)) σ r h2 10 FU 0 0 0 (by omega) (by unfold FU; omega) (by rw [Nat.zero_mul, Nat.zero_mul]) hS
      refine Eq.trans w ?_
      have eq : (10 : Int32) * iZ (q : Int) + iZ ((10 * r / S : Nat) : Int) = iZ ((10 * q + 10 * r / S : Nat) : Int) := by rw [ten_a, iZa]
      rw [eq, iZs]
      refine ih n (t + 1) _ _ (by omega) (by omega) ?_ (Nat.mod_lt _ hS)
      have dm := Nat.div_add_mod (10 * r) S
      rw [Nat.mul_comm] at dm
      have e3 : P * 10 ^ (t + 1) = 10 * (P * 10 ^ t) := by rw [Nat.pow_succ, ← Nat.mul_assoc, Nat.mul_comm]
      have e4 : 10 * q * S = 10 * (q * S) := Nat.mul_assoc _ _ _
      rw [Nat.add_mul, e4, e3, ← h1]
      omega
theorem s_mil {S P : Nat} (hb : S ≤ 9000000000000000000) (hP : P ≤ S) (σ : St) : f_X9_millionths (jZ (P : Int)) (jZ (S : Int)) σ = some (if S = 0 then 0 else iZ ((P * 10 ^ 6 / S : Nat) : Int), σ) := by
  unfold f_X9_millionths f_X9_millionths_14 f_X9_millionths_19
  have hc : ((0 : Int32) < lg_cmp (jZ (S : Int)) 0) = (0 < S) := by
    rw [cmG, lJ, jZ_toInt (by omega) (by omega), l_0]
    exact propext (by omega)
  by_cases c : S = 0
  · rw [if_pos c, if_neg (fun h => by have := hc.mp h; omega)]
  · have hS : 0 < S := by omega
    have hz : nzJ (jZ (S : Int)) = true := jZ_nz (by omega) (by omega) (by omega)
    rw [if_neg c, if_pos (hc.mpr hS), gd_t hz, gd_t hz, jZ_div (by omega) (by omega) (by omega) (by omega), jZ_rm (by omega) (by omega) (by omega) (by omega), jZ_i]
    have e1 : (P : Int) / (S : Int) = ((P / S : Nat) : Int) := (Int.natCast_ediv _ _).symm
    have e2 : (P : Int) % (S : Int) = ((P % S : Nat) : Int) := (Int.natCast_emod _ _).symm
    rw [e1, e2]
    refine c_mil22 (P := P) hS hb σ 6 FU 0 _ _ (by omega) (by unfold FU; omega) ?_ (Nat.mod_lt _ hS)
    rw [Nat.pow_zero, Nat.mul_one, Nat.mul_comm]
    exact Nat.div_add_mod P S

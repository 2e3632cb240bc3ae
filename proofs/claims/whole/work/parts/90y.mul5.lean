/-! MULTIPLY BY BITS -/
def nbF : Nat → Nat → Nat
  | 0, _ => 0
  | m + 1, b => if b = 0 then 0 else nbF m (b / 2) + 1
def nlzP (x : Int32) : Int32 :=
  let s4 := fun (x0 x1 : Int32) => x1 - ushI x0 1
  let s3 := fun (x0 x1 : Int32) => if x0 < 4 then s4 x0 x1 else s4 (ushI x0 2) (x1 + (-2))
  let s2 := fun (x0 x1 : Int32) => if x0 < 16 then s3 x0 x1 else s3 (ushI x0 4) (x1 + (-4))
  let s1 := fun (x0 x1 : Int32) => if x0 < 256 then s2 x0 x1 else s2 (ushI x0 8) (x1 + (-8))
  if (0 : Int32) < x then (if x < 65536 then s1 x 31 else s1 (ushI x 16) (31 + (-16))) else if x = 0 then 32 else 0
theorem nlz_73 (x0 x1 : Int32) (σ : St) : f_J6_numberOfLeadingZeros_0f7a4_73 x0 x1 σ = some (x1 - ushI x0 1, σ) := rfl
theorem s_nlz (x : Int32) (σ : St) : f_J6_numberOfLeadingZeros_0f7a4 x σ = some (nlzP x, σ) := by
  unfold f_J6_numberOfLeadingZeros_0f7a4 f_J6_numberOfLeadingZeros_0f7a4_33 f_J6_numberOfLeadingZeros_0f7a4_48 f_J6_numberOfLeadingZeros_0f7a4_61 f_J6_numberOfLeadingZeros_0f7a4_14 nlzP
  simp only [nlz_73]
  repeat' split
  all_goals rfl
theorem nlz_tab2 : ∀ i : Fin 100, ∀ j : Fin 100, nlzP (iZ ((100 * i.1 + j.1 : Nat) : Int)) = iZ ((32 - nbF 14 (100 * i.1 + j.1) : Nat) : Int) ∧ nbF 14 (100 * i.1 + j.1) ≤ 14 ∧ 100 * i.1 + j.1 < 2 ^ nbF 14 (100 * i.1 + j.1) ∧ (nbF 14 (100 * i.1 + j.1) = 0 ∨ 2 ^ (nbF 14 (100 * i.1 + j.1) - 1) ≤ 100 * i.1 + j.1) := by decide +kernel
theorem nlz_tab {b : Nat} (h : b ≤ 9999) : nlzP (iZ (b : Int)) = iZ ((32 - nbF 14 b : Nat) : Int) ∧ nbF 14 b ≤ 14 ∧ b < 2 ^ nbF 14 b ∧ (nbF 14 b = 0 ∨ 2 ^ (nbF 14 b - 1) ≤ b) := by
  have := nlz_tab2 ⟨b / 100, by omega⟩ ⟨b % 100, by omega⟩
  have e : 100 * (b / 100) + b % 100 = b := by omega
  simp only [e] at this
  exact this
theorem bit_iZ {b k : Nat} (hk : k < 32) : bitI (iZ (b : Int)) k ↔ b.testBit k = true := by
  have e : iZ (b : Int) = Int32.ofNat b := (ofN_iZ b).symm
  rw [e]
  show (BitVec.ofNat 32 b).getLsbD k = true ↔ _
  rw [BitVec.getLsbD_ofNat]
  simp [hk]
theorem shr_iZ {b k : Nat} (hb : b < 2147483648) (hk : k < 32) : shrI (iZ (b : Int)) (iZ (k : Int)) = iZ ((b / 2 ^ k : Nat) : Int) := by
  have e : (shrI (iZ (b : Int)) (iZ (k : Int))).toBitVec = (iZ (b : Int)).toBitVec.sshiftRight k := by
    show BitVec.sshiftRight' (iZ (b : Int)).toBitVec ((iZ (k : Int) &&& 31).toBitVec.smod 32) = _
    rw [k31s ⟨k, hk⟩]
    show (iZ (b : Int)).toBitVec.sshiftRight (BitVec.ofNat 32 k).toNat = _
    rw [BitVec.toNat_ofNat, Nat.mod_eq_of_lt (by omega)]
  have q : b / 2 ^ k ≤ b := Nat.div_le_self _ _
  apply Int32.toInt_inj.mp
  rw [iZt (by omega)]
  show (shrI (iZ (b : Int)) (iZ (k : Int))).toBitVec.toInt = _
  rw [e, BitVec.toInt_sshiftRight]
  have e2 : (iZ (b : Int)).toBitVec.toInt = (b : Int) := iZt hb
  rw [e2, Int.shiftRight_eq_div_pow]
  rw [Int.natCast_ediv]
def bitsL (a b : Nat) : Nat → List (Option Nat)
  | 0 => []
  | k + 1 => (none :: (if b.testBit k then [some a] else [])) ++ bitsL a b k
theorem c_bits {a b : Nat} (ha : a ≤ 9999) (hb : b ≤ 9999) : ∀ k n : Nat, ∀ x3 : Int32, ∀ σ : St, k ≤ 14 → k < n → f_X9_multiplyByBits_11 n (iZ (a : Int)) (iZ (b : Int)) x3 (iZ ((k : Int) - 1)) σ = (chX (bitsL a b k) σ).bind fun σ' => some (x3 + iZ ((bitsL a b k).length : Int), σ') := by
  intro k
  induction k with
  | zero =>
    intro n x3 σ _ hn
    cases n with
    | zero => omega
    | succ n =>
      rw [f_X9_multiplyByBits_11, if_pos iZ_m1n]
      show _ = some (x3 + 0, σ)
      rw [Int32.add_zero]
  | succ k ih =>
    intro n x3 σ hk hn
    cases n with
    | zero => omega
    | succ n =>
      rw [iZq, f_X9_multiplyByBits_11, if_neg (by rw [lI, iZt (by omega), t_0]; omega)]
      unfold f_X9_multiplyByBits_49
      rw [iZm1, bitsL]
      show _ = ((f_X7_twice 5 σ).bind fun p => chX ((if b.testBit k then [some a] else []) ++ bitsL a b k) p).bind _
      cases c : f_X7_twice 5 σ with
      | none => rfl
      | some p =>
        show ((f_X9_hasBit (iZ (b : Int)) (iZ (k : Int)) p).bind _) = (chX ((if b.testBit k then [some a] else []) ++ bitsL a b k) p).bind _
        rw [bnd (s_hasBit (iZ (b : Int)) k (by omega) p)]
        simp only [bZ_0]
        by_cases t : b.testBit k = true
        · rw [if_neg (not_not_intro ((bit_iZ (by omega)).mpr t))]
          simp only [if_pos t]
          show _ = ((f_X7_bring_n 5 (iZ (a : Int)) 0 0 p).bind fun p2 => chX (bitsL a b k) p2).bind _
          cases c2 : f_X7_bring_n 5 (iZ (a : Int)) 0 0 p with
          | none => rfl
          | some p2 =>
            show f_X9_multiplyByBits_11 n (iZ (a : Int)) (iZ (b : Int)) (x3 + 1 + 1) (iZ ((k : Int) - 1)) p2 = (chX (bitsL a b k) p2).bind _
            rw [ih n _ p2 (by omega) (by omega)]
            have el : x3 + 1 + 1 + iZ ((bitsL a b k).length : Int) = x3 + iZ ((([none, some a] ++ bitsL a b k).length : Nat) : Int) := by
              show _ = x3 + iZ (((bitsL a b k).length + 1 + 1 : Nat) : Int)
              rw [len_s, len_s]
            rw [el]
        · rw [if_pos (fun h => t ((bit_iZ (by omega)).mp h))]
          simp only [if_neg t]
          show f_X9_multiplyByBits_11 n (iZ (a : Int)) (iZ (b : Int)) (x3 + 1) (iZ ((k : Int) - 1)) p = (chX (bitsL a b k) p).bind _
          rw [ih n _ p (by omega) (by omega)]
          have el : x3 + 1 + iZ ((bitsL a b k).length : Int) = x3 + iZ ((([none] ++ bitsL a b k).length : Nat) : Int) := by
            show _ = x3 + iZ (((bitsL a b k).length + 1 : Nat) : Int)
            rw [len_s]
          rw [el]
theorem bZ_1 {p : Prop} [Decidable p] : (bZ p = 1) = p := by
  unfold bZ
  by_cases h : p
  · simp [h]
  · simp [h]
theorem m_bits {a b nb : Nat} (ha : a ≤ 9999) (hb : b ≤ 9999) (h1 : b < 2 ^ nb) (h2 : nb = 0 ∨ 2 ^ (nb - 1) ≤ b) : ∀ k n : Nat, ∀ σ : St, k ≤ 14 → k < n → f_X10_multiply_24 n (iZ (a : Int)) (iZ (b : Int)) (iZ ((k : Int) - 1)) σ = chY (bitsL a b (min k nb)) σ := by
  intro k
  induction k with
  | zero =>
    intro n σ _ hn
    cases n with
    | zero => omega
    | succ n =>
      rw [f_X10_multiply_24, if_pos iZ_m1n, Nat.zero_min]
      rfl
  | succ k ih =>
    intro n σ hk hn
    cases n with
    | zero => omega
    | succ n =>
      have q : b / 2 ^ k ≤ b := Nat.div_le_self _ _
      rw [iZq, f_X10_multiply_24, if_neg (by rw [lI, iZt (by omega), t_0]; omega), shr_iZ (by omega) (by omega)]
      unfold f_X10_multiply_56
      rw [iZm1]
      by_cases c : k < nb
      · have hp : 2 ^ k ≤ 2 ^ (nb - 1) := Nat.pow_le_pow_right (by omega) (by omega)
        have hpos : 0 < b / 2 ^ k := Nat.div_pos (by omega) (Nat.pow_pos (by omega))
        rw [if_neg (by rw [leI, iZt (by omega), t_0]; omega), show min (k + 1) nb = k + 1 by omega, bitsL]
        have em : min k nb = k := by omega
        show _ = ((f_X10_twice σ).bind fun p => chY ((if b.testBit k then [some a] else []) ++ bitsL a b k) p)
        have eb : (iZ ((b / 2 ^ k : Nat) : Int) &&& 1 = 1) = (b.testBit k = true) := by
          rw [← shr_iZ (by omega) (by omega), and1, shr_bit _ (by omega), bZ_1]
          exact propext (bit_iZ (by omega))
        cases c2 : f_X10_twice σ with
        | none => rfl
        | some p =>
          show (if iZ ((b / 2 ^ k : Nat) : Int) &&& 1 = 1 then (f_X10_addTo (iZ (a : Int)).toInt64 p).bind (fun p5 => f_X10_multiply_24 n (iZ (a : Int)) (iZ (b : Int)) (iZ ((k : Int) - 1)) p5) else f_X10_multiply_24 n (iZ (a : Int)) (iZ (b : Int)) (iZ ((k : Int) - 1)) p) = chY ((if b.testBit k then [some a] else []) ++ bitsL a b k) p
          by_cases t : b.testBit k = true
          · rw [if_pos (eb.mpr t), iZ_l (by omega) (by omega)]
            simp only [if_pos t]
            show _ = (f_X10_addTo (jZ (a : Int)) p).bind fun p2 => chY (bitsL a b k) p2
            cases c3 : f_X10_addTo (jZ (a : Int)) p with
            | none => rfl
            | some p2 =>
              have := ih n p2 (by omega) (by omega)
              rw [em] at this
              exact this
          · rw [if_neg (fun h => t (eb.mp h))]
            simp only [if_neg t]
            have := ih n p (by omega) (by omega)
            rw [em] at this
            exact this
      · have hz : b / 2 ^ k = 0 := by
          have : 2 ^ nb ≤ 2 ^ k := Nat.pow_le_pow_right (by omega) (by omega)
          exact Nat.div_eq_of_lt (by omega)
        rw [hz, if_pos (by rw [leI]; exact Int.le_refl _), ih n σ (by omega) (by omega)]
        congr 1
        have e1 : min k nb = nb := by omega
        have e2 : min (k + 1) nb = nb := by omega
        rw [e1, e2]

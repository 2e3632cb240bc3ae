/-! BITS -/
theorem and1 (y : Int32) : y &&& 1 = bZ (y.toBitVec.getLsbD 0 = true) := by
  apply Int32.toBitVec_inj.mp
  show y.toBitVec &&& 1#32 = _
  rw [BitVec.and_one_eq_setWidth_ofBool_getLsbD]
  unfold bZ
  by_cases h : y.toBitVec.getLsbD 0 = true
  · rw [if_pos h, h]; rfl
  · rw [if_neg h, Bool.not_eq_true _ |>.mp h]; rfl
theorem k31s : ∀ k : Fin 32, (iZ (k.1 : Int) &&& 31).toBitVec.smod 32 = BitVec.ofNat 32 k.1 := by decide
theorem k31u : ∀ k : Fin 32, ((iZ (k.1 : Int)).toUInt32 &&& Int32.toUInt32 31).toBitVec % 32 = BitVec.ofNat 32 k.1 := by decide
theorem shr_bit (x : Int32) {k : Nat} (h : k < 32) : (shrI x (iZ (k : Int))).toBitVec.getLsbD 0 = x.toBitVec.getLsbD k := by
  have e : (shrI x (iZ (k : Int))).toBitVec = x.toBitVec.sshiftRight k := by
    show BitVec.sshiftRight' x.toBitVec ((iZ (k : Int) &&& 31).toBitVec.smod 32) = _
    rw [k31s ⟨k, h⟩]
    show x.toBitVec.sshiftRight (BitVec.ofNat 32 k).toNat = _
    rw [BitVec.toNat_ofNat, Nat.mod_eq_of_lt (by omega)]
  rw [e, BitVec.getLsbD_sshiftRight]
  simp [h]
theorem ush_bit (x : Int32) {k : Nat} (h : k < 32) : (ushI x (iZ (k : Int))).toBitVec.getLsbD 0 = x.toBitVec.getLsbD k := by
  have e : (ushI x (iZ (k : Int))).toBitVec = x.toBitVec >>> k := by
    show x.toBitVec >>> (((iZ (k : Int)).toUInt32 &&& Int32.toUInt32 31).toBitVec % 32) = _
    rw [k31u ⟨k, h⟩]
    show x.toBitVec >>> (BitVec.ofNat 32 k).toNat = _
    rw [BitVec.toNat_ofNat, Nat.mod_eq_of_lt (by omega)]
  rw [e, BitVec.getLsbD_ushiftRight]
  simp
abbrev bitI (x : Int32) (k : Nat) : Prop := x.toBitVec.getLsbD k = true
theorem s_hasBit (x : Int32) (k : Nat) (h : k < 32) (σ : St) : f_X9_hasBit x (iZ (k : Int)) σ = some (bZ (bitI x k), σ) := by
  unfold f_X9_hasBit f_X9_hasBit_13
  rw [and1, ush_bit x h]
  simp only [bZ_0]
  by_cases q : bitI x k
  · rw [if_neg (not_not_intro q), bZ_t q]; rfl
  · rw [if_pos q, bZ_f q]; rfl
theorem s_has (x : Int32) (k : Nat) (h : k < 32) (σ : St) : f_X10_has x (iZ (k : Int)) σ = some (bZ (bitI x k), σ) := by
  unfold f_X10_has f_X10_has_14
  rw [and1, shr_bit x h]
  by_cases q : bitI x k
  · rw [bZ_t q, if_pos rfl]; rfl
  · rw [bZ_f q, if_neg (by decide)]; rfl
/-- the digit seen on a rope -/
def seenZ (w : Int32) (d : Int32) (k : Nat) : Int32 := d + (if bitI w k ∧ 0 < d.toInt then 1 else 0)
theorem s_seen7 (o k : Nat) (h : k < 12) (σ : St) : f_X7_seen o (iZ (k : Int)) σ = some (seenZ (gI σ o 4) (gI σ (o + 1) k) k, σ) := by
  unfold f_X7_seen f_X7_seen_30 f_X7_seen_31 seenZ
  rw [gd_t (iZb h (by omega)), s_hasBit _ k (by omega)]
  simp only [Option.bind_some, bZ_0, iZc (show k < 2147483648 by omega), gd_t (iZb h (by omega : 12 < 2147483648)), leI, t_0]
  by_cases q : bitI (gI σ o 4) k
  · rw [if_neg (not_not_intro q)]
    by_cases q2 : (gI σ (o + 1) k).toInt ≤ 0
    · rw [if_pos q2, if_neg (fun c => by omega)]
    · rw [if_neg q2, if_pos ⟨q, by omega⟩]
  · rw [if_pos q, if_neg (fun c => q c.1)]
theorem s_seen10 (k : Nat) (h : k < 12) (σ : St) : f_X10_seen (iZ (k : Int)) σ = some (seenZ (gI σ 38 19) (gI σ 46 k) k, σ) := by
  unfold f_X10_seen f_X10_seen_34 f_X10_seen_35 seenZ
  simp only [Int32.zero_add]
  rw [gd_t (iZb (by omega) (by omega)), s_has _ k (by omega)]
  simp only [Option.bind_some, bZ_0, iZc (show k < 2147483648 by omega), gd_t (iZb (by omega : k < 19) (by omega : 19 < 2147483648)), leI, t_0]
  by_cases q : bitI (gI σ 38 19) k
  · rw [if_neg (not_not_intro q)]
    by_cases q2 : (gI σ 46 k).toInt ≤ 0
    · rw [if_pos q2, if_neg (fun c => by omega)]
    · rw [if_neg q2, if_pos ⟨q, by omega⟩]
  · rw [if_pos q, if_neg (fun c => q c.1)]
theorem m_rope {σ : St} (r b : Int32) (h : Rrop σ) (d : Rdig σ) (g : Rgoat σ) : ∃ a, f_X9_rope r b σ = some (a, σ) ∧ f_X10_rope r b σ = some (a, σ) := by
  obtain ⟨h1, h2, h3⟩ := h
  obtain ⟨g1, g2, g3, g4, g5, g6⟩ := g
  unfold f_X9_rope f_X9_rope_80 f_X10_rope f_X10_rope_20 f_X10_rope_72
  rw [s_isRope9, s_isRope10 _ _ (by rw [h1]; omega)]
  simp only [Option.bind_some, bZ_0, s_in, t64, t_0, t_1, t_2, t_3, t_4, t_5, t_6, t_7, t_8, t_9, t_10, t_11, t_12, t_13, t_18, t_19, t_20, t_31, t_32, t_40, t_48, t_57, t_99, t_100, t_160, t_255, t_511, t_999, t_1000, t_9999, t_100000, t_999999999, t_2147483647, t_m1, t_m2, l_0, l_1, l_2, l_3, l_5, l_6, l_9, l_10, l_12, l_99, l_100, l_511, l_999, l_1000, l_9999, l_1000000, l_999999999, l_1000000000000, l_1000000000000000000, l_m1, h1, Int32.zero_add]
  by_cases q : 0 ≤ r.toInt ∧ r.toInt < (gI σ 1 0).toInt
  · have hk : r.toInt.toNat < 12 := by omega
    have er := iZof q.1
    have ec : r.toNatClampNeg = r.toInt.toNat := rfl
    have d1 := (d.1 _ hk).1
    rw [if_neg (not_not_intro q), if_neg (not_not_intro q), gd_t (inb_i q.1 (by omega)), gd_t (inb_i q.1 (by omega)), gd_t (inb_i q.1 (by omega)), gd_t (inb_i q.1 (by omega))]
    by_cases b0 : b = 0
    · subst b0
      rw [if_pos rfl, if_neg (by rw [t_0]; omega), if_pos rfl, ec, d1]
      exact ⟨_, rfl, rfl⟩
    · rw [if_neg b0]
      by_cases b1 : b = 1
      · subst b1
        rw [if_pos rfl, if_neg (by rw [t_1]; omega), if_neg b0, if_pos rfl, g1]
        exact ⟨_, rfl, rfl⟩
      · rw [if_neg b1]
        by_cases b2 : b = 2
        · subst b2
          rw [if_pos rfl, if_neg (by rw [t_2]; omega), if_neg b0, if_neg b1]
          unfold f_X7_isFoggy
          rw [er, s_hasBit _ _ (by omega), s_has _ _ (by omega), g4]
          simp only [Option.bind_some]
          by_cases f : bitI (gI σ 1 5) r.toInt.toNat
          · simp only [bZ_t f, gd_t isbb_1, Option.bind_some, if_neg (show ¬ (1 : Int32) = 0 by decide)]
            exact ⟨_, rfl, rfl⟩
          · simp only [bZ_f f, gd_t isbb_0, Option.bind_some, if_true, s_seen7 1 _ hk, s_seen10 _ hk, g3, d1]
            exact ⟨_, rfl, rfl⟩
        · rw [if_neg b2, if_pos (by simp only [eI, t_0, t_1, t_2, t_3, t_4, t_5, t_6, t_7, t_8, t_9, t_10, t_11, t_12, t_13, t_18, t_19, t_20, t_31, t_32, t_40, t_48, t_57, t_99, t_100, t_160, t_255, t_511, t_999, t_1000, t_9999, t_100000, t_999999999, t_2147483647, t_m1, t_m2, l_0, l_1, l_2, l_3, l_5, l_6, l_9, l_10, l_12, l_99, l_100, l_511, l_999, l_1000, l_9999, l_1000000, l_999999999, l_1000000000000, l_1000000000000000000, l_m1] at b0 b1 b2; omega)]
          exact ⟨_, rfl, rfl⟩
  · rw [if_pos q, if_pos q]
    exact ⟨_, rfl, rfl⟩

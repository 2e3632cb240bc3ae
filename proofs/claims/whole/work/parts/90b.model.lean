/-! THE MODEL'S VALLEY -/
theorem n_12 : (12 : Int32).toNatClampNeg = 12 := rfl
theorem n_13 : (13 : Int32).toNatClampNeg = 13 := rfl
theorem n_14 : (14 : Int32).toNatClampNeg = 14 := rfl
theorem n_15 : (15 : Int32).toNatClampNeg = 15 := rfl
theorem n_16 : (16 : Int32).toNatClampNeg = 16 := rfl
theorem n_17 : (17 : Int32).toNatClampNeg = 17 := rfl
theorem n_18 : (18 : Int32).toNatClampNeg = 18 := rfl
def okF (F : Nat → Int32) : Prop := ∀ j, j < 12 → rg (F j) 0 12
def okD (V : Vl) : Prop := ∀ j, j < 12 → rg (V.1 j) 0 9
def relM (R : Nat) (F : Nat → Int32) (p q a t : Int32) (σ : St) (V : Vl) : Prop := gI σ 38 1 = iZ (R : Int) ∧ gI σ 38 12 = p ∧ gI σ 38 13 = q ∧ (∀ j, j < 12 → gI σ 46 j = V.1 j ∧ gI σ 47 j = V.2.1 j) ∧ ((gI σ 38 22 = 0 ∧ ∀ j, j < 12 → gI σ 44 j = F j) ∨ (¬ gI σ 38 22 = 0 ∧ ∀ j, j < 12 → F j = 9)) ∧ gI σ 46 12 = V.2.2.1 ∧ gI σ 46 13 = V.2.2.2.1 ∧ gI σ 46 14 = t + V.2.2.1 * p + V.2.2.2.1 * q ∧ gI σ 46 15 = V.2.2.2.2.1 ∧ gI σ 46 16 = V.2.2.2.2.2.1 ∧ gI σ 46 17 = V.2.2.2.2.2.2 ∧ gI σ 46 18 = a
theorem mn1 (t W p C q a : Int32) : t + W * p + C * q + a * p = t + (W + a) * p + C * q := by
  rw [Int32.add_mul, ← Int32.add_assoc t, Int32.add_assoc (t + W * p), Int32.add_comm (C * q), ← Int32.add_assoc]
theorem mn2 (t W p C q : Int32) : t + W * p + C * q + q = t + W * p + (C + 1) * q := by
  rw [Int32.add_mul, Int32.one_mul, ← Int32.add_assoc]
theorem ok_stand {F : Nat → Int32} (hF : okF F) {V : Vl} (h : okD V) (k : Nat) (hk : k < 12) {v : Int32} (hv : rg v 0 9) : okD (standV F k v V) := by
  intro j hj
  show rg (upF V.1 k (mnI v (F k)) j) 0 9
  unfold upF
  by_cases e : j = k
  · rw [if_pos e]
    have := hF k hk
    unfold mnI rg at *
    split
    · rename_i c; rw [lI] at c; omega
    · omega
  · rw [if_neg e]; exact h j hj
theorem mn_le {v f : Int32} (hv : rg v 0 9) (hf : f = 9) : mnI v v = mnI v f := by
  unfold mnI rg at *
  rw [if_neg (by rw [lI]; omega)]
  rw [if_neg (by rw [lI, hf, t_9]; omega)]
theorem m_become {R : Nat} {F : Nat → Int32} {p q a t : Int32} {σ : St} {V : Vl} (h : relM R F p q a t σ V) (k : Nat) (hk : k < 12) (v : Int32) (hv : rg v 0 9) : ∃ σ', f_X10_become (iZ (k : Int)) v σ = some σ' ∧ relM R F p q a t σ' (standV F k v V) := by
  obtain ⟨h0, hp, hq, h1, hf, h2, h3, h4, h5, h6, h7, h8⟩ := h
  obtain ⟨a1, a2⟩ := h1 k hk
  unfold f_X10_become f_X10_become_16 f_X10_become_34 f_X10_become_38 f_X10_become_51 f_X10_become_66 f_X10_become_78 f_X10_become_95
  have hb := iZb hk (show 12 < 2147483648 by omega)
  have hb2 := iZb (show k < 19 by omega) (show 19 < 2147483648 by omega)
  simp only [Int32.zero_add, gd_t hb, gd_t hb2, iZc (show k < 2147483648 by omega), n_12, n_14, n_16]
  have key : ∀ y : Int32, mnI v y = mnI v (F k) → relM R F p q a t (sI (sI (sI (sI (sI σ 47 k (mxI (gI σ 47 k) v)) 46 16 (gI (sI σ 47 k (mxI (gI σ 47 k) v)) 46 16 + (v - mnI v y))) 46 12 (gI (sI (sI σ 47 k (mxI (gI σ 47 k) v)) 46 16 (gI (sI σ 47 k (mxI (gI σ 47 k) v)) 46 16 + (v - mnI v y))) 46 12 + abI (mnI v y - gI (sI (sI σ 47 k (mxI (gI σ 47 k) v)) 46 16 (gI (sI σ 47 k (mxI (gI σ 47 k) v)) 46 16 + (v - mnI v y))) 46 k))) 46 14 (gI (sI (sI (sI σ 47 k (mxI (gI σ 47 k) v)) 46 16 (gI (sI σ 47 k (mxI (gI σ 47 k) v)) 46 16 + (v - mnI v y))) 46 12 (gI (sI (sI σ 47 k (mxI (gI σ 47 k) v)) 46 16 (gI (sI σ 47 k (mxI (gI σ 47 k) v)) 46 16 + (v - mnI v y))) 46 12 + abI (mnI v y - gI (sI (sI σ 47 k (mxI (gI σ 47 k) v)) 46 16 (gI (sI σ 47 k (mxI (gI σ 47 k) v)) 46 16 + (v - mnI v y))) 46 k))) 46 14 + abI (mnI v y - gI (sI (sI σ 47 k (mxI (gI σ 47 k) v)) 46 16 (gI (sI σ 47 k (mxI (gI σ 47 k) v)) 46 16 + (v - mnI v y))) 46 k) * gI (sI (sI (sI σ 47 k (mxI (gI σ 47 k) v)) 46 16 (gI (sI σ 47 k (mxI (gI σ 47 k) v)) 46 16 + (v - mnI v y))) 46 12 (gI (sI (sI σ 47 k (mxI (gI σ 47 k) v)) 46 16 (gI (sI σ 47 k (mxI (gI σ 47 k) v)) 46 16 + (v - mnI v y))) 46 12 + abI (mnI v y - gI (sI (sI σ 47 k (mxI (gI σ 47 k) v)) 46 16 (gI (sI σ 47 k (mxI (gI σ 47 k) v)) 46 16 + (v - mnI v y))) 46 k))) 38 12)) 46 k (mnI v y)) (standV F k v V) := by
    intro y hy
    rw [hy]
    have k12 : ¬ 12 = k := by omega
    have k13 : ¬ 13 = k := by omega
    have k14 : ¬ 14 = k := by omega
    have k15 : ¬ 15 = k := by omega
    have k16 : ¬ 16 = k := by omega
    have k17 : ¬ 17 = k := by omega
    have k18 : ¬ 18 = k := by omega
    have c12 : ¬ k = 12 := by omega
    have c14 : ¬ k = 14 := by omega
    have c16 : ¬ k = 16 := by omega
    refine ⟨?_, ?_, ?_, ?_, ?_, ?_, ?_, ?_, ?_, ?_, ?_, ?_⟩
    · simp [gI_sI, gI_sJ, gI_sR, gJ_sI, gJ_sJ, gJ_sR, gR_sI, gR_sJ, gR_sR, h0]
    · simp [gI_sI, gI_sJ, gI_sR, gJ_sI, gJ_sJ, gJ_sR, gR_sI, gR_sJ, gR_sR, hp]
    · simp [gI_sI, gI_sJ, gI_sR, gJ_sI, gJ_sJ, gJ_sR, gR_sI, gR_sJ, gR_sR, hq]
    · intro j hj
      obtain ⟨b1, b2⟩ := h1 j hj
      have j12 : ¬ j = 12 := by omega
      have j14 : ¬ j = 14 := by omega
      have j16 : ¬ j = 16 := by omega
      by_cases e : j = k
      · subst e
        simp [gI_sI, gI_sJ, gI_sR, gJ_sI, gJ_sJ, gJ_sR, gR_sI, gR_sJ, gR_sR, standV, upF, a1, a2]
      · simp [gI_sI, gI_sJ, gI_sR, gJ_sI, gJ_sJ, gJ_sR, gR_sI, gR_sJ, gR_sR, standV, upF, b1, b2, e, j12, j14, j16]
    · simpa [gI_sI, gI_sJ, gI_sR, gJ_sI, gJ_sJ, gJ_sR, gR_sI, gR_sJ, gR_sR] using hf
    · simp [gI_sI, gI_sJ, gI_sR, gJ_sI, gJ_sJ, gJ_sR, gR_sI, gR_sJ, gR_sR, standV, a1, h2, k12, c16]
    · simp [gI_sI, gI_sJ, gI_sR, gJ_sI, gJ_sJ, gJ_sR, gR_sI, gR_sJ, gR_sR, standV, h3, k13]
    · simp [gI_sI, gI_sJ, gI_sR, gJ_sI, gJ_sJ, gJ_sR, gR_sI, gR_sJ, gR_sR, standV, a1, h4, hp, k14, c16, mn1]
    · simp [gI_sI, gI_sJ, gI_sR, gJ_sI, gJ_sJ, gJ_sR, gR_sI, gR_sJ, gR_sR, standV, h5, k15]
    · simp [gI_sI, gI_sJ, gI_sR, gJ_sI, gJ_sJ, gJ_sR, gR_sI, gR_sJ, gR_sR, standV, h6, k16]
    · simp [gI_sI, gI_sJ, gI_sR, gJ_sI, gJ_sJ, gJ_sR, gR_sI, gR_sJ, gR_sR, standV, h7, k17]
    · simp [gI_sI, gI_sJ, gI_sR, gJ_sI, gJ_sJ, gJ_sR, gR_sI, gR_sJ, gR_sR, h8, k18]
  rcases hf with ⟨e0, hf⟩ | ⟨e0, hf⟩
  · have e1 : gI (sI σ 47 k (mxI (gI σ 47 k) v)) 38 22 = 0 := by rw [g_sI_c (by omega)]; exact e0
    rw [if_pos e1]
    refine ⟨_, rfl, ?_⟩
    apply key
    rw [g_sI_c (by omega), hf k hk]
  · have e1 : ¬ gI (sI σ 47 k (mxI (gI σ 47 k) v)) 38 22 = 0 := by rw [g_sI_c (by omega)]; exact e0
    rw [if_neg e1]
    refine ⟨_, rfl, ?_⟩
    apply key
    exact mn_le hv (hf k hk)
theorem relM.ov {R : Nat} {F : Nat → Int32} {p q a t : Int32} {σ : St} {V : Vl} (h : relM R F p q a t σ V) : relM R F p q a t (sI σ 46 15 (gI σ 46 15 + 1)) (ovV V) := by
  obtain ⟨h0, hp, hq, h1, hf, h2, h3, h4, h5, h6, h7, h8⟩ := h
  refine ⟨?_, ?_, ?_, ?_, ?_, ?_, ?_, ?_, ?_, ?_, ?_, ?_⟩
  · simp [gI_sI, gI_sJ, gI_sR, gJ_sI, gJ_sJ, gJ_sR, gR_sI, gR_sJ, gR_sR, h0]
  · simp [gI_sI, gI_sJ, gI_sR, gJ_sI, gJ_sJ, gJ_sR, gR_sI, gR_sJ, gR_sR, hp]
  · simp [gI_sI, gI_sJ, gI_sR, gJ_sI, gJ_sJ, gJ_sR, gR_sI, gR_sJ, gR_sR, hq]
  · intro j hj
    obtain ⟨b1, b2⟩ := h1 j hj
    have j15 : ¬ j = 15 := by omega
    simp [gI_sI, gI_sJ, gI_sR, gJ_sI, gJ_sJ, gJ_sR, gR_sI, gR_sJ, gR_sR, ovV, b1, b2, j15]
  · simpa [gI_sI, gI_sJ, gI_sR, gJ_sI, gJ_sJ, gJ_sR, gR_sI, gR_sJ, gR_sR] using hf
  · simp [gI_sI, gI_sJ, gI_sR, gJ_sI, gJ_sJ, gJ_sR, gR_sI, gR_sJ, gR_sR, ovV, h2]
  · simp [gI_sI, gI_sJ, gI_sR, gJ_sI, gJ_sJ, gJ_sR, gR_sI, gR_sJ, gR_sR, ovV, h3]
  · simp [gI_sI, gI_sJ, gI_sR, gJ_sI, gJ_sJ, gJ_sR, gR_sI, gR_sJ, gR_sR, ovV, h4]
  · simp [gI_sI, gI_sJ, gI_sR, gJ_sI, gJ_sJ, gJ_sR, gR_sI, gR_sJ, gR_sR, ovV, h5]
  · simp [gI_sI, gI_sJ, gI_sR, gJ_sI, gJ_sJ, gJ_sR, gR_sI, gR_sJ, gR_sR, ovV, h6]
  · simp [gI_sI, gI_sJ, gI_sR, gJ_sI, gJ_sJ, gJ_sR, gR_sI, gR_sJ, gR_sR, ovV, h7]
  · simp [gI_sI, gI_sJ, gI_sR, gJ_sI, gJ_sJ, gJ_sR, gR_sI, gR_sJ, gR_sR, h8]
theorem relM.nc {R : Nat} {F : Nat → Int32} {p q a t : Int32} {σ : St} {V : Vl} (h : relM R F p q a t σ V) : relM R F p q a t (sI (sI σ 46 13 (gI σ 46 13 + 0)) 46 14 (gI (sI σ 46 13 (gI σ 46 13 + 0)) 46 14 + 0)) V := by
  obtain ⟨h0, hp, hq, h1, hf, h2, h3, h4, h5, h6, h7, h8⟩ := h
  refine ⟨?_, ?_, ?_, ?_, ?_, ?_, ?_, ?_, ?_, ?_, ?_, ?_⟩
  · simp [gI_sI, gI_sJ, gI_sR, gJ_sI, gJ_sJ, gJ_sR, gR_sI, gR_sJ, gR_sR, h0]
  · simp [gI_sI, gI_sJ, gI_sR, gJ_sI, gJ_sJ, gJ_sR, gR_sI, gR_sJ, gR_sR, hp]
  · simp [gI_sI, gI_sJ, gI_sR, gJ_sI, gJ_sJ, gJ_sR, gR_sI, gR_sJ, gR_sR, hq]
  · intro j hj
    obtain ⟨b1, b2⟩ := h1 j hj
    have j13 : ¬ j = 13 := by omega
    have j14 : ¬ j = 14 := by omega
    simp [gI_sI, gI_sJ, gI_sR, gJ_sI, gJ_sJ, gJ_sR, gR_sI, gR_sJ, gR_sR, b1, b2, j13, j14]
  · simpa [gI_sI, gI_sJ, gI_sR, gJ_sI, gJ_sJ, gJ_sR, gR_sI, gR_sJ, gR_sR] using hf
  · simp [gI_sI, gI_sJ, gI_sR, gJ_sI, gJ_sJ, gJ_sR, gR_sI, gR_sJ, gR_sR, h2]
  · simp [gI_sI, gI_sJ, gI_sR, gJ_sI, gJ_sJ, gJ_sR, gR_sI, gR_sJ, gR_sR, h3]
  · simp [gI_sI, gI_sJ, gI_sR, gJ_sI, gJ_sJ, gJ_sR, gR_sI, gR_sJ, gR_sR, h4]
  · simp [gI_sI, gI_sJ, gI_sR, gJ_sI, gJ_sJ, gJ_sR, gR_sI, gR_sJ, gR_sR, h5]
  · simp [gI_sI, gI_sJ, gI_sR, gJ_sI, gJ_sJ, gJ_sR, gR_sI, gR_sJ, gR_sR, h6]
  · simp [gI_sI, gI_sJ, gI_sR, gJ_sI, gJ_sJ, gJ_sR, gR_sI, gR_sJ, gR_sR, h7]
  · simp [gI_sI, gI_sJ, gI_sR, gJ_sI, gJ_sJ, gJ_sR, gR_sI, gR_sJ, gR_sR, h8]
theorem relM.ca {R : Nat} {F : Nat → Int32} {p q a t : Int32} {σ : St} {V : Vl} (h : relM R F p q a t σ V) : relM R F p q a t (sI (sI σ 46 13 (gI σ 46 13 + 1)) 46 14 (gI (sI σ 46 13 (gI σ 46 13 + 1)) 46 14 + gI (sI σ 46 13 (gI σ 46 13 + 1)) 38 13)) (caV V) := by
  obtain ⟨h0, hp, hq, h1, hf, h2, h3, h4, h5, h6, h7, h8⟩ := h
  refine ⟨?_, ?_, ?_, ?_, ?_, ?_, ?_, ?_, ?_, ?_, ?_, ?_⟩
  · simp [gI_sI, gI_sJ, gI_sR, gJ_sI, gJ_sJ, gJ_sR, gR_sI, gR_sJ, gR_sR, h0]
  · simp [gI_sI, gI_sJ, gI_sR, gJ_sI, gJ_sJ, gJ_sR, gR_sI, gR_sJ, gR_sR, hp]
  · simp [gI_sI, gI_sJ, gI_sR, gJ_sI, gJ_sJ, gJ_sR, gR_sI, gR_sJ, gR_sR, hq]
  · intro j hj
    obtain ⟨b1, b2⟩ := h1 j hj
    have j13 : ¬ j = 13 := by omega
    have j14 : ¬ j = 14 := by omega
    simp [gI_sI, gI_sJ, gI_sR, gJ_sI, gJ_sJ, gJ_sR, gR_sI, gR_sJ, gR_sR, caV, b1, b2, j13, j14]
  · simpa [gI_sI, gI_sJ, gI_sR, gJ_sI, gJ_sJ, gJ_sR, gR_sI, gR_sJ, gR_sR] using hf
  · simp [gI_sI, gI_sJ, gI_sR, gJ_sI, gJ_sJ, gJ_sR, gR_sI, gR_sJ, gR_sR, caV, h2]
  · simp [gI_sI, gI_sJ, gI_sR, gJ_sI, gJ_sJ, gJ_sR, gR_sI, gR_sJ, gR_sR, caV, h3]
  · simp [gI_sI, gI_sJ, gI_sR, gJ_sI, gJ_sJ, gJ_sR, gR_sI, gR_sJ, gR_sR, caV, h4, hq, mn2]
  · simp [gI_sI, gI_sJ, gI_sR, gJ_sI, gJ_sJ, gJ_sR, gR_sI, gR_sJ, gR_sR, caV, h5]
  · simp [gI_sI, gI_sJ, gI_sR, gJ_sI, gJ_sJ, gJ_sR, gR_sI, gR_sJ, gR_sR, caV, h6]
  · simp [gI_sI, gI_sJ, gI_sR, gJ_sI, gJ_sJ, gJ_sR, gR_sI, gR_sJ, gR_sR, caV, h7]
  · simp [gI_sI, gI_sJ, gI_sR, gJ_sI, gJ_sJ, gJ_sR, gR_sI, gR_sJ, gR_sR, h8]
theorem relM.dn {R : Nat} {F : Nat → Int32} {p q a t : Int32} {σ : St} {V : Vl} (h : relM R F p q a t σ V) (x : Int32) : relM R F p q (a + 1) t (sI (sI σ 46 17 x) 46 18 (gI (sI σ 46 17 x) 46 18 + 1)) (lfV x V) := by
  obtain ⟨h0, hp, hq, h1, hf, h2, h3, h4, h5, h6, h7, h8⟩ := h
  refine ⟨?_, ?_, ?_, ?_, ?_, ?_, ?_, ?_, ?_, ?_, ?_, ?_⟩
  · simp [gI_sI, gI_sJ, gI_sR, gJ_sI, gJ_sJ, gJ_sR, gR_sI, gR_sJ, gR_sR, h0]
  · simp [gI_sI, gI_sJ, gI_sR, gJ_sI, gJ_sJ, gJ_sR, gR_sI, gR_sJ, gR_sR, hp]
  · simp [gI_sI, gI_sJ, gI_sR, gJ_sI, gJ_sJ, gJ_sR, gR_sI, gR_sJ, gR_sR, hq]
  · intro j hj
    obtain ⟨b1, b2⟩ := h1 j hj
    have j13 : ¬ j = 17 := by omega
    have j14 : ¬ j = 18 := by omega
    simp [gI_sI, gI_sJ, gI_sR, gJ_sI, gJ_sJ, gJ_sR, gR_sI, gR_sJ, gR_sR, lfV, b1, b2, j13, j14]
  · simpa [gI_sI, gI_sJ, gI_sR, gJ_sI, gJ_sJ, gJ_sR, gR_sI, gR_sJ, gR_sR] using hf
  · simp [gI_sI, gI_sJ, gI_sR, gJ_sI, gJ_sJ, gJ_sR, gR_sI, gR_sJ, gR_sR, lfV, h2]
  · simp [gI_sI, gI_sJ, gI_sR, gJ_sI, gJ_sJ, gJ_sR, gR_sI, gR_sJ, gR_sR, lfV, h3]
  · simp [gI_sI, gI_sJ, gI_sR, gJ_sI, gJ_sJ, gJ_sR, gR_sI, gR_sJ, gR_sR, lfV, h4]
  · simp [gI_sI, gI_sJ, gI_sR, gJ_sI, gJ_sJ, gJ_sR, gR_sI, gR_sJ, gR_sR, lfV, h5]
  · simp [gI_sI, gI_sJ, gI_sR, gJ_sI, gJ_sJ, gJ_sR, gR_sI, gR_sJ, gR_sR, lfV, h6]
  · simp [gI_sI, gI_sJ, gI_sR, gJ_sI, gJ_sJ, gJ_sR, gR_sI, gR_sJ, gR_sR, lfV]
  · simp [gI_sI, gI_sJ, gI_sR, gJ_sI, gJ_sJ, gJ_sR, gR_sI, gR_sJ, gR_sR, h8]
theorem lf_self (V : Vl) : lfV V.2.2.2.2.2.2 V = V := rfl
/-- signs -/
theorem sg1 (x : Int32) : (1 : Int32) * x = x := Int32.one_mul x
theorem sgm (x : Int32) : (-1 : Int32) * x = -x := by
  rw [← iZ_self x]
  have h : (-1 : Int32) = iZ (-1) := rfl
  rw [h, iZ_mul, iZ_neg]; congr 1; omega
theorem tneg {x : Int32} (h : -2147483648 < x.toInt) : (-x).toInt = - x.toInt := by
  have h2 := i_hi x
  have e : -x = iZ (- x.toInt) := by rw [← iZ_neg, iZ_self]
  rw [e, iZ_toInt (by omega) (by omega)]
theorem m_drive_end (n : Nat) (x3 x4 x6 : Int32) (σ : St) : f_X10_drive_9 (n + 1) x3 x4 0 x6 σ = some σ := by
  rw [f_X10_drive_9, if_pos rfl]
theorem m_drive_go {R : Nat} {F : Nat → Int32} {p q a t : Int32} (hR : R ≤ 12) (hF : okF F) (x3 : Int32) (hs : x3 = 1 ∨ x3 = -1) : ∀ m n r : Nat, ∀ x4 : Int32, ∀ σ : St, ∀ V : Vl, r + m = R → m + 1 < n → rg x4 0 9 → okD V → relM R F p q a t σ V → ∃ σ', f_X10_drive_9 n x3 x4 1 (iZ (r : Int)) σ = some σ' ∧ relM R F p q a t σ' (driveV F m r (x3 * x4) V) ∧ okD (driveV F m r (x3 * x4) V) := by
  intro m
  induction m with
  | zero =>
    intro n r x4 σ V e hn hx ok h
    cases n with
    | zero => omega
    | succ n =>
      have hr : r = R := by omega
      subst hr
      rw [f_X10_drive_9, if_neg (by decide), if_pos (by rw [h.1])]
      exact ⟨_, rfl, h.ov, ok⟩
  | succ m ih =>
    intro n r x4 σ V e hn hx ok h
    cases n with
    | zero => omega
    | succ n =>
      cases n with
      | zero => omega
      | succ n =>
      rw [f_X10_drive_9, if_neg (by decide), if_neg (by rw [h.1, eI, iZt (by omega), iZt (by omega)]; omega), Int32.zero_add, gd_t (iZb (show r < 19 by omega) (by omega)), iZc (show r < 2147483648 by omega), (h.2.2.2.1 r (by omega)).1]
      have od := ok r (by omega)
      have b13 : inb (13 : Int32) 19 = true := rfl
      have b14 : inb (14 : Int32) 19 = true := rfl
      unfold f_X10_drive_51 f_X10_drive_63 f_X10_drive_68 f_X10_drive_103 f_X10_drive_124 f_X10_drive_147
      simp only [gd_t b13, gd_t b14, n_13, n_14]
      show ∃ σ', _ ∧ relM R F p q a t σ' (if 0 ≤ (V.1 r + x3 * x4).toInt ∧ (V.1 r + x3 * x4).toInt ≤ 9 then standV F r (V.1 r + x3 * x4) V else driveV F m (r + 1) (if (0 : Int32) ≤ x3 * x4 then 1 else -1) (caV (standV F r (if (0 : Int32) ≤ x3 * x4 then V.1 r + x3 * x4 - 10 else V.1 r + x3 * x4 + 10) V))) ∧ okD (if 0 ≤ (V.1 r + x3 * x4).toInt ∧ (V.1 r + x3 * x4).toInt ≤ 9 then standV F r (V.1 r + x3 * x4) V else driveV F m (r + 1) (if (0 : Int32) ≤ x3 * x4 then 1 else -1) (caV (standV F r (if (0 : Int32) ≤ x3 * x4 then V.1 r + x3 * x4 - 10 else V.1 r + x3 * x4 + 10) V)))
      have hy : ((x3 * x4).toInt = x4.toInt ∧ x3 = 1) ∨ ((x3 * x4).toInt = - x4.toInt ∧ x3 = -1) := by
        unfold rg at hx
        rcases hs with e1 | e1
        · left; rw [e1, sg1]; exact ⟨rfl, rfl⟩
        · right; rw [e1, sgm, tneg (by omega)]; exact ⟨rfl, rfl⟩
      have hn0 : (V.1 r + x3 * x4).toInt = (V.1 r).toInt + (x3 * x4).toInt := by
        unfold rg at hx od
        rcases hy with ⟨e1, _⟩ | ⟨e1, _⟩
        · exact tadd (by omega) (by omega)
        · exact tadd (by omega) (by omega)
      generalize ey : x3 * x4 = y at hy hn0 ⊢
      generalize en : V.1 r + y = w at hn0 ⊢
      unfold rg at hx od
      by_cases c : 0 ≤ w.toInt ∧ w.toInt ≤ 9
      · simp only [if_pos c]
        rw [if_neg (by rw [lI, t_9]; omega), if_pos (by rw [leI, t_0]; omega), if_pos (by rw [leI, t_9]; omega), if_pos (by rw [leI, t_0]; omega)]
        obtain ⟨σ', e1, h1⟩ := m_become h r (by omega) w c
        simp only [e1, Option.bind_some, if_true, m_drive_end]
        exact ⟨_, rfl, h1.nc, ok_stand hF ok r (by omega) c⟩
      · simp only [if_neg c]
        rcases hy with ⟨e1, e2⟩ | ⟨e1, e2⟩
        · rw [if_pos (by rw [lI, t_9]; omega), if_neg (by rw [leI, t_9]; omega)]
          have y0 : (0 : Int32) ≤ y := by rw [leI, t_0]; omega
          have hv : rg (w - 10) 0 9 := by
            unfold rg
            rw [tsub (by rw [t_10]; omega) (by rw [t_10]; omega), t_10]; omega
          obtain ⟨σ', e3, h1⟩ := m_become h r (by omega) (w - 10) hv
          simp only [e3, Option.bind_some, ne_10, if_false, iZs, if_pos y0]
          have := ih (n + 1) (r + 1) 1 _ _ (by omega) (by omega) (by unfold rg; rw [t_1]; omega) (show okD (caV (standV F r (w - 10) V)) from ok_stand hF ok r (by omega) hv) h1.ca
          rw [e2, sg1] at this
          rw [e2]
          exact this
        · rw [if_neg (by rw [lI, t_9]; omega), if_neg (by rw [leI, t_0]; omega), if_pos (by rw [leI, t_9]; omega), if_neg (by rw [leI, t_0]; omega)]
          have y0 : ¬ (0 : Int32) ≤ y := by rw [leI, t_0]; omega
          have hv : rg (w + 10) 0 9 := by
            unfold rg
            rw [tadd (by rw [t_10]; omega) (by rw [t_10]; omega), t_10]; omega
          obtain ⟨σ', e3, h1⟩ := m_become h r (by omega) (w + 10) hv
          simp only [e3, Option.bind_some, ne_10, if_false, iZs, if_neg y0]
          have := ih (n + 1) (r + 1) 1 _ _ (by omega) (by omega) (by unfold rg; rw [t_1]; omega) (show okD (caV (standV F r (w + 10) V)) from ok_stand hF ok r (by omega) hv) h1.ca
          rw [e2, sgm] at this
          rw [e2]
          exact this
theorem m_drive {R : Nat} {F : Nat → Int32} {p q a t : Int32} {σ : St} {V : Vl} (hR : R ≤ 12) (hF : okF F) (ok : okD V) (h : relM R F p q a t σ V) (r : Nat) (hr : r ≤ R) (x : Int32) (hx : rg x 0 9) (s : Int32) (hs : s = 1 ∨ s = -1) : ∃ σ', f_X10_drive (iZ (r : Int)) x s σ = some σ' ∧ relM R F p q a t σ' (driveV F (R - r) r (s * x) V) ∧ okD (driveV F (R - r) r (s * x) V) :=
  m_drive_go hR hF s hs (R - r) FU r x σ V (by omega) (by unfold FU; omega) hx ok h

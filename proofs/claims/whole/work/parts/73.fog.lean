/-! FOG -/
def bcA (x : Int32) : Int32 := x - ((ushI x 1) &&& 1431655765)
def bcB (x : Int32) : Int32 := (x &&& 858993459) + ((ushI x 2) &&& 858993459)
def bcC (x : Int32) : Int32 := (x + (ushI x 4)) &&& 252645135
def bcD (x : Int32) : Int32 := x + (ushI x 8)
def bcE (x : Int32) : Int32 := (x + (ushI x 16)) &&& 63
def bcI (x : Int32) : Int32 := bcE (bcD (bcC (bcB (bcA x))))
theorem s_bitCount (x : Int32) (σ : St) : f_J6_bitCount_0f7a4 x σ = some (bcI x, σ) := rfl
theorem bc_tab : ((List.range 64).all fun a => (List.range 64).all fun b => (bcI (nI (64 * a + b))).toInt == (popc (64 * a + b) 12 : Int)) = true := by decide +kernel
theorem bc_popc {w : Nat} (h : w < 4096) : (bcI (nI w)).toInt = popc w 12 := by
  have h1 := List.all_eq_true.mp bc_tab (w / 64) (List.mem_range.mpr (by omega))
  have h2 := List.all_eq_true.mp h1 (w % 64) (List.mem_range.mpr (by omega))
  rw [beq_iff_eq] at h2
  have e : 64 * (w / 64) + w % 64 = w := by omega
  rw [e] at h2
  exact h2
theorem nI_and (a b : Nat) : nI a &&& nI b = nI (a &&& b) := by
  apply Int32.toBitVec_inj.mp
  show BitVec.ofNat 32 a &&& BitVec.ofNat 32 b = BitVec.ofNat 32 (a &&& b)
  apply BitVec.eq_of_toNat_eq
  rw [BitVec.toNat_and, BitVec.toNat_ofNat, BitVec.toNat_ofNat, BitVec.toNat_ofNat, Nat.and_mod_two_pow]
theorem nI_or (a b : Nat) : nI a ||| nI b = nI (a ||| b) := by
  apply Int32.toBitVec_inj.mp
  show BitVec.ofNat 32 a ||| BitVec.ofNat 32 b = BitVec.ofNat 32 (a ||| b)
  apply BitVec.eq_of_toNat_eq
  rw [BitVec.toNat_or, BitVec.toNat_ofNat, BitVec.toNat_ofNat, BitVec.toNat_ofNat, Nat.or_mod_two_pow]
theorem sh_tab : ∀ r : Fin 12, shlI 1 (iZ (r.1 : Int)) = nI (2 ^ r.1) ∧ (shlI 1 (iZ (r.1 : Int)) ^^^ (-1)) = nI (4294967295 - 2 ^ r.1) := by decide +kernel
theorem bit_tab : ∀ r i : Fin 12, (4294967295 - 2 ^ r.1).testBit i.1 = decide (i.1 ≠ r.1) := by decide +kernel
theorem popc_le {a b : Nat} : ∀ n : Nat, (∀ i, i < n → a.testBit i = true → b.testBit i = true) → popc a n ≤ popc b n
  | 0, _ => Nat.le_refl _
  | n + 1, h => by
    have h1 := popc_le n (fun i hi => h i (by omega))
    have h2 := h n (by omega)
    show popc a n + (if a.testBit n then 1 else 0) ≤ popc b n + (if b.testBit n then 1 else 0)
    by_cases q : a.testBit n = true
    · rw [if_pos q, if_pos (h2 q)]; omega
    · rw [if_neg q]; omega
theorem popc_set {a b r : Nat} : ∀ n : Nat, (∀ i, i < n → i ≠ r → b.testBit i = a.testBit i) → popc b n ≤ popc a n + 1
  | 0, _ => Nat.zero_le _
  | n + 1, h => by
    show popc b n + (if b.testBit n then 1 else 0) ≤ popc a n + (if a.testBit n then 1 else 0) + 1
    by_cases q : n = r
    · have h1 := popc_le n (fun i hi hb => by rw [← h i (by omega) (by omega)]; exact hb : ∀ i, i < n → b.testBit i = true → a.testBit i = true)
      have h2 : (if b.testBit n then 1 else 0) ≤ 1 := by split <;> omega
      omega
    · have h1 := popc_set n (fun i hi hr => h i (by omega) hr)
      rw [h n (by omega) q]; omega
theorem m_fog {σ : St} (x b : Int32) (h : Rrop σ) (g : Rgoat σ) : ∃ a σ1 σ2, f_X9_fog x b σ = some (a, σ1) ∧ f_X10_fog x b σ1 = some (a, σ2) ∧ Rgoat σ2 := by
  obtain ⟨h1, h2, h3⟩ := h
  have g0 := g
  obtain ⟨g1, g2, g3, g4, g5, w, g6, g7, g8⟩ := g
  have no : ∀ τ : St, (gI τ 38 1).toInt = (gI σ 1 0).toInt → gI τ 38 20 = gI σ 1 5 → f_X10_fog x b τ = if ¬ (0 ≤ x.toInt ∧ x.toInt < (gI σ 1 0).toInt) then some (0, τ) else if b = 0 then some (1, sI τ 38 20 (gI σ 1 5 &&& ((shlI 1 x) ^^^ (-1)))) else if bcI (gI σ 1 5 &&& ((shlI 1 x) ^^^ (-1))) = 5 then some (0, τ) else some (1, sI τ 38 20 (gI σ 1 5 ||| (shlI 1 x))) := by
    intro τ e1 e2
    unfold f_X10_fog f_X10_fog_29 f_X10_fog_31 f_X10_fog_57
    rw [s_isRope10 _ _ (by rw [e1]; omega)]
    simp only [Option.bind_some, bZ_0, e1, e2, s_bitCount]
    by_cases hb : b = 0
    · simp only [if_pos hb]
    · simp only [if_neg hb]
  have kept : ∀ v : Int32, (∃ w' : Nat, v = nI w' ∧ w' < 2 ^ (gI σ 1 0).toInt.toNat ∧ popc w' 12 ≤ 5) → Rgoat (sI (sI σ 1 5 v) 38 20 v) := by
    intro v hv
    refine ⟨?_, ?_, ?_, ?_, ?_, ?_⟩
    · rw [g_sI_c (by omega), g_sI_c (by omega), g_sI_c (by omega), g_sI_c (by omega)]; exact g1
    · rw [g_sI_c (by omega), g_sI_c (by omega)]; exact g2
    · rw [g_sI_ne (by omega), g_sI_ne (by omega), g_sI_ne (by omega), g_sI_ne (by omega)]; exact g3
    · rw [g_sI_eq, g_sI_ne (by omega), g_sI_eq]
    · exact g5
    · have e1 : gI (sI (sI σ 1 5 v) 38 20 v) 1 5 = v := by rw [g_sI_ne (by omega), g_sI_eq]
      have e2 : gI (sI (sI σ 1 5 v) 38 20 v) 1 0 = gI σ 1 0 := by rw [g_sI_ne (by omega), g_sI_ne (by omega)]
      rw [e1, e2]; exact hv
  unfold f_X9_fog f_X9_fog_35
  simp only [s_isRope9, Option.bind_some, bZ_0, s_withBit, s_bitCount]
  by_cases q : 0 ≤ x.toInt ∧ x.toInt < (gI σ 1 0).toInt
  · rw [if_neg (not_not_intro q)]
    have ex := iZof q.1
    have lr : x.toInt.toNat < 12 := by omega
    have lR : x.toInt.toNat < (gI σ 1 0).toInt.toNat := by omega
    obtain ⟨t1, t2⟩ := sh_tab ⟨x.toInt.toNat, lr⟩
    simp only [← ex] at t1 t2
    have b1 := fun i hi => bit_tab ⟨x.toInt.toNat, lr⟩ ⟨i, hi⟩
    simp only at b1
    have w4 : w < 4096 := by
      have : 2 ^ (gI σ 1 0).toInt.toNat ≤ 2 ^ 12 := Nat.pow_le_pow_right (by omega) (by omega)
      omega
    have o1 : gI σ 1 5 &&& ((shlI 1 x) ^^^ (-1)) = nI (w &&& (4294967295 - 2 ^ x.toInt.toNat)) := by rw [g6, t2, nI_and]
    have o2 : gI σ 1 5 ||| (shlI 1 x) = nI (w ||| 2 ^ x.toInt.toNat) := by rw [g6, t1, nI_or]
    have p1 : w &&& (4294967295 - 2 ^ x.toInt.toNat) ≤ w := Nat.and_le_left
    have p2 : popc (w &&& (4294967295 - 2 ^ x.toInt.toNat)) 12 ≤ popc w 12 := popc_le 12 (fun i hi hb => by
      rw [Nat.testBit_and, Bool.and_eq_true] at hb; exact hb.1)
    have k1 : ∃ w' : Nat, gI σ 1 5 &&& ((shlI 1 x) ^^^ (-1)) = nI w' ∧ w' < 2 ^ (gI σ 1 0).toInt.toNat ∧ popc w' 12 ≤ 5 := ⟨_, o1, by omega, by omega⟩
    by_cases hb : b = 0
    · simp only [if_pos hb]
      refine ⟨_, _, sI (sI σ 1 5 (gI σ 1 5 &&& ((shlI 1 x) ^^^ (-1)))) 38 20 (gI σ 1 5 &&& ((shlI 1 x) ^^^ (-1))), rfl, ?_, kept _ k1⟩
      rw [no _ (by rw [g_sI_ne (by omega), h1]) (by rw [g_sI_ne (by omega), g4]), if_neg (not_not_intro q), if_pos hb]
    · simp only [if_neg hb, if_true]
      have bc := bc_popc (w := w &&& (4294967295 - 2 ^ x.toInt.toNat)) (by omega)
      by_cases q5 : popc (w &&& (4294967295 - 2 ^ x.toInt.toNat)) 12 < 5
      · rw [if_pos (by rw [lI, o1, bc, t_5]; omega)]
        refine ⟨_, _, sI (sI σ 1 5 (gI σ 1 5 ||| (shlI 1 x))) 38 20 (gI σ 1 5 ||| (shlI 1 x)), rfl, ?_, kept _ ⟨_, o2, ?_, ?_⟩⟩
        · rw [no _ (by rw [g_sI_ne (by omega), h1]) (by rw [g_sI_ne (by omega), g4]), if_neg (not_not_intro q), if_neg hb, if_neg (by rw [eI, o1, bc, t_5]; omega)]
        · exact Nat.or_lt_two_pow g7 (Nat.pow_lt_pow_right (by omega) lR)
        · have := popc_set (a := w &&& (4294967295 - 2 ^ x.toInt.toNat)) (b := w ||| 2 ^ x.toInt.toNat) (r := x.toInt.toNat) 12 (fun i hi hr => by
            rw [Nat.testBit_or, Nat.testBit_and, Nat.testBit_two_pow, b1 i hi]
            rw [decide_eq_false (Ne.symm hr), decide_eq_true hr, Bool.or_false, Bool.and_true])
          omega
      · rw [if_neg (by rw [lI, o1, bc, t_5]; omega)]
        refine ⟨_, _, σ, rfl, ?_, g0⟩
        rw [no σ (by rw [h1]) g4, if_neg (not_not_intro q), if_neg hb, if_pos (by rw [eI, o1, bc, t_5]; omega)]
  · rw [if_pos q]
    refine ⟨_, _, σ, rfl, ?_, g0⟩
    rw [no σ (by rw [h1]) g4, if_pos q]

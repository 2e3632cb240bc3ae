/-! PRODUCT, RIVAL -/
def sumO : List (Option Nat) → Nat
  | [] => 0
  | none :: L => sumO L
  | some n :: L => n + sumO L
def allS (L : List (Option Nat)) : Prop := ∀ x ∈ L, ∃ n, x = some n
theorem fits_all : ∀ (L : List (Option Nat)) (P : Nat), allS L → P + sumO L < 10 ^ 9 → fits L P
  | [], P, _, h => by
    rw [fits]; exact h
  | none :: L, P, ha, h => by
    obtain ⟨n, e⟩ := ha none (List.mem_cons_self ..)
    cases e
  | some n :: L, P, ha, h => by
    have h' : P + (n + sumO L) < 10 ^ 9 := h
    rw [fits]
    exact ⟨by omega, fits_all L (P + n) (fun x hx => ha x (List.mem_cons_of_mem _ hx)) (by omega)⟩
theorem sumO_rep (x : Nat) (L : List (Option Nat)) : ∀ n : Nat, sumO (List.replicate n (some x) ++ L) = n * x + sumO L
  | 0 => by
    rw [Nat.zero_mul, Nat.zero_add]; rfl
  | n + 1 => by
    rw [List.replicate_succ]
    show x + sumO (List.replicate n (some x) ++ L) = _
    rw [sumO_rep x L n, Nat.succ_mul]; omega
theorem allS_mul (a b : Nat) (w : Int32) : ∀ m t : Nat, allS (mulL a b w m t)
  | 0, _ => fun x hx => by cases hx
  | m + 1, t => fun x hx => by
    rw [mulL, List.mem_append] at hx
    rcases hx with hx | hx
    · exact ⟨_, List.eq_of_mem_replicate hx⟩
    · exact allS_mul a b w m (t + 1) x hx
theorem sum_mul {a b : Nat} (hb : b ≤ 9999) (w : Int32) : sumO (mulL a b w 4 0) = a * b := by
  have d : b = dgN b 0 * 10 ^ 0 + dgN b 1 * 10 ^ 1 + dgN b 2 * 10 ^ 2 + dgN b 3 * 10 ^ 3 := by
    unfold dgN
    simp only [show 10 ^ 0 = 1 by decide, show 10 ^ 1 = 10 by decide, show 10 ^ 2 = 100 by decide, show 10 ^ 3 = 1000 by decide]
    omega
  have s : ∀ k, dgN b k * (a * 10 ^ k) = a * (dgN b k * 10 ^ k) := fun k => Nat.mul_left_comm _ _ _
  simp only [mulL, sumO_rep, s]
  have e0 : sumO [] = 0 := rfl
  rw [e0]
  unfold plc
  by_cases c : w = 0
  · simp only [if_pos c]
    show a * (dgN b 0 * 10 ^ 0) + (a * (dgN b 1 * 10 ^ 1) + (a * (dgN b 2 * 10 ^ 2) + (a * (dgN b 3 * 10 ^ 3) + 0))) = a * b
    generalize dgN b 0 * 10 ^ 0 = x0 at d ⊢
    generalize dgN b 1 * 10 ^ 1 = x1 at d ⊢
    generalize dgN b 2 * 10 ^ 2 = x2 at d ⊢
    generalize dgN b 3 * 10 ^ 3 = x3 at d ⊢
    rw [d, Nat.mul_add, Nat.mul_add, Nat.mul_add]
    omega
  · simp only [if_neg c]
    show a * (dgN b 3 * 10 ^ 3) + (a * (dgN b 2 * 10 ^ 2) + (a * (dgN b 1 * 10 ^ 1) + (a * (dgN b 0 * 10 ^ 0) + 0))) = a * b
    generalize dgN b 0 * 10 ^ 0 = x0 at d ⊢
    generalize dgN b 1 * 10 ^ 1 = x1 at d ⊢
    generalize dgN b 2 * 10 ^ 2 = x2 at d ⊢
    generalize dgN b 3 * 10 ^ 3 = x3 at d ⊢
    rw [d, Nat.mul_add, Nat.mul_add, Nat.mul_add]
    omega
theorem ab_lt {a b : Nat} (ha : a ≤ 9999) (hb : b ≤ 9999) : a * b < 10 ^ 9 := by
  have : a * b ≤ 9999 * 9999 := Nat.mul_le_mul ha hb
  have e : 10 ^ 9 = 1000000000 := by decide
  omega
theorem div2 (b k : Nat) : b / 2 ^ k = 2 * (b / 2 ^ (k + 1)) + (if b.testBit k then 1 else 0) := by
  rw [Nat.pow_succ, ← Nat.div_div_eq_div_mul]
  rw [Nat.testBit_eq_decide_div_mod_eq]
  by_cases h : b / 2 ^ k % 2 = 1
  · simp only [h, decide_true, if_true]; omega
  · simp only [h, decide_false, Bool.false_eq_true, if_false]; omega
theorem fits_bits {a b : Nat} (ha : a ≤ 9999) (hb : b ≤ 9999) : ∀ k : Nat, fits (bitsL a b k) (a * (b / 2 ^ k))
  | 0 => by
    rw [bitsL, fits, Nat.pow_zero, Nat.div_one]; exact ab_lt ha hb
  | k + 1 => by
    have q : b / 2 ^ k ≤ b := Nat.div_le_self _ _
    have h1 := ab_lt ha (show b / 2 ^ k ≤ 9999 by omega)
    have d := div2 b k
    have ih := fits_bits ha hb k
    rw [bitsL]
    show fits (none :: ((if b.testBit k then [some a] else []) ++ bitsL a b k)) _
    rw [fits]
    by_cases t : b.testBit k = true
    · simp only [if_pos t] at d ⊢
      have e : a * (b / 2 ^ k) = a * (b / 2 ^ (k + 1)) + a * (b / 2 ^ (k + 1)) + a := by
        rw [d, Nat.mul_add, Nat.mul_one, Nat.two_mul, Nat.mul_add]
      refine ⟨by omega, ?_⟩
      show fits (some a :: bitsL a b k) _
      rw [fits, ← e]
      exact ⟨h1, ih⟩
    · simp only [if_neg t] at d ⊢
      have e : a * (b / 2 ^ k) = a * (b / 2 ^ (k + 1)) + a * (b / 2 ^ (k + 1)) := by
        rw [d, Nat.add_zero, Nat.two_mul, Nat.mul_add]
      refine ⟨by omega, ?_⟩
      show fits (bitsL a b k) _
      rw [← e]; exact ih
def wayL (a b : Nat) (w : Int32) : List (Option Nat) := if w = 2 then bitsL a b (nbF 14 b) else mulL a b w 4 0
theorem fits_way {a b : Nat} (ha : a ≤ 9999) (hb : b ≤ 9999) (w : Int32) : fits (wayL a b w) 0 := by
  unfold wayL
  by_cases c : w = 2
  · rw [if_pos c]
    have := fits_bits ha hb (nbF 14 b)
    rw [Nat.div_eq_of_lt (nlz_tab hb).2.2.1, Nat.mul_zero] at this
    exact this
  · rw [if_neg c]
    refine fits_all _ 0 (allS_mul a b w 4 0) ?_
    rw [sum_mul hb, Nat.zero_add]; exact ab_lt ha hb
theorem fits_end : ∀ (L : List (Option Nat)) (P : Nat), fits L P → resP L P < 10 ^ 9
  | [], P, h => by rw [fits] at h; exact h
  | none :: L, P, h => by
    rw [resP_n]; exact fits_end L _ (fits_n h).2
  | some n :: L, P, h => by
    rw [resP_s]; exact fits_end L _ (fits_s h).2
theorem dg_zero (j : Nat) : dgI 0 j = 0 := by
  have : dgN 0 j = 0 := by unfold dgN; rw [Nat.zero_div]
  unfold dgI; rw [this]; rfl
theorem CI_0 {σ : St} (h : relC 5 9 F9 σ VZ) : CI σ 0 0 := ⟨VZ, h, fun j _ => by unfold rg; show 0 ≤ (0 : Int32).toInt ∧ (0 : Int32).toInt ≤ 9; rw [t_0]; omega, fun j _ => (dg_zero j).symm, rfl⟩
theorem c_multiply {a b : Nat} (ha : a ≤ 9999) (hb : b ≤ 9999) (w : Int32) (σ : St) : ∃ σ', f_X9_multiply (iZ (a : Int)) (iZ (b : Int)) w σ = some (iZ ((wayL a b w).length : Int), σ') ∧ CI σ' (resP (wayL a b w) 0) (resW tw9 wk (wayL a b w) 0 0) := by
  obtain ⟨s1, e1, h1, _⟩ := c_clear (o := 5) 9 σ
  have e1' : f_X7_clear 5 9 σ = some s1 := e1
  have e9 : 0 < 10 ^ 9 := by decide
  obtain ⟨s2, e2, h2⟩ := chX_ok (wayL a b w) (P := 0) (w := 0) e9 (fits_way ha hb w) (CI_0 h1)
  unfold f_X9_multiply
  rw [bnd e1']
  refine ⟨s2, ?_, h2⟩
  generalize hL : resP (wayL a b w) 0 = RP at h2
  unfold wayL at e2 ⊢
  by_cases c : w = 2
  · rw [if_pos c] at e2 ⊢
    rw [if_pos c]
    obtain ⟨t1, t2, t3, t4⟩ := nlz_tab hb
    unfold f_X9_multiplyByBits
    rw [s_nlz, t1]
    have ek : (31 : Int32) - iZ ((32 - nbF 14 b : Nat) : Int) = iZ ((nbF 14 b : Int) - 1) := by
      have e31 : (31 : Int32) = iZ 31 := rfl
      rw [e31, iZ_sub]; congr 1; omega
    have q := c_bits ha hb (nbF 14 b) FU 0 s1 t2 (by unfold FU; omega)
    rw [e2] at q
    have q' : f_X9_multiplyByBits_11 FU (iZ (a : Int)) (iZ (b : Int)) 0 (iZ ((nbF 14 b : Int) - 1)) s1 = some (0 + iZ ((bitsL a b (nbF 14 b)).length : Int), s2) := q
    have q2 : ((some (iZ ((32 - nbF 14 b : Nat) : Int), s1) : Option (Int32 × St)).bind fun p1 => f_X9_multiplyByBits_11 FU (iZ (a : Int)) (iZ (b : Int)) 0 (31 - p1.1) p1.2) = some (iZ ((bitsL a b (nbF 14 b)).length : Int), s2) := by
      rw [bnd rfl]
      show f_X9_multiplyByBits_11 FU (iZ (a : Int)) (iZ (b : Int)) 0 (31 - iZ ((32 - nbF 14 b : Nat) : Int)) s1 = _
      rw [ek, q', Int32.zero_add]
    rw [bnd q2]
  · rw [if_neg c] at e2 ⊢
    rw [if_neg c]
    have q := c_mul27 ha hb w 4 FU 0 0 s1 (by omega) (by unfold FU; omega)
    rw [e2] at q
    have q' : f_X9_multiply_27 FU (iZ (a : Int)) (iZ (b : Int)) w 0 0 s1 = some (0 + iZ ((mulL a b w 4 0).length : Int), s2) := q
    rw [q', Int32.zero_add]
theorem m_multiply {a b : Nat} (ha : a ≤ 9999) (hb : b ≤ 9999) (w : Int32) (σ : St) : ∃ σ', f_X10_multiply (iZ (a : Int)) (iZ (b : Int)) w σ = some σ' ∧ MI σ' (resP (wayL a b w) 0) (resW tw9 wk (wayL a b w) 0 0) (iZ ((wayL a b w).length : Int)) := by
  have h0 : MI (sI (sI (sJ σ 38 35 0) 38 36 0) 38 37 0) 0 0 0 := ⟨by simp [gI_sI, gI_sJ, gI_sR, gJ_sI, gJ_sJ, gJ_sR, gR_sI, gR_sJ, gR_sR]; rfl, by simp [gI_sI, gI_sJ, gI_sR, gJ_sI, gJ_sJ, gJ_sR, gR_sI, gR_sJ, gR_sR], by simp [gI_sI, gI_sJ, gI_sR, gJ_sI, gJ_sJ, gJ_sR, gR_sI, gR_sJ, gR_sR]⟩
  have e9 : 0 < 10 ^ 9 := by decide
  obtain ⟨s2, e2, h2⟩ := chY_ok (wayL a b w) (P := 0) (w := 0) (c := 0) e9 (fits_way ha hb w) h0
  refine ⟨s2, ?_, MI_c h2 (Int32.zero_add _).symm⟩
  unfold f_X10_multiply
  generalize hL : resP (wayL a b w) 0 = RP at h2
  unfold wayL at e2
  by_cases c : w = 2
  · rw [if_pos c] at e2 ⊢
    obtain ⟨t1, t2, t3, t4⟩ := nlz_tab hb
    have q := m_bits ha hb t3 t4 14 FU (sI (sI (sJ σ 38 35 0) 38 36 0) 38 37 0) (by omega) (by unfold FU; omega)
    rw [show min 14 (nbF 14 b) = nbF 14 b by omega, e2] at q
    exact q
  · rw [if_neg c] at e2 ⊢
    have q := m_mul66 ha hb w 4 FU 0 (sI (sI (sJ σ 38 35 0) 38 36 0) 38 37 0) (by omega) (by unfold FU; omega)
    rw [e2] at q
    exact q
theorem s_isFactor (v : Int32) (σ : St) : f_X9_isFactor v σ = some (bZ (0 ≤ v.toInt ∧ v.toInt ≤ 9999), σ) := by
  unfold f_X9_isFactor f_X9_isFactor_15 f_X9_isFactor_16 bZ
  simp only [lI, t_0, t_1, t_2, t_3, t_4, t_5, t_6, t_7, t_8, t_9, t_10, t_11, t_12, t_13, t_18, t_19, t_20, t_31, t_32, t_40, t_48, t_57, t_99, t_100, t_160, t_255, t_511, t_999, t_1000, t_9999, t_100000, t_999999999, t_2147483647, t_m1, t_m2, l_0, l_1, l_2, l_3, l_5, l_6, l_9, l_10, l_12, l_99, l_100, l_511, l_999, l_1000, l_9999, l_1000000, l_999999999, l_1000000000000, l_1000000000000000000, l_m1, gd_t isbb_0, gd_t isbb_1]
  by_cases h1 : v.toInt < 0
  · rw [if_pos h1, if_neg (by omega)]
  · rw [if_neg h1]
    by_cases h2 : 9999 < v.toInt
    · rw [if_pos h2, if_neg (by omega)]
    · rw [if_neg h2, if_pos (by omega)]
theorem m_product {σ : St} (x y w z : Int32) : ∃ r σ1 σ2, f_X9_product x y w z σ = some (r, σ1) ∧ f_X10_product x y w z σ1 = some (r, σ2) := by
  unfold f_X9_product f_X9_product_34 f_X9_product_82 f_X10_product f_X10_product_49 f_X10_product_91
  simp only [s_isFactor, s_in, Option.bind_some, bZ_0, t64, l_0, l_9999, l_2, lI, leI, t_0, t_2]
  by_cases qx : 0 ≤ x.toInt ∧ x.toInt ≤ 9999
  · simp only [if_neg (not_not_intro qx)]
    by_cases qy : 0 ≤ y.toInt ∧ y.toInt ≤ 9999
    · simp only [if_neg (not_not_intro qy)]
      by_cases qw : 0 ≤ w.toInt ∧ w.toInt ≤ 2
      · simp only [if_neg (not_not_intro qw), if_neg (show ¬ w.toInt < 0 by omega), if_neg (show ¬ 2 < w.toInt by omega)]
        by_cases qz : 0 ≤ z.toInt ∧ z.toInt ≤ 2
        · simp only [if_neg (not_not_intro qz), if_neg (show ¬ z.toInt < 0 by omega), if_pos (show z.toInt ≤ 2 by omega)]
          have ex := iZof qx.1
          have ey := iZof qy.1
          have ha : x.toInt.toNat ≤ 9999 := by omega
          have hb : y.toInt.toNat ≤ 9999 := by omega
          generalize x.toInt.toNat = a at ex ha
          generalize y.toInt.toNat = b at ey hb
          rw [ex, ey]
          obtain ⟨σ1, e1, V, r1, ok1, d1, w1⟩ := c_multiply ha hb w σ
          obtain ⟨σ2, e2, m1, m2, m3⟩ := m_multiply ha hb w σ1
          have hP := fits_end _ _ (fits_way ha hb w)
          have v5 := s_value 5 σ1 9 (by omega) (by rw [r1.1, iZt (by omega)])
          have ev : vsum (dg σ1 6) 9 = ((resP (wayL a b w) 0 : Nat) : Int) := by
            rw [← vsum_dgI _ 9 hP (by omega)]
            exact vsum_congr 9 (fun j hj => by
              show (gI σ1 6 j).toInt = _
              rw [(r1.2.1 j (by omega)).1, d1 j hj])
          rw [bnd e1]
          by_cases z0 : z = 0
          · refine ⟨(gI σ1 5 7).toInt64, σ1, σ2, ?_, ?_⟩
            · rw [if_pos z0]
            · rw [bnd e2, if_pos z0, m2, r1.2.2.1, w1]
          · by_cases z1 : z = 1
            · refine ⟨(iZ ((wayL a b w).length : Int)).toInt64, σ1, σ2, ?_, ?_⟩
              · rw [if_neg z0, if_pos z1]
              · rw [bnd e2, if_neg z0, if_pos z1, m3]
            · refine ⟨jZ (vsum (dg σ1 6) 9), σ1, σ2, ?_, ?_⟩
              · rw [if_neg z0, if_neg z1, bnd v5]
              · rw [bnd e2, if_neg z0, if_neg z1, m1, ev]
        · refine ⟨-1, σ, σ, ?_, by rw [if_pos qz]⟩
          by_cases c : z.toInt < 0
          · rw [if_pos c]
          · rw [if_neg c, if_neg (by omega)]
      · refine ⟨-1, σ, σ, ?_, by rw [if_pos qw]⟩
        by_cases c : w.toInt < 0
        · rw [if_pos c]
        · rw [if_neg c, if_pos (by omega)]
    · exact ⟨-1, σ, σ, by rw [if_pos qy], by rw [if_pos qy]⟩
  · exact ⟨-1, σ, σ, by rw [if_pos qx], by rw [if_pos qx]⟩

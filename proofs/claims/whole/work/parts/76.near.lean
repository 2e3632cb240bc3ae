/-! NEAR -/
def ncK (A B : Nat → Bool) : Nat → Nat → Int32 → Int32
  | 0, _, c => c
  | m + 1, k, c => ncK A B m (k + 1) (c + (if A k then 1 else 0) + (if B k then 1 else 0))
def ncS (F : Nat → Int32 → Int32) : Nat → Nat → Int32 → Int32
  | 0, _, c => c
  | m + 1, s, c => ncS F m (s + 1) (F s c)
theorem sub_iff (S v t : Int64) : (S - v = t) = (S = v + t) := by
  apply propext
  constructor
  · intro h
    rw [← h, Int64.sub_eq_add_neg, Int64.add_comm S, ← Int64.add_assoc, Int64.add_right_neg, Int64.zero_add]
  · intro h
    rw [h, Int64.sub_eq_add_neg, Int64.add_comm v t, Int64.add_assoc, Int64.add_right_neg, Int64.add_zero]
abbrev upA (sn : Nat → Int32) (x : Int64) (k : Nat) : Bool := decide (0 ≤ (sn k).toInt + 1 ∧ (sn k).toInt + 1 ≤ 9) && decide (x = jZ (10 ^ k))
abbrev upB (sn : Nat → Int32) (x : Int64) (k : Nat) : Bool := decide (0 ≤ (sn k).toInt - 1 ∧ (sn k).toInt - 1 ≤ 9) && decide (x = jZ (-10 ^ k))
theorem pw_ne {k : Nat} (h : k ≤ 12) : ¬ jZ (10 ^ k) = jZ (-10 ^ k) := by
  have h1 : (0 : Int) < 10 ^ k := Int.pow_pos (by omega)
  have h2 : (10 : Int) ^ k ≤ 10 ^ 12 := by
    have : (10 : Nat) ^ k ≤ 10 ^ 12 := Nat.pow_le_pow_right (by omega) h
    have e1 : ((10 ^ k : Nat) : Int) = (10 : Int) ^ k := by simp
    have e2 : ((10 ^ 12 : Nat) : Int) = (10 : Int) ^ 12 := by simp
    omega
  have h3 : (10 : Int) ^ 12 = 1000000000000 := by decide
  intro c
  have := congrArg Int64.toInt c
  rw [jZ_toInt (by omega) (by omega), jZ_toInt (by omega) (by omega)] at this
  omega
theorem c_near_in (v x5 : Int64) (x4 : Int32) (σ : St) (sn : Nat → Int32) (R : Nat) (hR : R ≤ 12) (hr : (gI σ 1 0).toInt = R) (hsn : ∀ k, k < 12 → seenZ (gI σ 1 4) (gI σ (1 + 1) k) k = sn k) (hsr : ∀ k, k < 12 → 0 ≤ (sn k).toInt ∧ (sn k).toInt ≤ 10) (K : Int64 → Int32 → Int32 → St → Option (Int32 × St)) : ∀ m n k : Nat, ∀ c : Int32, k + m = R → m < n → f_X9_near_54 K n v c x4 x5 (iZ (k : Int)) σ = K v (ncK (upA sn x5) (upB sn x5) m k c) (x4 + 1) σ := by
  intro m
  induction m with
  | zero =>
    intro n k c e hn
    cases n with
    | zero => omega
    | succ n =>
      rw [f_X9_near_54, if_pos (by rw [leI, hr, iZt (by omega)]; omega)]
      rfl
  | succ m ih =>
    intro n k c e hn
    cases n with
    | zero => omega
    | succ n =>
      have hs := hsr k (by omega)
      have a1 : (sn k + 1).toInt = (sn k).toInt + 1 := tadd (by rw [t_1]; omega) (by rw [t_1]; omega)
      have a2 : (sn k - 1).toInt = (sn k).toInt - 1 := tsub (by rw [t_1]; omega) (by rw [t_1]; omega)
      rw [f_X9_near_54, if_neg (by rw [leI, hr, iZt (by omega)]; omega)]
      unfold f_X9_near_101 f_X9_near_134
      simp only [s_seen7 1 k (show k < 12 by omega), hsn k (show k < 12 by omega), s_isDigit, Option.bind_some, cmE, bZ_0, a1, a2, gd_t (iZb (show k < 13 by omega) (by omega : 13 < 2147483648)), iZc (show k < 2147483648 by omega), tens_jZ (show k ≤ 18 by omega), jZ_neg, iZs, ih n (k + 1) _ (show k + 1 + m = R by omega) (show m < n by omega)]
      show _ = K v (ncK (upA sn x5) (upB sn x5) m (k + 1) (c + (if upA sn x5 k then 1 else 0) + (if upB sn x5 k then 1 else 0))) (x4 + 1) σ
      by_cases q1 : x5 = jZ (10 ^ k)
      · have q2 : ¬ x5 = jZ (-10 ^ k) := by rw [q1]; exact pw_ne (by omega)
        rw [if_pos q1, if_neg q2]
        have eB : upB sn x5 k = false := by
          show (_ && decide _) = false
          rw [decide_eq_false q2, Bool.and_false]
        by_cases q3 : 0 ≤ (sn k).toInt + 1 ∧ (sn k).toInt + 1 ≤ 9
        · have eA : upA sn x5 k = true := by
            show (decide _ && decide _) = true
            rw [decide_eq_true q1, decide_eq_true q3]; rfl
          rw [if_neg (not_not_intro q3), eA, eB, if_pos rfl, if_neg Bool.false_ne_true, Int32.add_zero]
        · have eA : upA sn x5 k = false := by
            show (decide _ && decide _) = false
            rw [decide_eq_false q3]; rfl
          rw [if_pos q3, eA, eB, if_neg Bool.false_ne_true, Int32.add_zero, Int32.add_zero]
      · rw [if_neg q1]
        have eA : upA sn x5 k = false := by
          show (_ && decide _) = false
          rw [decide_eq_false q1, Bool.and_false]
        rw [eA, if_neg Bool.false_ne_true, Int32.add_zero]
        by_cases q2 : x5 = jZ (-10 ^ k)
        · rw [if_pos q2]
          by_cases q3 : 0 ≤ (sn k).toInt - 1 ∧ (sn k).toInt - 1 ≤ 9
          · have eB : upB sn x5 k = true := by
              show (decide _ && decide _) = true
              rw [decide_eq_true q2, decide_eq_true q3]; rfl
            rw [if_neg (not_not_intro q3), eB, if_pos rfl]
          · have eB : upB sn x5 k = false := by
              show (decide _ && decide _) = false
              rw [decide_eq_false q3]; rfl
            rw [if_pos q3, eB, if_neg Bool.false_ne_true, Int32.add_zero]
        · have eB : upB sn x5 k = false := by
            show (_ && decide _) = false
            rw [decide_eq_false q2, Bool.and_false]
          rw [if_neg q2, eB, if_neg Bool.false_ne_true, Int32.add_zero]
theorem c_near_go (v : Int64) (σ : St) (sn : Nat → Int32) (R H : Nat) (hR : R ≤ 12) (hr : (gI σ 1 0).toInt = R) (hH : H ≤ 8) (hh : (gI σ 19 1).toInt = H) (hsn : ∀ k, k < 12 → seenZ (gI σ 1 4) (gI σ (1 + 1) k) k = sn k) (hsr : ∀ k, k < 12 → 0 ≤ (sn k).toInt ∧ (sn k).toInt ≤ 10) (S : Nat → Int64) (hS : ∀ s, S s = jZ (esum (hf σ 20 (iZ (s : Int))) H) - v) : ∀ m n s : Nat, ∀ c : Int32, s + m = 2 ^ H → m < n → f_X9_near_26 n v c (iZ (s : Int)) σ = some (ncS (fun s => ncK (upA sn (S s)) (upB sn (S s)) R 0) m s c, σ) := by
  have hp := pow8 hH
  intro m
  induction m with
  | zero =>
    intro n s c e hn
    cases n with
    | zero => omega
    | succ n =>
      rw [f_X9_near_26]
      unfold f_X3_sets
      simp only [Option.bind_some]
      rw [sh_nI (by omega) hh, if_pos (by rw [leI, iZt (by omega), iZt (by omega)]; omega)]
      rfl
  | succ m ih =>
    intro n s c e hn
    cases n with
    | zero => omega
    | succ n =>
      rw [f_X9_near_26]
      unfold f_X3_sets f_X9_near_51
      simp only [Option.bind_some]
      rw [sh_nI (by omega) hh, if_neg (by rw [leI, iZt (by omega), iZt (by omega)]; omega), s_sum3 _ σ H hH hh]
      simp only [Option.bind_some]
      rw [← hS s]
      have := c_near_in v (S s) (iZ (s : Int)) σ sn R hR hr hsn hsr (f_X9_near_26 n) R FU 0 c (by omega) (by unfold FU; omega)
      refine Eq.trans this ?_
      rw [iZs, ih n (s + 1) _ (by omega) (by omega)]
      rfl
theorem d_near_in (v x5 : Int64) (x4 : Int32) (σ : St) (sn : Nat → Int32) (R H : Nat) (hR : R ≤ 12) (hr : (gI σ 38 1).toInt = R) (hH : H ≤ 8) (hh : (gI σ 38 33).toInt = H) (hsn : ∀ k, k < 12 → seenZ (gI σ 38 19) (gI σ 46 k) k = sn k) (hsr : ∀ k, k < 12 → 0 ≤ (sn k).toInt ∧ (sn k).toInt ≤ 10) (hx : x5 = jZ (esum (hf σ 54 x4) H) - v) (K : Int64 → Int32 → Int32 → St → Option (Int32 × St)) : ∀ m n k : Nat, ∀ c : Int32, k + m = R → m < n → f_X10_near_34 K n v c x4 (iZ (k : Int)) σ = K v (ncK (upA sn x5) (upB sn x5) m k c) (x4 + 1) σ := by
  intro m
  induction m with
  | zero =>
    intro n k c e hn
    cases n with
    | zero => omega
    | succ n =>
      rw [f_X10_near_34, if_pos (by rw [leI, hr, iZt (by omega)]; omega)]
      rfl
  | succ m ih =>
    intro n k c e hn
    cases n with
    | zero => omega
    | succ n =>
      have hs := hsr k (by omega)
      have a1 : (sn k + 1).toInt = (sn k).toInt + 1 := tadd (by rw [t_1]; omega) (by rw [t_1]; omega)
      have a2 : (sn k - 1).toInt = (sn k).toInt - 1 := tsub (by rw [t_1]; omega) (by rw [t_1]; omega)
      have b1 : (jZ (esum (hf σ 54 x4) H) = v + jZ (10 ^ k)) = (x5 = jZ (10 ^ k)) := by rw [hx, sub_iff]
      have b2 : (jZ (esum (hf σ 54 x4) H) = v - jZ (10 ^ k)) = (x5 = jZ (-10 ^ k)) := by rw [hx, sub_iff, Int64.sub_eq_add_neg, jZ_neg]
      rw [f_X10_near_34, if_neg (by rw [leI, hr, iZt (by omega)]; omega)]
      unfold f_X10_near_84 f_X10_near_85 f_X10_near_87 f_X10_near_128 f_X10_near_129 f_X10_near_131
      simp only [s_seen10 k (show k < 12 by omega), hsn k (show k < 12 by omega), s_in, s_ten σ k (show k ≤ 18 by omega), s_sum10 _ σ H hH hh, Option.bind_some, cmE, bZ_0, t64, l_0, l_9, a1, a2, b1, b2, iZs, ih n (k + 1) _ (show k + 1 + m = R by omega) (show m < n by omega)]
      show _ = K v (ncK (upA sn x5) (upB sn x5) m (k + 1) (c + (if upA sn x5 k then 1 else 0) + (if upB sn x5 k then 1 else 0))) (x4 + 1) σ
      have eA : (if upA sn x5 k then (1 : Int32) else 0) = if (0 ≤ (sn k).toInt + 1 ∧ (sn k).toInt + 1 ≤ 9) ∧ x5 = jZ (10 ^ k) then 1 else 0 := by
        simp only [upA, Bool.and_eq_true, decide_eq_true_eq]
      have eB : (if upB sn x5 k then (1 : Int32) else 0) = if (0 ≤ (sn k).toInt - 1 ∧ (sn k).toInt - 1 ≤ 9) ∧ x5 = jZ (-10 ^ k) then 1 else 0 := by
        simp only [upB, Bool.and_eq_true, decide_eq_true_eq]
      rw [eA, eB]
      by_cases p1 : 0 ≤ (sn k).toInt + 1 ∧ (sn k).toInt + 1 ≤ 9
      · by_cases p2 : x5 = jZ (10 ^ k)
        · by_cases p3 : 0 ≤ (sn k).toInt - 1 ∧ (sn k).toInt - 1 ≤ 9
          · by_cases p4 : x5 = jZ (-10 ^ k)
            · rw [if_neg (not_not_intro p1), if_pos p2, if_neg (not_not_intro p3), if_pos p4, if_pos ⟨p1, p2⟩, if_pos ⟨p3, p4⟩]
            · rw [if_neg (not_not_intro p1), if_pos p2, if_neg (not_not_intro p3), if_neg p4, if_pos ⟨p1, p2⟩, if_neg (fun c => p4 c.2)]
          · rw [if_neg (not_not_intro p1), if_pos p2, if_pos p3, if_pos ⟨p1, p2⟩, if_neg (fun c => p3 c.1)]
        · by_cases p3 : 0 ≤ (sn k).toInt - 1 ∧ (sn k).toInt - 1 ≤ 9
          · by_cases p4 : x5 = jZ (-10 ^ k)
            · simp only [if_neg (not_not_intro p1), if_neg p2, if_neg (not_not_intro p3), if_pos p4, if_neg (fun c : _ ∧ _ => p2 c.2), if_pos (And.intro p3 p4)]
            · simp only [if_neg (not_not_intro p1), if_neg p2, if_neg (not_not_intro p3), if_neg p4, if_neg (fun c : _ ∧ _ => p2 c.2), if_neg (fun c : _ ∧ _ => p4 c.2)]
          · simp only [if_neg (not_not_intro p1), if_neg p2, if_pos p3, if_neg (fun c : _ ∧ _ => p2 c.2), if_neg (fun c : _ ∧ _ => p3 c.1)]
      · by_cases p3 : 0 ≤ (sn k).toInt - 1 ∧ (sn k).toInt - 1 ≤ 9
        · by_cases p4 : x5 = jZ (-10 ^ k)
          · simp only [if_pos p1, if_neg (not_not_intro p3), if_pos p4, if_neg (fun c : _ ∧ _ => p1 c.1), if_pos (And.intro p3 p4)]
          · simp only [if_pos p1, if_neg (not_not_intro p3), if_neg p4, if_neg (fun c : _ ∧ _ => p1 c.1), if_neg (fun c : _ ∧ _ => p4 c.2)]
        · simp only [if_pos p1, if_pos p3, if_neg (fun c : _ ∧ _ => p1 c.1), if_neg (fun c : _ ∧ _ => p3 c.1)]
theorem d_near_go (v : Int64) (σ : St) (sn : Nat → Int32) (R H : Nat) (hR : R ≤ 12) (hr : (gI σ 38 1).toInt = R) (hH : H ≤ 8) (hh : (gI σ 38 33).toInt = H) (hsn : ∀ k, k < 12 → seenZ (gI σ 38 19) (gI σ 46 k) k = sn k) (hsr : ∀ k, k < 12 → 0 ≤ (sn k).toInt ∧ (sn k).toInt ≤ 10) (S : Nat → Int64) (hS : ∀ s, S s = jZ (esum (hf σ 54 (iZ (s : Int))) H) - v) : ∀ m n s : Nat, ∀ c : Int32, s + m = 2 ^ H → m < n → f_X10_near_20 n v c (iZ (s : Int)) σ = some (ncS (fun s => ncK (upA sn (S s)) (upB sn (S s)) R 0) m s c, σ) := by
  have hp := pow8 hH
  intro m
  induction m with
  | zero =>
    intro n s c e hn
    cases n with
    | zero => omega
    | succ n =>
      rw [f_X10_near_20, sh_nI (by omega) hh, if_pos (by rw [leI, iZt (by omega), iZt (by omega)]; omega)]
      rfl
  | succ m ih =>
    intro n s c e hn
    cases n with
    | zero => omega
    | succ n =>
      rw [f_X10_near_20, sh_nI (by omega) hh, if_neg (by rw [leI, iZt (by omega), iZt (by omega)]; omega)]
      have := d_near_in v (S s) (iZ (s : Int)) σ sn R H hR hr hH hh hsn hsr (hS s) (f_X10_near_20 n) R FU 0 c (by omega) (by unfold FU; omega)
      refine Eq.trans this ?_
      rw [iZs, ih n (s + 1) _ (by omega) (by omega)]
      rfl
theorem m_near {σ : St} (h : Rrop σ) (d : Rdig σ) (g : Rgoat σ) (r : Rhar σ) : ∃ a, f_X9_near σ = some (a, σ) ∧ f_X10_near σ = some (a, σ) := by
  have g3 := g.2.2.1
  have g4 := g.2.2.2.1
  have h0 := h
  obtain ⟨h1, h2, h3⟩ := h0
  obtain ⟨r1, ⟨r2, r3⟩, r4, r5⟩ := r
  unfold f_X9_near f_X10_near
  rw [g4]
  by_cases f : gI σ 1 5 = 0
  · rw [if_pos f, if_pos f]
    obtain ⟨v, e1, e2⟩ := m_seen h d g f
    rw [e1, e2]
    simp only [Option.bind_some]
    have hR : (gI σ 1 0).toInt = ((gI σ 1 0).toInt.toNat : Int) := by omega
    have hH : (gI σ 19 1).toInt = ((gI σ 19 1).toInt.toNat : Int) := by omega
    have hp := pow8 (H := (gI σ 19 1).toInt.toNat) (by omega)
    have c := c_near_go v σ (fun k => seenZ (gI σ 1 4) (gI σ 2 k) k) (gI σ 1 0).toInt.toNat (gI σ 19 1).toInt.toNat (by omega) hR (by omega) hH (fun k hk => rfl) (fun k hk => seenZ_rg (d.1 k hk).2) _ (fun s => rfl) (2 ^ (gI σ 19 1).toInt.toNat) FU 0 0 (by omega) (by unfold FU; omega)
    have m := d_near_go v σ (fun k => seenZ (gI σ 1 4) (gI σ 2 k) k) (gI σ 1 0).toInt.toNat (gI σ 19 1).toInt.toNat (by omega) (by rw [h1]; exact hR) (by omega) (by rw [r1]; exact hH) (fun k hk => by rw [g3, (d.1 k hk).1]) (fun k hk => seenZ_rg (d.1 k hk).2) (fun s => jZ (esum (hf σ 20 (iZ (s : Int))) (gI σ 19 1).toInt.toNat) - v) (fun s => by
      have eh : hf σ 54 (iZ (s : Int)) = hf σ 20 (iZ (s : Int)) := by
        funext j
        show (if bitI _ j then (gI σ 54 j).toInt else 0) = (if bitI _ j then (gI σ 20 j).toInt else 0)
        rw [r4]
      rw [eh]) (2 ^ (gI σ 19 1).toInt.toNat) FU 0 0 (by omega) (by unfold FU; omega)
    exact ⟨_, c, m⟩
  · rw [if_neg f, if_neg f]
    exact ⟨_, rfl, rfl⟩

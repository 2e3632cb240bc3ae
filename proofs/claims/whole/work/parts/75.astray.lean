/-! ASTRAY -/
def hitA (sn : Nat → Int32) (V : Int) (x1 x2 : Int32) (s : Nat) : Bool := decide (¬ iZ ((s % 10 : Nat) : Int) = sn (s / 10)) && decide (rmJ (jZ (V + (((s % 10 : Nat) : Int) - (sn (s / 10)).toInt) * 10 ^ (s / 10))) x1.toInt64 = x2.toInt64)
theorem hitA_at {sn : Nat → Int32} {V : Int} {x1 x2 : Int32} {k d : Nat} (hd : d < 10) : hitA sn V x1 x2 (10 * k + d) = (decide (¬ iZ (d : Int) = sn k) && decide (rmJ (jZ (V + ((d : Int) - (sn k).toInt) * 10 ^ k)) x1.toInt64 = x2.toInt64)) := by
  unfold hitA
  rw [show (10 * k + d) % 10 = d by omega, show (10 * k + d) / 10 = k by omega]
theorem c_astray_in (x1 x2 x3 : Int32) (V : Int) (σ : St) (sn : Nat → Int32) (R k : Nat) (hk : k < R) (hR : R ≤ 12) (hn1 : nzJ x1.toInt64 = true) (hsn : ∀ k, k < 12 → seenZ (gI σ 1 4) (gI σ (1 + 1) k) k = sn k) (K : Int32 → Int32 → Int32 → Int64 → Int32 → Int32 → St → Option (Int32 × St)) (hK : ∀ c, K x1 x2 x3 (jZ V) c (iZ ((k + 1 : Nat) : Int)) σ = some (nthC (hitA sn V x1 x2) x3 (10 * (R - (k + 1))) (10 * (k + 1)) c, σ)) : ∀ m n d : Nat, ∀ c : Int32, d + m = 10 → m < n → f_X9_astray_80 K n x1 x2 x3 (jZ V) c (iZ (k : Int)) (jZ (V - (sn k).toInt * 10 ^ k)) (iZ (d : Int)) σ = some (nthC (hitA sn V x1 x2) x3 (10 * (R - (k + 1)) + m) (10 * k + d) c, σ) := by
  intro m
  induction m with
  | zero =>
    intro n d c e hn
    cases n with
    | zero => omega
    | succ n =>
      rw [f_X9_astray_80, if_pos (by rw [lI, iZt (by omega), t_9]; omega), iZs, hK]
      rw [show 10 * k + d = 10 * (k + 1) by omega]
      rfl
  | succ m ih =>
    intro n d c e hn
    cases n with
    | zero => omega
    | succ n =>
      rw [f_X9_astray_80, if_neg (by rw [lI, iZt (by omega), t_9]; omega), s_seen7 1 k (by omega)]
      unfold f_X9_astray_141
      simp only [Option.bind_some, cmE]
      rw [hsn k (by omega), gd_t (iZb (by omega) (by omega)), gd_t hn1, iZs, ih n (d + 1) c (by omega) (by omega), ih n (d + 1) (c + 1) (by omega) (by omega), iZc (by omega), tens_jZ (by omega), x64, iZt (by omega), jZ_mul, jZ_add, ten_a, iZa]
      have ev : V - (sn k).toInt * 10 ^ k + (d : Int) * 10 ^ k = V + ((d : Int) - (sn k).toInt) * 10 ^ k := by
        rw [Int.sub_mul]; omega
      rw [ev]
      show _ = some ((if hitA sn V x1 x2 (10 * k + d) then (if c = x3 then iZ ((10 * k + d : Nat) : Int) else nthC (hitA sn V x1 x2) x3 (10 * (R - (k + 1)) + m) (10 * k + d + 1) (c + 1)) else nthC (hitA sn V x1 x2) x3 (10 * (R - (k + 1)) + m) (10 * k + d + 1) c), σ)
      rw [hitA_at (by omega)]
      by_cases q : iZ (d : Int) = sn k
      · rw [if_pos q, decide_eq_false (not_not_intro q)]
        rfl
      · rw [if_neg q, decide_eq_true q, Bool.true_and]
        by_cases q2 : rmJ (jZ (V + ((d : Int) - (sn k).toInt) * 10 ^ k)) x1.toInt64 = x2.toInt64
        · rw [if_pos q2, if_pos (decide_eq_true q2)]
          by_cases q3 : c = x3
          · rw [if_pos q3, if_pos q3]
          · rw [if_neg q3, if_neg q3]
            rfl
        · rw [if_neg q2, if_neg (by rw [decide_eq_false q2]; exact Bool.false_ne_true)]
          rfl
theorem c_astray_go (x1 x2 x3 : Int32) (V : Int) (σ : St) (sn : Nat → Int32) (R : Nat) (hR : R ≤ 12) (hr : (gI σ 1 0).toInt = R) (hn1 : nzJ x1.toInt64 = true) (hsn : ∀ k, k < 12 → seenZ (gI σ 1 4) (gI σ (1 + 1) k) k = sn k) : ∀ m n k : Nat, ∀ c : Int32, k + m = R → m < n → f_X9_astray_43 n x1 x2 x3 (jZ V) c (iZ (k : Int)) σ = some (nthC (hitA sn V x1 x2) x3 (10 * (R - k)) (10 * k) c, σ) := by
  intro m
  induction m with
  | zero =>
    intro n k c e hn
    cases n with
    | zero => omega
    | succ n =>
      have : k = R := by omega
      subst this
      rw [f_X9_astray_43, if_pos (by rw [leI, hr, iZt (by omega)]; exact Int.le_refl _), Nat.sub_self]
      unfold f_X9_astray_164
      show _ = some ((if x3 = -1 then c else -1), σ)
      split <;> rfl
  | succ m ih =>
    intro n k c e hn
    cases n with
    | zero => omega
    | succ n =>
      rw [f_X9_astray_43, if_neg (by rw [leI, hr, iZt (by omega)]; omega), s_seen7 1 k (by omega)]
      unfold f_X9_astray_77
      simp only [Option.bind_some]
      rw [gd_t (iZb (by omega) (by omega)), hsn k (by omega), iZc (by omega), tens_jZ (by omega), x64, jZ_mul, jZ_sub]
      have := c_astray_in x1 x2 x3 V σ sn R k (by omega) hR hn1 hsn (f_X9_astray_43 n) (fun c => ih n (k + 1) c (by omega) (by omega)) 10 FU 0 c (by omega) (by unfold FU; omega)
      rw [show 10 * (R - (k + 1)) + 10 = 10 * (R - k) by omega] at this
      exact this
theorem d_astray_in (x1 x2 x3 : Int32) (V : Int) (σ : St) (sn : Nat → Int32) (R k : Nat) (hk : k < R) (hR : R ≤ 12) (hn1 : nzJ x1.toInt64 = true) (hsn : ∀ k, k < 12 → seenZ (gI σ 38 19) (gI σ 46 k) k = sn k) (hsr : ∀ k, k < 12 → 0 ≤ (sn k).toInt ∧ (sn k).toInt ≤ 10) (K : Int32 → Int32 → Int32 → Int64 → Int32 → Int32 → Int32 → St → Option (Int32 × St)) (hK : ∀ c f, K x1 x2 x3 (jZ V) c f (iZ ((k + 1 : Nat) : Int)) σ = some (nthM (hitA sn V x1 x2) x3 (10 * (R - (k + 1))) (10 * (k + 1)) c f, σ)) : ∀ m n d : Nat, ∀ c f : Int32, d + m = 10 → m < n → f_X10_astray_52 K n x1 x2 x3 (jZ V) c f (iZ (k : Int)) (iZ (d : Int)) σ = some (nthM (hitA sn V x1 x2) x3 (10 * (R - (k + 1)) + m) (10 * k + d) c f, σ) := by
  intro m
  induction m with
  | zero =>
    intro n d c f e hn
    cases n with
    | zero => omega
    | succ n =>
      rw [f_X10_astray_52, if_pos (by rw [leI, iZt (by omega), t_10]; omega), iZs, hK]
      rw [show 10 * k + d = 10 * (k + 1) by omega]
      rfl
  | succ m ih =>
    intro n d c f e hn
    cases n with
    | zero => omega
    | succ n =>
      rw [f_X10_astray_52, if_neg (by rw [leI, iZt (by omega), t_10]; omega)]
      unfold f_X10_astray_117 f_X10_astray_122
      have hs := hsr k (by omega)
      simp only [s_seen10 k (show k < 12 by omega), hsn k (show k < 12 by omega), s_ten σ k (show k ≤ 18 by omega), Option.bind_some, cmE]
      have es : (iZ (d : Int) - sn k).toInt = (d : Int) - (sn k).toInt := by
        rw [tsub (by rw [iZt (by omega)]; omega) (by rw [iZt (by omega)]; omega), iZt (by omega)]
      rw [gd_t hn1, iZs, ih n (d + 1) c f (by omega) (by omega), ih n (d + 1) (c + 1) _ (by omega) (by omega), ih n (d + 1) (c + 1) _ (by omega) (by omega), x64, es, jZ_mul, jZ_add, ten_a, iZa]
      show _ = some ((if hitA sn V x1 x2 (10 * k + d) then nthM (hitA sn V x1 x2) x3 (10 * (R - (k + 1)) + m) (10 * k + d + 1) (c + 1) (if c = x3 then iZ ((10 * k + d : Nat) : Int) else f) else nthM (hitA sn V x1 x2) x3 (10 * (R - (k + 1)) + m) (10 * k + d + 1) c f), σ)
      rw [hitA_at (by omega)]
      by_cases q : iZ (d : Int) = sn k
      · rw [if_pos q, decide_eq_false (not_not_intro q)]
        rfl
      · rw [if_neg q, decide_eq_true q, Bool.true_and]
        by_cases q2 : rmJ (jZ (V + ((d : Int) - (sn k).toInt) * 10 ^ k)) x1.toInt64 = x2.toInt64
        · rw [if_pos q2, if_pos (decide_eq_true q2)]
          by_cases q3 : c = x3
          · rw [if_pos q3, if_pos q3]
            rfl
          · rw [if_neg q3, if_neg q3]
            rfl
        · rw [if_neg q2, if_neg (by rw [decide_eq_false q2]; exact Bool.false_ne_true)]
          rfl
theorem d_astray_go (x1 x2 x3 : Int32) (V : Int) (σ : St) (sn : Nat → Int32) (R : Nat) (hR : R ≤ 12) (hr : (gI σ 38 1).toInt = R) (hn1 : nzJ x1.toInt64 = true) (hsn : ∀ k, k < 12 → seenZ (gI σ 38 19) (gI σ 46 k) k = sn k) (hsr : ∀ k, k < 12 → 0 ≤ (sn k).toInt ∧ (sn k).toInt ≤ 10) : ∀ m n k : Nat, ∀ c f : Int32, k + m = R → m < n → f_X10_astray_40 n x1 x2 x3 (jZ V) c f (iZ (k : Int)) σ = some (nthM (hitA sn V x1 x2) x3 (10 * (R - k)) (10 * k) c f, σ) := by
  intro m
  induction m with
  | zero =>
    intro n k c f e hn
    cases n with
    | zero => omega
    | succ n =>
      have : k = R := by omega
      subst this
      rw [f_X10_astray_40, if_pos (by rw [leI, hr, iZt (by omega)]; exact Int.le_refl _), Nat.sub_self]
      unfold f_X10_astray_146
      show _ = some ((if x3 = -1 then c else f), σ)
      split <;> rfl
  | succ m ih =>
    intro n k c f e hn
    cases n with
    | zero => omega
    | succ n =>
      rw [f_X10_astray_40, if_neg (by rw [leI, hr, iZt (by omega)]; omega)]
      have := d_astray_in x1 x2 x3 V σ sn R k (by omega) hR hn1 hsn hsr (f_X10_astray_40 n) (fun c f => ih n (k + 1) c f (by omega) (by omega)) 10 FU 0 c f (by omega) (by unfold FU; omega)
      rw [show 10 * (R - (k + 1)) + 10 = 10 * (R - k) by omega] at this
      exact this
theorem seenZ_rg {w d : Int32} {k : Nat} (h : rg d 0 9) : 0 ≤ (seenZ w d k).toInt ∧ (seenZ w d k).toInt ≤ 10 := by
  obtain ⟨h1, h2⟩ := h
  unfold seenZ
  by_cases q : bitI w k ∧ 0 < d.toInt
  · rw [if_pos q, tadd (by rw [t_1]; omega) (by rw [t_1]; omega), t_1]; omega
  · rw [if_neg q, tadd (by rw [t_0]; omega) (by rw [t_0]; omega), t_0]; omega
theorem m_astray {σ : St} (x1 x2 x3 : Int32) (h : Rrop σ) (d : Rdig σ) (g : Rgoat σ) : ∃ a, f_X9_astray x1 x2 x3 σ = some (a, σ) ∧ f_X10_astray x1 x2 x3 σ = some (a, σ) := by
  have g3 := g.2.2.1
  have g4 := g.2.2.2.1
  have h0 := h
  obtain ⟨h1, h2, h3⟩ := h0
  unfold f_X9_astray f_X9_astray_13 f_X10_astray f_X10_astray_13
  simp only [s_isRest9, s_isRest10, Option.bind_some, bZ_0]
  by_cases q : (1 ≤ x1.toInt ∧ x1.toInt ≤ 99) ∧ 0 ≤ x2.toInt ∧ x2.toInt < x1.toInt
  · rw [if_neg (not_not_intro q), if_neg (not_not_intro q)]
    by_cases q2 : -1 ≤ x3
    · rw [if_pos q2, if_pos q2, g4]
      by_cases f : gI σ 1 5 = 0
      · rw [if_pos f, if_pos f]
        obtain ⟨v, e1, e2⟩ := m_seen h d g f
        rw [e1, e2]
        simp only [Option.bind_some]
        have hz : nzJ x1.toInt64 = true := by
          rw [x64]; exact jZ_nz (by omega) (by omega) (by omega)
        have hR : (gI σ 1 0).toInt = ((gI σ 1 0).toInt.toNat : Int) := by omega
        have c := c_astray_go x1 x2 x3 v.toInt σ (fun k => seenZ (gI σ 1 4) (gI σ 2 k) k) (gI σ 1 0).toInt.toNat (by omega) hR hz (fun k hk => rfl) (gI σ 1 0).toInt.toNat FU 0 0 (by omega) (by unfold FU; omega)
        have m := d_astray_go x1 x2 x3 v.toInt σ (fun k => seenZ (gI σ 1 4) (gI σ 2 k) k) (gI σ 1 0).toInt.toNat (by omega) (by rw [h1]; exact hR) hz (fun k hk => by rw [g3, (d.1 k hk).1]) (fun k hk => seenZ_rg (d.1 k hk).2) (gI σ 1 0).toInt.toNat FU 0 0 (-1) (by omega) (by unfold FU; omega)
        rw [jZ_self] at c m
        refine ⟨_, c, ?_⟩
        refine Eq.trans m ?_
        rw [leI, t_m1] at q2
        rw [nthM_eq _ _ _ (by rw [t_0]; omega) (by rw [t_0]; omega) (by
          by_cases e : x3 = -1
          · exact Or.inl e
          · right; rw [eI, t_m1] at e; rw [t_0]; omega)]
      · rw [if_neg f, if_neg f]
        exact ⟨_, rfl, rfl⟩
    · rw [if_neg q2, if_neg q2]
      exact ⟨_, rfl, rfl⟩
  · rw [if_pos q, if_pos q]
    exact ⟨_, rfl, rfl⟩

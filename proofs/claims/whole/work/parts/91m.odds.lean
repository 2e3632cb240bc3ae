/-! ODDS -/
theorem vsum_b10 {f : Nat → Int} : ∀ n : Nat, (∀ j, j < n → 0 ≤ f j ∧ f j ≤ 10) → 0 ≤ vsum f n ∧ vsum f n ≤ 2 * 10 ^ n
  | 0, _ => ⟨Int.le_refl _, by show (0 : Int) ≤ 2 * 10 ^ 0; decide⟩
  | n + 1, h => by
    obtain ⟨h1, h2⟩ := vsum_b10 n (fun j hj => h j (by omega))
    obtain ⟨f1, f2⟩ := h n (by omega)
    show 0 ≤ vsum f n + f n * 10 ^ n ∧ vsum f n + f n * 10 ^ n ≤ 2 * 10 ^ (n + 1)
    have hp : (0 : Int) < 10 ^ n := Int.pow_pos (by omega)
    have m1 : 0 ≤ f n * 10 ^ n := Int.mul_nonneg f1 (by omega)
    have m2 : f n * 10 ^ n ≤ 10 * 10 ^ n := Int.mul_le_mul_of_nonneg_right f2 (by omega)
    rw [Int.pow_succ]
    omega
theorem seen_nat {σ : St} (h : Rrop σ) (d : Rdig σ) (g : Rgoat σ) (f : gI σ 1 5 = 0) : ∃ w : Nat, w < 10 ^ 13 ∧ f_X7_valueSeen 1 σ = some (jZ (w : Int), σ) ∧ f_X10_seenNumber σ = some (jZ (w : Int), σ) := by
  obtain ⟨v, e1, e2⟩ := m_seen h d g f
  obtain ⟨h1, h2, h3⟩ := h
  have e : (gI σ 1 0).toInt = ((gI σ 1 0).toInt.toNat : Int) := by omega
  have s := s_vseen 1 σ (gI σ 1 0).toInt.toNat (by omega) e
  obtain ⟨b1, b2⟩ := vsum_b10 (f := sg σ 1) (gI σ 1 0).toInt.toNat (fun j hj => seenZ_rg (d.1 j (by omega)).2)
  have hp : (10 : Int) ^ (gI σ 1 0).toInt.toNat ≤ 10 ^ 12 := by
    rw [jpow, jpow]
    have : 10 ^ (gI σ 1 0).toInt.toNat ≤ 10 ^ 12 := Nat.pow_le_pow_right (by omega) (by omega)
    omega
  have e12 : (10 : Int) ^ 12 = 1000000000000 := by decide
  have e13 : 10 ^ 13 = 10000000000000 := by decide
  refine ⟨(vsum (sg σ 1) (gI σ 1 0).toInt.toNat).toNat, by omega, ?_, ?_⟩
  · rw [Int.toNat_of_nonneg b1]; exact s
  · rw [Int.toNat_of_nonneg b1]
    rw [s] at e1
    injection e1 with e1
    have e3 := congrArg Prod.fst e1
    have e4 : jZ (vsum (sg σ 1) (gI σ 1 0).toInt.toNat) = v := e3
    rw [e4]; exact e2
abbrev lkN (σ : St) (v w : Nat) : Nat := (lkV σ v w).toInt.toNat
theorem lk_nat {σ : St} (h : Rear σ) (v w : Nat) (hn9 : nd v ≤ 9) : lkV σ v w = jZ (lkN σ v w : Int) ∧ lkN σ v w ≤ 1000000000000000000 := by
  have hb : 0 ≤ (lkV σ v w).toInt ∧ (lkV σ v w).toInt ≤ 1000000000000000000 := by
    show 0 ≤ (if nd w ≤ nd v then jZ (prodF (fac σ v w) (nd v) * 100 ^ (9 - nd v)) else 0).toInt ∧ (if nd w ≤ nd v then jZ (prodF (fac σ v w) (nd v) * 100 ^ (9 - nd v)) else 0).toInt ≤ _
    by_cases q : nd w ≤ nd v
    · rw [if_pos q]
      obtain ⟨p1, p2⟩ := prod_rg h v w (nd v)
      obtain ⟨c1, c2⟩ := pow_le18 hn9
      generalize prodF (fac σ v w) (nd v) = P at p1 p2 ⊢
      have u1 : P * 100 ^ (9 - nd v) ≤ 1000000000000000000 := by
        rw [← c2]; exact Int.mul_le_mul_of_nonneg_right p2 (by omega)
      have u0 : 0 ≤ P * 100 ^ (9 - nd v) := Int.mul_nonneg p1 (by omega)
      generalize P * 100 ^ (9 - nd v) = Q at u1 u0 ⊢
      rw [jZ_toInt (by omega) (by omega)]
      exact ⟨u0, u1⟩
    · rw [if_neg q, l_0]; omega
  refine ⟨?_, ?_⟩
  · show lkV σ v w = jZ (((lkV σ v w).toInt.toNat : Nat) : Int)
    rw [Int.toNat_of_nonneg hb.1, jZ_self]
  · show (lkV σ v w).toInt.toNat ≤ _
    omega
def lkS (σ : St) (w : Nat) : Nat → Nat
  | 0 => 0
  | k + 1 => lkS σ w k + lkN σ (nv σ k) w
theorem lkS_le {σ : St} (w : Nat) (h : ∀ k, lkN σ (nv σ k) w ≤ 1000000000000000000) : ∀ k : Nat, lkS σ w k ≤ 1000000000000000000 * k
  | 0 => Nat.le_refl _
  | k + 1 => by
    have := lkS_le w h k
    have := h k
    show lkS σ w k + lkN σ (nv σ k) w ≤ _
    omega
theorem lkS_ge {σ : St} (w : Nat) : ∀ n k : Nat, k < n → lkN σ (nv σ k) w ≤ lkS σ w n
  | 0, k, h => by omega
  | n + 1, k, h => by
    show _ ≤ lkS σ w n + lkN σ (nv σ n) w
    by_cases c : k = n
    · subst c; omega
    · have := lkS_ge (σ := σ) w n k (by omega); omega
theorem c_odds_go {σ : St} (h : Rear σ) (r : Rhar σ) (w H x : Nat) (hw : w < 10 ^ 13) (hH : H ≤ 8) (hx : x < H) (hh : (gI σ 19 1).toInt = H) : ∀ m n k : Nat, k + m = H → m < n → f_X9_odds_44 n (iZ (x : Int)) (jZ (w : Int)) (jZ (lkS σ w k : Int)) (iZ (k : Int)) σ = some (if lkS σ w H = 0 then 0 else iZ ((lkN σ (nv σ x) w * 10 ^ 6 / lkS σ w H : Nat) : Int), σ) := by
  obtain ⟨r1, r2, r4, r5⟩ := r
  have e9 : 10 ^ 9 = 1000000000 := by decide
  have e18 : 10 ^ 18 = 1000000000000000000 := by decide
  have en : ∀ k, gI σ 20 k = iZ (nv σ k : Int) ∧ nv σ k < 10 ^ 9 := by
    intro k
    obtain ⟨v1, v2⟩ := r5 k
    exact ⟨iZof v1, by show (gI σ 20 k).toInt.toNat < _; omega⟩
  have ln : ∀ k, lkV σ (nv σ k) w = jZ (lkN σ (nv σ k) w : Int) ∧ lkN σ (nv σ k) w ≤ 1000000000000000000 := fun k => lk_nat h _ _ ((nd_le (by have := (en k).2; omega)).mpr (en k).2)
  have lk : ∀ k, f_X1_likely (gI σ 20 k) (jZ (w : Int)) σ = some (jZ (lkN σ (nv σ k) w : Int), σ) := by
    intro k
    refine Eq.trans (congrArg (fun z => f_X1_likely z _ σ) (en k).1) ?_
    rw [s_lk σ (nv σ k) w (en k).2 hw, (ln k).1]
  intro m
  induction m with
  | zero =>
    intro n k e hn
    cases n with
    | zero => omega
    | succ n =>
      have hk : k = H := by omega
      subst hk
      have sl := lkS_le (σ := σ) w (fun j => (ln j).2) k
      rw [f_X9_odds_44, if_pos (by rw [leI, hh, iZt (by omega)]; exact Int.le_refl _), gd_t (iZb (show x < 8 by omega) (by omega)), iZc (by omega), bnd (lk x)]
      rw [bnd (s_mil (by omega) (lkS_ge w k x hx) σ)]
  | succ m ih =>
    intro n k e hn
    cases n with
    | zero => omega
    | succ n =>
      rw [f_X9_odds_44, if_neg (by rw [leI, hh, iZt (by omega)]; omega), gd_t (iZb (show k < 8 by omega) (by omega)), iZc (by omega), bnd (lk k)]
      unfold f_X9_odds_79
      have ea : jZ (lkS σ w k : Int) + jZ (lkN σ (nv σ k) w : Int) = jZ (lkS σ w (k + 1) : Int) := by
        rw [jZ_add]; congr 1
      show f_X9_odds_44 n (iZ (x : Int)) (jZ (w : Int)) (jZ (lkS σ w k : Int) + jZ (lkN σ (nv σ k) w : Int)) (iZ (k : Int) + 1) σ = _
      rw [ea, iZs]
      exact ih n (k + 1) (by omega) (by omega)
theorem d_odds_go {σ : St} (h : Rear σ) (r : Rhar σ) (w H x : Nat) (hw : w < 10 ^ 13) (hH : H ≤ 8) (hx : x < H) (hh : (gI σ 38 33).toInt = H) : ∀ m n k : Nat, ∀ y : Int64, k + m = H → m < n → (x < k → y = jZ (lkN σ (nv σ x) w : Int)) → f_X10_odds_42 n (iZ (x : Int)) (jZ (w : Int)) (jZ (lkS σ w k : Int)) y (iZ (k : Int)) σ = some (if lkS σ w H = 0 then 0 else iZ ((lkN σ (nv σ x) w * 10 ^ 6 / lkS σ w H : Nat) : Int), σ) := by
  obtain ⟨r1, r2, r4, r5⟩ := r
  have e9 : 10 ^ 9 = 1000000000 := by decide
  have e18 : 10 ^ 18 = 1000000000000000000 := by decide
  have en : ∀ k, gI σ 20 k = iZ (nv σ k : Int) ∧ nv σ k < 10 ^ 9 := by
    intro k
    obtain ⟨v1, v2⟩ := r5 k
    exact ⟨iZof v1, by show (gI σ 20 k).toInt.toNat < _; omega⟩
  have n9 : ∀ k, nd (nv σ k) ≤ 9 := fun k => (nd_le (by have := (en k).2; omega)).mpr (en k).2
  have ln : ∀ k, lkV σ (nv σ k) w = jZ (lkN σ (nv σ k) w : Int) ∧ lkN σ (nv σ k) w ≤ 1000000000000000000 := fun k => lk_nat h _ _ (n9 k)
  have he : ∀ k, f_X10_heardAs (gI σ 20 k) (jZ (w : Int)) σ = some (heV σ (nv σ k) w, σ) := by
    intro k
    refine Eq.trans (congrArg (fun z => f_X10_heardAs z _ σ) (en k).1) ?_
    exact s_he σ (nv σ k) w (en k).2 hw h
  intro m
  induction m with
  | zero =>
    intro n k y e hn hy
    cases n with
    | zero => omega
    | succ n =>
      have hk : k = H := by omega
      subst hk
      have sl := lkS_le (σ := σ) w (fun j => (ln j).2) k
      rw [f_X10_odds_42, if_pos (by rw [leI, hh, iZt (by omega)]; exact Int.le_refl _), hy hx]
      unfold f_X10_odds_132
      have hc : (lg_cmp (jZ (lkS σ w k : Int)) 0 = 0) = (lkS σ w k = 0) := by
        rw [cmE, eJ, jZ_toInt (by omega) (by omega), l_0]
        exact propext (by omega)
      by_cases c : lkS σ w k = 0
      · rw [if_pos (hc.mpr c), if_pos c]
      · rw [if_neg (fun q => c (hc.mp q)), if_neg c, bnd (s_part_of (by omega) (by omega) (lkS_ge w k x hx) σ)]
  | succ m ih =>
    intro n k y e hn hy
    cases n with
    | zero => omega
    | succ n =>
      have b8 := iZb (show k < 8 by omega) (show 8 < 2147483648 by omega)
      have em : (18 : Int32) - 2 * iZ (nd (nv σ k) : Int) = iZ ((18 - 2 * nd (nv σ k) : Nat) : Int) := by
        have h18 : (18 : Int32) = iZ 18 := rfl
        have h2 : (2 : Int32) = iZ 2 := rfl
        have := n9 k
        rw [h18, h2, iZ_mul, iZ_sub]; congr 1; omega
      have ev : (gI σ 20 k).toInt64 = jZ (nv σ k : Int) := by rw [x64, Int.toNat_of_nonneg (r5 k).1]
      rw [f_X10_odds_42, if_neg (by rw [leI, hh, iZt (by omega)]; omega), gd_t b8, iZc (by omega), r4, bnd (he k)]
      show gd (inb (iZ (k : Int)) 8) ((f_X10_many (gI σ 54 k).toInt64 σ).bind fun p5 => (f_X10_ten (18 - 2 * p5.1) p5.2).bind fun p6 => f_X10_odds_86 (f_X10_odds_42 n) (iZ (x : Int)) (jZ (w : Int)) (jZ (lkS σ w k : Int)) y (iZ (k : Int)) (heV σ (nv σ k) w * p6.1) p6.2) = _
      rw [gd_t b8, r4, ev, bnd (s_many σ (nv σ k) (by have := (en k).2; omega))]
      show ((f_X10_ten (18 - 2 * iZ (nd (nv σ k) : Int)) σ).bind _) = _
      rw [em, bnd (s_ten σ (18 - 2 * nd (nv σ k)) (by omega))]
      have hu : heV σ (nv σ k) w * jZ (10 ^ (18 - 2 * nd (nv σ k))) = lkV σ (nv σ k) w := heard_up σ (nv σ k) w (n9 k)
      show f_X10_odds_86 (f_X10_odds_42 n) (iZ (x : Int)) (jZ (w : Int)) (jZ (lkS σ w k : Int)) y (iZ (k : Int)) (heV σ (nv σ k) w * jZ (10 ^ (18 - 2 * nd (nv σ k)))) σ = _
      rw [hu, (ln k).1]
      unfold f_X10_odds_86 f_X10_odds_93 f_X10_odds_106
      have ea : jZ (lkS σ w k : Int) + jZ (lkN σ (nv σ k) w : Int) = jZ (lkS σ w (k + 1) : Int) := by
        rw [jZ_add]; congr 1
      rw [ea, iZs]
      by_cases c : k = x
      · subst c
        rw [if_pos rfl]
        exact ih n (k + 1) _ (by omega) (by omega) (fun _ => rfl)
      · rw [if_neg (by rw [eI, iZt (by omega), iZt (by omega)]; omega)]
        exact ih n (k + 1) _ (by omega) (by omega) (fun q => hy (by omega))
theorem m_odds {σ : St} (x : Int32) (h : Rrop σ) (d : Rdig σ) (g : Rgoat σ) (ea : Rear σ) (r : Rhar σ) : ∃ a, f_X9_odds x σ = some (a, σ) ∧ f_X10_odds x σ = some (a, σ) := by
  have g4 := g.2.2.2.1
  obtain ⟨r2, r3⟩ := r.2.1
  have nt : ∀ {P : Prop} [Decidable P], P → ¬ (bZ P = 0) := fun h => by rw [bZ_0]; exact not_not_intro h
  have nf : ∀ {P : Prop} [Decidable P], ¬ P → bZ P = 0 := fun h => bZ_f h
  have hH : (gI σ 19 1).toInt = ((gI σ 19 1).toInt.toNat : Int) := by omega
  have eh : (((gI σ 38 33) - 1).toInt64).toInt = (gI σ 19 1).toInt - 1 := by
    rw [t64, r.1, tsub (by rw [t_1]; omega) (by rw [t_1]; omega), t_1]
  unfold f_X9_odds f_X9_odds_15 f_X10_odds
  rw [bnd (s_in _ _ _ σ), eh, t64, l_0]
  by_cases q : 0 ≤ x.toInt ∧ x.toInt < (gI σ 19 1).toInt
  · rw [if_neg (by rw [lI, t_0]; omega), if_pos (by rw [lI]; omega), if_neg (nt (by omega))]
    show ∃ a, _ ∧ (if gI σ 38 20 = 0 then _ else some (-2, σ)) = some (a, σ)
    rw [g4]
    by_cases f : gI σ 1 5 = 0
    · rw [if_pos f, if_pos f]
      obtain ⟨w, hw, e1, e2⟩ := seen_nat h d g f
      rw [bnd e1]
      have ex := iZof q.1
      have c := c_odds_go ea r w (gI σ 19 1).toInt.toNat x.toInt.toNat hw (by omega) (by omega) hH (gI σ 19 1).toInt.toNat FU 0 (by omega) (by unfold FU; omega)
      have m := d_odds_go ea r w (gI σ 19 1).toInt.toNat x.toInt.toNat hw (by omega) (by omega) (by rw [r.1]; exact hH) (gI σ 19 1).toInt.toNat FU 0 0 (by omega) (by unfold FU; omega) (fun c => by omega)
      refine ⟨if lkS σ w (gI σ 19 1).toInt.toNat = 0 then 0 else iZ ((lkN σ (nv σ x.toInt.toNat) w * 10 ^ 6 / lkS σ w (gI σ 19 1).toInt.toNat : Nat) : Int), ?_, ?_⟩
      · refine Eq.trans ?_ c
        exact congrArg (fun z => f_X9_odds_44 FU z (jZ (w : Int)) 0 0 σ) ex
      · show ((f_X10_seenNumber σ).bind _) = _
        rw [bnd e2]
        refine Eq.trans ?_ m
        exact congrArg (fun z => f_X10_odds_42 FU z (jZ (w : Int)) 0 0 0 σ) ex
    · rw [if_neg f, if_neg f]
      exact ⟨_, rfl, rfl⟩
  · rw [if_pos (nf (by omega))]
    refine ⟨-1, ?_, rfl⟩
    by_cases c : x < 0
    · rw [if_pos c]
    · rw [if_neg c, if_neg (by rw [lI, t_0] at c; rw [lI]; omega)]

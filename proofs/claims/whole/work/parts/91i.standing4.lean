/-! STANDING -/
theorem m_st_go {R v N ρ : Nat} {p q sh mi : Int32} {F D : Nat → Int32} {σ : St} (hρ : ρ < R) (hR : R ≤ 12) (hv : v < 10 ^ 9) (hsh : rg sh 0 9) (h12 : gI σ 38 12 = p) (hz : nzI (gI σ 38 12) = true) (h13 : gI σ 38 13 = q) (h14 : gI σ 38 14 = sh) (hN : N ≤ R) (hDF : ∀ j, j < 12 → gI σ 46 j = D j ∧ gI σ 44 j = F j) : ∀ m n r : Nat, ∀ s : Int32, r + m = ρ + 1 → m < n → f_X10_standingAt_17 n (iZ (v : Int)) (iZ (ρ : Int)) mi (iZ ((N : Int) - 1)) (cmS p q sh F D v N r) s (iZ (r : Int)) σ = some (if m = 0 then s else stM mi p (D ρ) (lgS p q sh F D v N ρ), σ) := by
  have e9 : 10 ^ 9 = 1000000000 := by decide
  have e18 : 10 ^ 18 = 1000000000000000000 := by decide
  have ev : (iZ (v : Int)).toInt64 = jZ (v : Int) := iZ_l (by omega) (by omega)
  intro m
  induction m with
  | zero =>
    intro n r s e hn
    cases n with
    | zero => omega
    | succ n =>
      rw [f_X10_standingAt_17, if_pos (by rw [lI, iZt (by omega), iZt (by omega)]; omega), if_pos rfl]
  | succ m ih =>
    intro n r s e hn
    cases n with
    | zero => omega
    | succ n =>
      obtain ⟨d1, d2⟩ := hDF r (by omega)
      have b19 := iZb (show r < 19 by omega) (show 19 < 2147483648 by omega)
      have eo : f_X10_digitOf (iZ (v : Int)).toInt64 (iZ (r : Int)) σ = some (dgI v r, σ) := by rw [ev]; exact s_digitOf10 σ v r (by omega) (by omega)
      have hh : ¬ sh * iZ (r : Int) = -1 := by
        have := h_rg hsh (show r < 12 by omega)
        unfold rg at this
        rw [eI, t_m1]; omega
      rw [f_X10_standingAt_17, if_neg (by rw [lI, iZt (by omega), iZt (by omega)]; omega), h14, if_neg (show ¬ m + 1 = 0 by omega)]
      have step : ∀ b : Bool, b = decide (r < N) → f_X10_standingAt_41 (f_X10_standingAt_17 n) (iZ (v : Int)) (iZ (ρ : Int)) mi (iZ ((N : Int) - 1)) (cmS p q sh F D v N r) (iZ (r : Int)) (if b then sh * iZ (r : Int) else -1) σ = some (stM mi p (D ρ) (lgS p q sh F D v N ρ), σ) := by
        intro b hb
        unfold f_X10_standingAt_41
        rw [Int32.zero_add, gd_t b19, iZc (show r < 2147483648 by omega), d1, m_rope54 (by omega) h12 hz h13 d2 eo (dg_rg v r) hh, iZs]
        have eo2 : ownI v N r = if b then dgI v r else -1 := by rw [hb]; exact own_b v N r
        rw [← eo2]
        have := ih n (r + 1) (stM mi p (D r) (lgS p q sh F D v N r)) (by omega) (by omega)
        refine Eq.trans this ?_
        by_cases c : m = 0
        · have er : r = ρ := by omega
          rw [if_pos c, er]
        · rw [if_neg c]
      by_cases c : r < N
      · have s1 := step true (by rw [decide_eq_true c])
        rw [if_pos rfl] at s1
        rw [if_neg (by rw [lI, iZ_toInt (by omega) (by omega), iZt (by omega)]; omega), s1]
      · have s1 := step false (by rw [decide_eq_false c])
        rw [if_neg Bool.false_ne_true] at s1
        rw [if_pos (by rw [lI, iZ_toInt (by omega) (by omega), iZt (by omega)]; omega), s1]
theorem m_standing {σ : St} (x y z : Int32) (a : Rset σ) (b : Rrop σ) (c : Rdig σ) (g : Rgoat σ) : ∃ r σ1 σ2, f_X9_standing x y z σ = some (r, σ1) ∧ f_X10_standing x y z σ1 = some (r, σ2) := by
  obtain ⟨a1, a2, a3, a4, a5, a6, a7, a8⟩ := a
  obtain ⟨b1, b2, b3⟩ := b
  have e9 : 10 ^ 9 = 1000000000 := by decide
  have e18 : 10 ^ 18 = 1000000000000000000 := by decide
  have hr : (gI σ 1 0).toInt = ((gI σ 1 0).toInt.toNat : Int) := by omega
  have hR : (gI σ 1 0).toInt.toNat ≤ 12 := by omega
  have eR : gI σ 1 0 = iZ ((gI σ 1 0).toInt.toNat : Int) := by rw [← hr, iZ_self]
  generalize (gI σ 1 0).toInt.toNat = R at hr hR eR
  have nt : ∀ {P : Prop} [Decidable P], P → ¬ (bZ P = 0) := fun h => by rw [bZ_0]; exact not_not_intro h
  have nf : ∀ {P : Prop} [Decidable P], ¬ P → bZ P = 0 := fun h => bZ_f h
  by_cases q : 0 ≤ x.toInt ∧ x.toInt ≤ 999999999
  · by_cases qy : 0 ≤ y.toInt ∧ y.toInt < (gI σ 1 0).toInt
    · by_cases qz : 0 ≤ z.toInt ∧ z.toInt ≤ 9999
      · have ex := iZof q.1
        have ey := iZof qy.1
        have hv : x.toInt.toNat < 10 ^ 9 := by omega
        have hρ : y.toInt.toNat < R := by omega
        have cy : y.toNatClampNeg = y.toInt.toNat := rfl
        obtain ⟨p2, e1, p5, h1⟩ := c_plan (σ := σ) hR hv eR g.2.1 (fun j hj => (c.1 j hj).2) (gI σ 0 15) (gI σ 0 16) (gI σ 0 17) a6
        have qs := (fr_X6_plan 1 e1).same (C := [1, 2, 44, 46]) (G := [(38, 1), (38, 12), (38, 13), (38, 14)]) rfl
        have pl := (h1 _ hρ).2
        have hz : nzI (gI p2 38 12) = true := by
          unfold rg at a6
          rw [qs.I 38 12, a2, ← iZ_self (gI σ 0 15)]
          exact iZ_nz (by omega) (by omega) (by omega)
        have dA := c_digitAt (mi := z) (d := gI σ 2 y.toInt.toNat) (show y.toInt.toNat < 12 by omega) p5 a6 (rlg_le _ _ _ _ _ _ _) pl 999997
        have sA := m_st_go (mi := z) (F := gI σ 3) (D := gI σ 2) (σ := p2) (p := gI σ 0 15) (q := gI σ 0 16) (sh := gI σ 0 17) hρ hR hv a8 (by rw [qs.I 38 12]; exact a2) hz (by rw [qs.I 38 13]; exact a3) (by rw [qs.I 38 14]; exact a4) (top_le x.toInt.toNat R hR) (fun j hj => ⟨by rw [qs.cI 46]; exact (c.1 j hj).1, by rw [qs.cI 44, g.1]⟩) (y.toInt.toNat + 1) FU 0 0 (by omega) (by unfold FU; omega)
        rw [if_neg (show ¬ y.toInt.toNat + 1 = 0 by omega), ← lgs_st (by omega) g.2.1 (fun j hj => (c.1 j hj).2) a6 a7 a8 qz] at sA
        rw [← fu3] at dA
        rw [← ex] at e1
        have ev : x.toInt64 = jZ (x.toInt.toNat : Int) := by rw [x64, Int.toNat_of_nonneg q.1]
        have m1 : f_X10_standingAt x y z p2 = some (stC z (gI σ 0 15) (gI σ 2 y.toInt.toNat) (lgS (gI σ 0 15) (gI σ 0 16) (gI σ 0 17) (gI σ 3) (gI σ 2) x.toInt.toNat (topN x.toInt.toNat R) y.toInt.toNat), p2) := by
          unfold f_X10_standingAt
          rw [ev, bnd (m_highest x.toInt.toNat (by omega) p2 R hR (by rw [qs.I 38 1, b1]; exact eR))]
          rw [← ex, ← ey] at sA
          exact sA
        refine ⟨stC z (gI σ 0 15) (gI σ 2 y.toInt.toNat) (lgS (gI σ 0 15) (gI σ 0 16) (gI σ 0 17) (gI σ 3) (gI σ 2) x.toInt.toNat (topN x.toInt.toNat R) y.toInt.toNat), p2, p2, ?_, ?_⟩
        · unfold f_X9_standing
          rw [bnd (s_isNumber x σ), if_neg (nt q), bnd (s_isRope9 y σ), if_neg (nt qy), if_neg (by rw [lI, t_0]; omega), if_pos (by rw [leI, t_9999]; omega), bnd e1, gd_t (inb_i qy.1 (by omega)), cy, qs.cI 2]
          have dA' : f_X6_digitAt y (gI σ 2 y.toInt.toNat) z p2 = some (stC z (gI σ 0 15) (gI σ 2 y.toInt.toNat) (lgS (gI σ 0 15) (gI σ 0 16) (gI σ 0 17) (gI σ 3) (gI σ 2) x.toInt.toNat (topN x.toInt.toNat R) y.toInt.toNat), p2) := Eq.trans (congrArg (fun w => f_X6_digitAt w (gI σ 2 y.toInt.toNat) z p2) ey) dA
          rw [bnd dA']
        · unfold f_X10_standing f_X10_standing_43
          rw [bnd (s_in _ _ _ p2), if_neg (nt (by rw [t64, l_0, l_999999999]; exact q)), bnd (s_isRope10 y p2 (by rw [qs.I 38 1, b1]; omega)), if_neg (nt (by rw [qs.I 38 1, b1]; exact qy)), bnd (s_in _ _ _ p2), if_neg (nt (by rw [t64, l_0, l_9999]; exact qz)), bnd m1]
      · refine ⟨-1, σ, σ, ?_, ?_⟩
        · unfold f_X9_standing f_X9_standing_26
          rw [bnd (s_isNumber x σ), if_neg (nt q), bnd (s_isRope9 y σ), if_neg (nt qy)]
          by_cases c2 : z < 0
          · rw [if_pos c2]
          · rw [if_neg c2, if_neg (by rw [lI, t_0] at c2; rw [leI, t_9999]; omega)]
        · unfold f_X10_standing f_X10_standing_42 f_X10_standing_43
          rw [bnd (s_in _ _ _ σ), if_neg (nt (by rw [t64, l_0, l_999999999]; exact q)), bnd (s_isRope10 y σ (by rw [b1]; omega)), if_neg (nt (by rw [b1]; exact qy)), bnd (s_in _ _ _ σ), if_pos (nf (by rw [t64, l_0, l_9999]; exact qz))]
    · refine ⟨-1, σ, σ, ?_, ?_⟩
      · unfold f_X9_standing f_X9_standing_26
        rw [bnd (s_isNumber x σ), if_neg (nt q), bnd (s_isRope9 y σ), if_pos (nf qy)]
      · unfold f_X10_standing f_X10_standing_42 f_X10_standing_43
        rw [bnd (s_in _ _ _ σ), if_neg (nt (by rw [t64, l_0, l_999999999]; exact q)), bnd (s_isRope10 y σ (by rw [b1]; omega)), if_pos (nf (by rw [b1]; exact qy))]
  · refine ⟨-1, σ, σ, ?_, ?_⟩
    · unfold f_X9_standing f_X9_standing_26
      rw [bnd (s_isNumber x σ), if_pos (nf q)]
    · unfold f_X10_standing f_X10_standing_42 f_X10_standing_43
      rw [bnd (s_in _ _ _ σ), if_pos (nf (by rw [t64, l_0, l_999999999]; exact q))]

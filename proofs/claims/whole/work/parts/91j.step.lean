/-! STEP -/
theorem m_step {X : En} {σ : St} (x y z : Int32) (hs : Rsum X σ) : (∃ σ2, g_L_step x y z X σ = some (1, jk X 1 6, σ) ∧ f_X10_step x y z σ = some (0, σ2) ∧ gI σ2 38 0 = 1) ∨ (∃ v σ2, g_L_step x y z X σ = some (0, X, sJ σ 71 0 v.toInt64) ∧ f_X10_step x y z (sJ σ 71 0 v.toInt64) = some (v, σ2) ∧ gI σ2 38 0 = 0) := by
  have nt : ∀ {P : Prop} [Decidable P], P → ¬ (bZ P = 0) := fun h => by rw [bZ_0]; exact not_not_intro h
  have nf : ∀ {P : Prop} [Decidable P], ¬ P → bZ P = 0 := fun h => bZ_f h
  have no : ∀ τ : St, gI τ 38 10 = gI σ 0 7 → gI τ 0 7 = gI σ 0 7 → f_X10_isSum x τ = some (bZ (0 ≤ x.toInt ∧ x.toInt < (gI σ 0 7).toInt), τ) := by
    intro τ a b
    rw [s_isSum (X := X) x (by rw [a, b]) (by rw [b]; exact hs.2.1), b]
  have thr : ∀ τ : St, f_X10_step_54 x y z τ = some (0, sI τ 38 0 1) := by
    intro τ
    unfold f_X10_step_54 f_X10_step_55 f_X10_step_68
    rw [if_pos rfl, if_pos rfl]
  have ret : ∀ τ : St, f_X10_step_50 x y z τ = f_X10_step_86 x y z (12 * x + y) (sI τ 38 0 0) := by
    intro τ
    unfold f_X10_step_50 f_X10_step_55 f_X10_step_68
    rw [if_neg (by rw [eI, t_1, t_0]; omega), if_neg (by rw [eI, t_1, t_0]; omega)]
  unfold g_L_step g_X9_step_b
  rw [bnd (s_sumAt x hs)]
  by_cases c : 0 ≤ x.toInt ∧ x.toInt < (gI σ 0 7).toInt
  · obtain ⟨h6a, h6b⟩ := hs.2.1
    obtain ⟨s, n, lt, vl, f, a1, a2, a3, a4, a5⟩ := hs.2.2 x.toInt.toNat (by omega)
    have ex := iZof c.1
    have hk6 : x.toInt.toNat < 6 := by omega
    have hk := rk_t (X := X) a3.1 (by have := a3.2.1; omega) a3.2.2.1
    have h12 := a3.2.2.2.2.2.2.1
    have e0 := a3.2.2.2.2.2.2.2.1
    have m43 := a4.2.1
    rw [if_pos c, a1]
    generalize x.toInt.toNat = k at ex hk6 a1 a4 m43
    have kc : x.toNatClampNeg = k := by rw [ex]; exact iZc (by omega)
    have t37 : (0 ≤ y.toInt ∧ y.toInt < n) ∧ (0 ≤ z.toInt ∧ z.toInt ≤ 2) → g_X9_step_37 s y z X σ = some (some (gI σ (s + 1) (3 * y.toInt.toNat + z.toInt.toNat)), X, σ) := by
      intro q
      unfold g_X9_step_37
      have ey := iZof q.1.1
      have ez := iZof q.2.1
      rw [gd_t hk, if_neg (by rw [lI, t_0]; omega), e0, if_neg (by rw [leI, iZt (by omega)]; omega), if_neg (by rw [lI, t_0]; omega), if_pos (by rw [leI, t_2]; omega)]
      have sp := s_part a3 y.toInt.toNat z.toInt.toNat (by omega) (by omega) z ez
      rw [← ey] at sp
      rw [bnd sp, gd_t hk]
    have f37 : ¬ ((0 ≤ y.toInt ∧ y.toInt < n) ∧ (0 ≤ z.toInt ∧ z.toInt ≤ 2)) → g_X9_step_37 s y z X σ = some (none, X, σ) := by
      intro q
      unfold g_X9_step_37 g_X9_step_59
      rw [gd_t hk]
      by_cases c1 : y < 0
      · rw [if_pos c1]
      · rw [if_neg c1, e0]
        by_cases c2 : iZ (n : Int) ≤ y
        · rw [if_pos c2]
        · rw [if_neg c2]
          by_cases c3 : z < 0
          · rw [if_pos c3]
          · rw [if_neg c3, if_neg (by
              rw [lI, t_0] at c1 c3
              rw [leI, iZt (by omega)] at c2
              rw [leI, t_2]; omega)]
    have md : ∀ τ : St, gI τ 38 10 = gI σ 0 7 → gI τ 0 7 = gI σ 0 7 → gI τ 43 k = iZ (n : Int) → f_X10_step x y z τ = if y = -1 then (if z = 0 then f_X10_step_50 x y z τ else f_X10_step_54 x y z τ) else if ¬ (0 ≤ y.toInt ∧ y.toInt ≤ (n : Int) - 1) then f_X10_step_54 x y z τ else if ¬ (0 ≤ z.toInt ∧ z.toInt ≤ 2) then f_X10_step_54 x y z τ else f_X10_step_50 x y z τ := by
      intro τ t1 t2 t3
      unfold f_X10_step
      rw [bnd (no τ t1 t2), if_neg (nt c)]
      by_cases cy : y = -1
      · rw [if_pos cy, if_pos cy]
      · rw [if_neg cy, if_neg cy, gd_t (inb_i c.1 (by omega)), kc]
        show ((f_X10_in y.toInt64 0 (gI τ 43 k - 1).toInt64 τ).bind _) = _
        rw [bnd (s_in _ _ _ τ), t3]
        have en : (iZ (n : Int) - 1).toInt64.toInt = (n : Int) - 1 := by
          rw [t64, tsub (by rw [iZt (by omega), t_1]; omega) (by rw [iZt (by omega), t_1]; omega), iZt (by omega), t_1]
        rw [en, t64, l_0]
        by_cases cy2 : 0 ≤ y.toInt ∧ y.toInt ≤ (n : Int) - 1
        · rw [if_neg (nt cy2), if_neg (not_not_intro cy2), bnd (s_in _ _ _ τ), t64, l_0, l_2]
          by_cases cz2 : 0 ≤ z.toInt ∧ z.toInt ≤ 2
          · rw [if_neg (nt cz2), if_neg (not_not_intro cz2)]
          · rw [if_pos (nf cz2), if_pos cz2]
        · rw [if_pos (nf cy2), if_pos cy2]
    by_cases cy : y = -1
    · by_cases cz : z = 0
      · right
        refine ⟨gI σ s 0, sI (sJ σ 71 0 (gI σ s 0).toInt64) 38 0 0, ?_, ?_, g_sI_eq⟩
        · show ((gd (rk (mk X) s 5) (if y = -1 then (if z = 0 then some (some (gI σ s 0), X, σ) else g_X9_step_37 s y z X σ) else g_X9_step_37 s y z X σ)).bind _) = _
          rw [gd_t hk, if_pos cy, if_pos cz]
          rfl
        · rw [md (sJ σ 71 0 (gI σ s 0).toInt64) hs.1 rfl m43, if_pos cy, if_pos cz, ret]
          unfold f_X10_step_86 f_X10_step_136
          rw [if_pos cy, gd_t (inb_i c.1 (by omega)), kc, g_sI_c (by omega), e0]
          show some (gI σ 43 k, _) = _
          rw [m43]
      · left
        refine ⟨sI σ 38 0 1, ?_, ?_, g_sI_eq⟩
        · show ((gd (rk (mk X) s 5) (if y = -1 then (if z = 0 then some (some (gI σ s 0), X, σ) else g_X9_step_37 s y z X σ) else g_X9_step_37 s y z X σ)).bind _) = _
          rw [gd_t hk, if_pos cy, if_neg cz, f37 (by rw [eI, t_m1] at cy; omega)]
          rfl
        · rw [md σ hs.1 rfl m43, if_pos cy, if_neg cz, thr]
    · by_cases q : (0 ≤ y.toInt ∧ y.toInt < n) ∧ (0 ≤ z.toInt ∧ z.toInt ≤ 2)
      · right
        have eyn : y.toInt.toNat < n := by omega
        obtain ⟨l1, l2, l3⟩ := a3.2.2.2.2.2.2.2.2 y.toInt.toNat eyn
        obtain ⟨r1, r2, r3⟩ := a4.2.2 y.toInt.toNat eyn
        refine ⟨gI σ (s + 1) (3 * y.toInt.toNat + z.toInt.toNat), sI (sJ σ 71 0 (gI σ (s + 1) (3 * y.toInt.toNat + z.toInt.toNat)).toInt64) 38 0 0, ?_, ?_, g_sI_eq⟩
        · show ((gd (rk (mk X) s 5) (if y = -1 then (if z = 0 then some (some (gI σ s 0), X, σ) else g_X9_step_37 s y z X σ) else g_X9_step_37 s y z X σ)).bind _) = _
          rw [gd_t hk, if_neg cy, t37 q]
          rfl
        · rw [md (sJ σ 71 0 (gI σ (s + 1) (3 * y.toInt.toNat + z.toInt.toNat)).toInt64) hs.1 rfl m43, if_neg cy, if_neg (not_not_intro (by omega)), if_neg (not_not_intro q.2), ret]
          have ey := iZof q.1.1
          have ei : 12 * x + y = iZ ((12 * k + y.toInt.toNat : Nat) : Int) := by
            rw [ex]
            refine Eq.trans (congrArg (fun w => 12 * iZ (k : Int) + w) ey) ?_
            have tw : (12 : Int32) * iZ (k : Int) = iZ ((12 * k : Nat) : Int) := iZm 12 k
            rw [tw, iZa]
          have hidx : 12 * k + y.toInt.toNat < 84 := by omega
          unfold f_X10_step_86 f_X10_step_136
          rw [if_neg cy, ei, gd_t (iZb hidx (by omega)), gd_t (iZb hidx (by omega)), gd_t (iZb hidx (by omega)), iZc (by omega), g_sI_c (by omega), g_sI_c (by omega), g_sI_c (by omega)]
          have hc : z = 0 ∨ z = 1 ∨ z = 2 := by
            simp only [eI, t_0, t_1, t_2, t_3, t_4, t_5, t_6, t_7, t_8, t_9, t_10, t_11, t_12, t_13, t_18, t_19, t_20, t_31, t_32, t_40, t_48, t_57, t_99, t_100, t_160, t_255, t_511, t_999, t_1000, t_9999, t_100000, t_999999999, t_2147483647, t_m1, t_m2, l_0, l_1, l_2, l_3, l_5, l_6, l_9, l_10, l_12, l_99, l_100, l_511, l_999, l_1000, l_9999, l_1000000, l_999999999, l_1000000000000, l_1000000000000000000, l_m1]; omega
          rcases hc with rfl | rfl | rfl
          · rw [if_pos rfl]
            show some (gI σ 40 _, _) = some (gI σ (s + 1) (3 * y.toInt.toNat + 0), _)
            rw [r1, Nat.add_zero (3 * y.toInt.toNat), l1]
          · rw [if_neg (by rw [eI, t_1, t_0]; omega), if_pos rfl]
            show some (gI σ 41 _, _) = some (gI σ (s + 1) (3 * y.toInt.toNat + 1), _)
            rw [r2, l2]
          · rw [if_neg (by rw [eI, t_2, t_0]; omega), if_neg (by rw [eI, t_2, t_1]; omega)]
            show some (gI σ 42 _, _) = some (gI σ (s + 1) (3 * y.toInt.toNat + 2), _)
            rw [r3, l3]
      · left
        refine ⟨sI σ 38 0 1, ?_, ?_, g_sI_eq⟩
        · show ((gd (rk (mk X) s 5) (if y = -1 then (if z = 0 then some (some (gI σ s 0), X, σ) else g_X9_step_37 s y z X σ) else g_X9_step_37 s y z X σ)).bind _) = _
          rw [gd_t hk, if_neg cy, f37 q]
          rfl
        · rw [md σ hs.1 rfl m43, if_neg cy]
          by_cases cy2 : 0 ≤ y.toInt ∧ y.toInt ≤ (n : Int) - 1
          · rw [if_neg (not_not_intro cy2), if_pos (by omega), thr]
          · rw [if_pos cy2, thr]
  · left
    refine ⟨sI σ 38 0 1, ?_, ?_, g_sI_eq⟩
    · rw [if_neg c]
      rfl
    · unfold f_X10_step
      rw [bnd (no σ hs.1 rfl), if_pos (nf c), thr]

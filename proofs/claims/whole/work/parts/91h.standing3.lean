/-! STANDING: the model's side -/
theorem m_turnS {σ : St} {p q G x1 own : Int32} {r : Nat} (hr : r < 12) (e12 : gI σ 38 12 = p) (hz : nzI (gI σ 38 12) = true) (e13 : gI σ 38 13 = q) (e44 : gI σ 44 r = G) (eo : f_X10_digitOf x1.toInt64 (iZ (r : Int)) σ = some (own, σ)) (K17 : Int32 → Int32 → Int32 → Int32 → Int32 → Int32 → Int32 → St → Option (Int32 × St)) (K93 : Int32 → Int32 → Int32 → Int32 → Int32 → Int32 → Int32 → Int32 → Int32 → Int32 → Int32 → Int32 → Int32 → St → Option (Int32 × St)) (x2 mi x4 x5 s x8 x12 x13 x14 y0 y : Int32) (hy : (x14 = 0 ∧ y = 1) ∨ (¬ x14 = 0 ∧ y = own)) (T : T3) : f_X10_standingAt_133 K17 K93 x1 x2 mi x4 x5 s (iZ (r : Int)) x8 T.1 T.2.1 T.2.2 x12 x13 x14 y0 σ = K93 x1 x2 mi x4 x5 (if y0 = -1 then s else upM mi p s (ent p G T y0 y)) (iZ (r : Int)) x8 (if y0 = -1 then T else dst p q G T y0 y).1 (if y0 = -1 then T else dst p q G T y0 y).2.1 (if y0 = -1 then T else dst p q G T y0 y).2.2 x12 (x13 + 1) σ := by
  unfold f_X10_standingAt_133
  by_cases c : y0 = -1
  · simp only [if_pos c]
    unfold f_X10_standingAt_291
    rfl
  · simp only [if_neg c]
    have b12 := iZb hr (show 12 < 2147483648 by omega)
    have core : ∀ y : Int32, f_X10_standingAt_159 K17 K93 x1 x2 mi x4 x5 s (iZ (r : Int)) x8 T.1 T.2.1 T.2.2 x12 x13 y0 y T.1 σ = K93 x1 x2 mi x4 x5 (upM mi p s (ent p G T y0 y)) (iZ (r : Int)) x8 (dst p q G T y0 y).1 (dst p q G T y0 y).2.1 (dst p q G T y0 y).2.2 x12 (x13 + 1) σ := by
      intro y
      unfold f_X10_standingAt_159 f_X10_standingAt_162 f_X10_standingAt_179 f_X10_standingAt_191 f_X10_standingAt_200 f_X10_standingAt_228 f_X10_standingAt_245 f_X10_standingAt_248 f_X10_standingAt_266 f_X10_standingAt_285 f_X10_standingAt_291
      rw [gd_t b12, gd_t b12, iZc (show r < 2147483648 by omega), e44, gd_t hz, gd_t hz, e12, e13]
      unfold dst dsf upM gnM ent dsv
      by_cases c2 : T.1 + y ≤ 9
      · simp only [if_pos c2, mx_sw T.2.1 y0, Int32.mul_comm p]
        by_cases c3 : mnI (T.1 + y) G ≤ T.1
        · simp only [if_pos c3]
        · simp only [if_neg c3]
      · simp only [if_neg c2, mx_sw T.2.1 y0, Int32.mul_comm p]
        by_cases c3 : mnI (T.1 + y - 10) G ≤ T.1
        · simp only [if_pos c3]
        · simp only [if_neg c3]
    rcases hy with ⟨c3, e3⟩ | ⟨c3, e3⟩
    · rw [if_pos c3, e3]
      exact core 1
    · rw [if_neg c3, bnd eo, e3]
      exact core own
theorem m_rope93 {σ : St} {p q G x1 own : Int32} {r : Nat} (hr : r < 12) (e12 : gI σ 38 12 = p) (hz : nzI (gI σ 38 12) = true) (e13 : gI σ 38 13 = q) (e44 : gI σ 44 r = G) (eo : f_X10_digitOf x1.toInt64 (iZ (r : Int)) σ = some (own, σ)) (K17 : Int32 → Int32 → Int32 → Int32 → Int32 → Int32 → Int32 → St → Option (Int32 × St)) (n : Nat) (x2 mi x4 x5 s x8 x12 : Int32) (h9 : x12 = 0 ∨ x12 = 1) (T : T3) : f_X10_standingAt_93 K17 (n + 1 + 1 + 1) x1 x2 mi x4 x5 s (iZ (r : Int)) x8 T.1 T.2.1 T.2.2 x12 0 σ = (if x12 = 0 then K17 x1 x2 mi x4 (if x8 = -1 then (if x5 = -1 then T else dst p q G T x5 1) else dst p q G (if x5 = -1 then T else dst p q G T x5 1) x8 own).2.2 (if x8 = -1 then (if x5 = -1 then s else upM mi p s (ent p G T x5 1)) else upM mi p (if x5 = -1 then s else upM mi p s (ent p G T x5 1)) (ent p G (if x5 = -1 then T else dst p q G T x5 1) x8 own)) (iZ (r : Int) + 1) σ else K17 x1 x2 mi x4 (if x5 = -1 then (if x8 = -1 then T else dst p q G T x8 own) else dst p q G (if x8 = -1 then T else dst p q G T x8 own) x5 1).2.2 (if x5 = -1 then (if x8 = -1 then s else upM mi p s (ent p G T x8 own)) else upM mi p (if x8 = -1 then s else upM mi p s (ent p G T x8 own)) (ent p G (if x8 = -1 then T else dst p q G T x8 own) x5 1)) (iZ (r : Int) + 1) σ) := by
  have n20 : ¬ (2 : Int32) ≤ 0 := by rw [leI, t_2, t_0]; omega
  have n21 : ¬ (2 : Int32) ≤ 0 + 1 := by rw [leI]; show ¬ (2 : Int) ≤ 1; omega
  have n22 : (2 : Int32) ≤ 0 + 1 + 1 := by rw [leI]; exact Int.le_refl _
  have z1 : ¬ ((0 : Int32) + 1 = 0) := by rw [eI]; show ¬ (1 : Int) = 0; omega
  have n10 : ¬ (1 : Int32) = 0 := by rw [eI, t_1, t_0]; omega
  rw [f_X10_standingAt_93, if_neg n20, if_pos rfl]
  unfold f_X10_standingAt_109 f_X10_standingAt_119
  rcases h9 with h9 | h9
  · subst h9
    rw [if_neg n10, if_pos rfl, m_turnS hr e12 hz e13 e44 eo _ _ _ _ _ _ _ _ _ _ _ _ 1 (Or.inl ⟨rfl, rfl⟩), if_pos rfl]
    generalize (if x5 = -1 then T else dst p q G T x5 1) = T1
    generalize (if x5 = -1 then s else upM mi p s (ent p G T x5 1)) = s1
    rw [f_X10_standingAt_93, if_neg n21, if_neg z1]
    unfold f_X10_standingAt_109 f_X10_standingAt_119
    rw [if_pos rfl, if_neg n10, m_turnS hr e12 hz e13 e44 eo _ _ _ _ _ _ _ _ _ _ _ _ own (Or.inr ⟨n10, rfl⟩)]
    rw [f_X10_standingAt_93, if_pos n22]
  · subst h9
    rw [if_pos rfl, if_neg n10, m_turnS hr e12 hz e13 e44 eo _ _ _ _ _ _ _ _ _ _ _ _ own (Or.inr ⟨n10, rfl⟩), if_neg n10]
    generalize (if x8 = -1 then T else dst p q G T x8 own) = T1
    generalize (if x8 = -1 then s else upM mi p s (ent p G T x8 own)) = s1
    rw [f_X10_standingAt_93, if_neg n21, if_neg z1]
    unfold f_X10_standingAt_109 f_X10_standingAt_119
    rw [if_neg (by rw [eI, t_1, t_0]; omega), if_pos rfl, m_turnS hr e12 hz e13 e44 eo _ _ _ _ _ _ _ _ _ _ _ _ 1 (Or.inl ⟨rfl, rfl⟩)]
    rw [f_X10_standingAt_93, if_pos n22]
theorem m_rope54 {σ : St} {p q G x1 own h cm d : Int32} {r : Nat} (hr : r < 12) (e12 : gI σ 38 12 = p) (hz : nzI (gI σ 38 12) = true) (e13 : gI σ 38 13 = q) (e44 : gI σ 44 r = G) (eo : f_X10_digitOf x1.toInt64 (iZ (r : Int)) σ = some (own, σ)) (hn : rg own 0 9) (hh : ¬ h = -1) (K17 : Int32 → Int32 → Int32 → Int32 → Int32 → Int32 → Int32 → St → Option (Int32 × St)) (x2 mi x4 : Int32) (b : Bool) : f_X10_standingAt_54 K17 x1 x2 mi x4 cm (iZ (r : Int)) (if b then h else -1) d σ = K17 x1 x2 mi x4 (rpl p q G h (if b then own else -1) cm d).2.2 (stM mi p d (rlg p q G h (if b then own else -1) cm d)) (iZ (r : Int) + 1) σ := by
  have ono : ¬ own = -1 := by unfold rg at hn; rw [eI, t_m1]; omega
  unfold f_X10_standingAt_54 f_X10_standingAt_87 f_X10_standingAt_83 f_X10_standingAt_88 rpl rlg stM
  rw [fu3]
  have n1 : ¬ (1 : Nat) = 0 := by omega
  have n2 : ¬ (2 : Nat) = 0 := by omega
  have n3 : ¬ (2 : Nat) = 1 := by omega
  cases b with
  | false =>
    simp only [Bool.false_eq_true, if_false, if_true]
    have w := m_rope93 hr e12 hz e13 e44 eo K17 999997 x2 mi x4 cm d (-1) 0 (Or.inl rfl) (d, 0, -1)
    rw [if_pos rfl, if_pos rfl, if_pos rfl] at w
    refine Eq.trans w ?_
    by_cases cc : cm = -1
    · simp only [if_pos cc, if_true]
    · simp only [if_neg cc, if_neg n1, if_true]
  | true =>
    simp only [if_true, if_neg hh, if_neg ono]
    by_cases cc : cm = -1
    · simp only [if_pos cc]
      have w := m_rope93 hr e12 hz e13 e44 eo K17 999997 x2 mi x4 cm d h 1 (Or.inr rfl) (d, 0, -1)
      rw [if_neg (by rw [eI, t_1, t_0]; omega), if_pos cc, if_pos cc, if_neg hh, if_neg hh] at w
      refine Eq.trans w ?_
      simp only [if_neg n1, if_true]
    · simp only [if_neg cc]
      by_cases ch : cm < h
      · simp only [if_pos ch]
        have w := m_rope93 hr e12 hz e13 e44 eo K17 999997 x2 mi x4 cm d h 0 (Or.inl rfl) (d, 0, -1)
        rw [if_pos rfl, if_neg hh, if_neg hh, if_neg cc, if_neg cc] at w
        refine Eq.trans w ?_
        simp only [if_neg n2, if_neg n3]
      · simp only [if_neg ch]
        have w := m_rope93 hr e12 hz e13 e44 eo K17 999997 x2 mi x4 cm d h 1 (Or.inr rfl) (d, 0, -1)
        rw [if_neg (by rw [eI, t_1, t_0]; omega), if_neg cc, if_neg cc, if_neg hh, if_neg hh] at w
        refine Eq.trans w ?_
        simp only [if_neg n2, if_neg n3]

/-! DONE, alike -/
theorem c_plan {σ : St} {R v : Nat} (hR : R ≤ 12) (hv : v < 10 ^ 9) (eR : gI σ 1 0 = iZ (R : Int)) (hF : okF (gI σ 3)) (hD : ∀ j, j < 12 → rg (gI σ 2 j) 0 9) (p q sh : Int32) (hp : rg p 1 9) : ∃ σ', f_X6_plan 1 (iZ (v : Int)) p q sh σ = some σ' ∧ gI σ' 21 5 = p ∧ (∀ j, j < R → gI σ' 26 j = (rpS p q sh (gI σ 3) (gI σ 2) v (topN v R) j).2.1 ∧ isLog σ' j (lgS p q sh (gI σ 3) (gI σ 2) v (topN v R) j)) := by
  have ep : mxI 1 p = p := by
    unfold mxI
    unfold rg at hp
    by_cases c : (1 : Int32) < p
    · rw [if_pos c]
    · rw [if_neg c]
      rw [lI, t_1] at c
      rw [eI, t_1]; omega
  have ht := top_le v R hR
  unfold f_X6_plan
  rw [ep]
  generalize hτ : sI (sI (sI σ 21 5 p) 21 6 q) 21 7 sh = τ
  have tc : ∀ a, a ≠ 21 → gI τ a = gI σ a := fun a ha => by rw [← hτ, g_sI_c ha, g_sI_c ha, g_sI_c ha]
  have t5 : gI τ 21 5 = p := by rw [← hτ, g_sI_ne (by omega), g_sI_ne (by omega), g_sI_eq]
  have t6 : gI τ 21 6 = q := by rw [← hτ, g_sI_ne (by omega), g_sI_eq]
  have t7 : gI τ 21 7 = sh := by rw [← hτ, g_sI_eq]
  have t1 : gI τ 1 0 = iZ (R : Int) := by rw [tc 1 (by omega)]; exact eR
  rw [bnd (c_topRope t1 hR v hv)]
  obtain ⟨σ', e1, h1, h2⟩ := c_plan_go (p := p) (q := q) (sh := sh) (F := gI σ 3) (D := gI σ 2) hR hv ht hF hD R FU 0 τ (by omega) (by unfold FU; omega) t1 t5 t6 t7 (fun j hj => ⟨by rw [tc 2 (by omega)], by rw [tc 3 (by omega)]⟩) (fun j hj => by omega)
  exact ⟨σ', e1, h2, h1⟩
/-- the model's rope -/
theorem m_rope84 {σ : St} {p q G x1 own : Int32} {r : Nat} (hr : r < 12) (e12 : gI σ 38 12 = p) (e13 : gI σ 38 13 = q) (e44 : gI σ 44 r = G) (eo : f_X10_digitOf x1.toInt64 (iZ (r : Int)) σ = some (own, σ)) (K12 : Int32 → Int32 → Int32 → Int32 → St → Option (St)) (n : Nat) (x2 x3 x5 x9 : Int32) (h9 : x9 = 0 ∨ x9 = 1) (T : T3) : ∃ T2 : T3, f_X10_workAll_84 K12 (n + 1 + 1 + 1) x1 x2 x3 (iZ (r : Int)) x5 T.1 T.2.1 T.2.2 x9 0 σ = K12 x1 x2 T2.2.2 (iZ (r : Int) + 1) (sI σ 51 r T2.2.1) ∧ T2 = if x9 = 0 then (if x5 = -1 then (if x3 = -1 then T else dst p q G T x3 1) else dst p q G (if x3 = -1 then T else dst p q G T x3 1) x5 own) else (if x3 = -1 then (if x5 = -1 then T else dst p q G T x5 own) else dst p q G (if x5 = -1 then T else dst p q G T x5 own) x3 1) := by
  have b12 := iZb hr (show 12 < 2147483648 by omega)
  have n20 : ¬ (2 : Int32) ≤ 0 := by rw [leI, t_2, t_0]; omega
  have n21 : ¬ (2 : Int32) ≤ 0 + 1 := by rw [leI]; show ¬ (2 : Int) ≤ 1; omega
  have n22 : (2 : Int32) ≤ 0 + 1 + 1 := by rw [leI]; exact Int.le_refl _
  have z1 : ¬ ((0 : Int32) + 1 = 0) := by rw [eI]; show ¬ (1 : Int) = 0; omega
  rw [f_X10_workAll_84, if_neg n20, if_pos rfl]
  unfold f_X10_workAll_100 f_X10_workAll_110
  have n10 : ¬ (1 : Int32) = 0 := (by rw [eI, t_1, t_0]; omega)
  rcases h9 with h9 | h9
  · subst h9
    rw [if_neg n10, if_pos rfl, m_turn hr e12 e13 e44 eo _ _ _ _ _ _ _ _ _ 1 (Or.inl ⟨rfl, rfl⟩)]
    generalize hT1 : (if x3 = -1 then T else dst p q G T x3 1) = T1
    rw [f_X10_workAll_84, if_neg n21, if_neg z1]
    unfold f_X10_workAll_100 f_X10_workAll_110
    rw [if_pos rfl, if_neg n10, m_turn hr e12 e13 e44 eo _ _ _ _ _ _ _ _ _ own (Or.inr ⟨n10, rfl⟩)]
    generalize hT2 : (if x5 = -1 then T1 else dst p q G T1 x5 own) = T2
    rw [f_X10_workAll_84, if_pos n22, gd_t b12, iZc (show r < 2147483648 by omega)]
    refine ⟨T2, rfl, ?_⟩
    rw [if_pos rfl]
  · subst h9
    rw [if_pos rfl, if_neg n10, m_turn hr e12 e13 e44 eo _ _ _ _ _ _ _ _ _ own (Or.inr ⟨n10, rfl⟩)]
    generalize hT1 : (if x5 = -1 then T else dst p q G T x5 own) = T1
    rw [f_X10_workAll_84, if_neg n21, if_neg z1]
    unfold f_X10_workAll_100 f_X10_workAll_110
    rw [if_neg (by rw [eI, t_1, t_0]; omega), if_pos rfl, m_turn hr e12 e13 e44 eo _ _ _ _ _ _ _ _ _ 1 (Or.inl ⟨rfl, rfl⟩)]
    generalize hT2 : (if x3 = -1 then T1 else dst p q G T1 x3 1) = T2
    rw [f_X10_workAll_84, if_pos n22, gd_t b12, iZc (show r < 2147483648 by omega)]
    refine ⟨T2, rfl, ?_⟩
    rw [if_neg n10]
theorem fu3 : FU = 999997 + 1 + 1 + 1 := rfl
theorem m_rope51 {σ : St} {p q G x1 own h cm d : Int32} {r : Nat} (hr : r < 12) (e12 : gI σ 38 12 = p) (e13 : gI σ 38 13 = q) (e44 : gI σ 44 r = G) (eo : f_X10_digitOf x1.toInt64 (iZ (r : Int)) σ = some (own, σ)) (hn : rg own 0 9) (hh : ¬ h = -1) (K12 : Int32 → Int32 → Int32 → Int32 → St → Option (St)) (x2 : Int32) (b : Bool) : f_X10_workAll_51 K12 x1 x2 cm (iZ (r : Int)) (if b then h else -1) d σ = K12 x1 x2 (rpl p q G h (if b then own else -1) cm d).2.2 (iZ (r : Int) + 1) (sI σ 51 r (rpl p q G h (if b then own else -1) cm d).2.1) := by
  have ono : ¬ own = -1 := by unfold rg at hn; rw [eI, t_m1]; omega
  unfold f_X10_workAll_51 f_X10_workAll_78 f_X10_workAll_74 f_X10_workAll_79 rpl
  rw [fu3]
  cases b with
  | false =>
    simp only [Bool.false_eq_true, if_false, if_true]
    obtain ⟨T2, e1, e2⟩ := m_rope84 hr e12 e13 e44 eo K12 999997 x2 cm (-1) 0 (Or.inl rfl) (d, 0, -1)
    rw [if_pos rfl, if_pos rfl] at e2
    refine Eq.trans e1 ?_
    rw [e2]
  | true =>
    simp only [if_true, if_neg hh, if_neg ono]
    by_cases cc : cm = -1
    · simp only [if_pos cc]
      obtain ⟨T2, e1, e2⟩ := m_rope84 hr e12 e13 e44 eo K12 999997 x2 cm h 1 (Or.inr rfl) (d, 0, -1)
      rw [if_neg (by rw [eI, t_1, t_0]; omega), if_pos cc, if_neg hh] at e2
      refine Eq.trans e1 ?_
      rw [e2]
    · simp only [if_neg cc]
      by_cases ch : cm < h
      · simp only [if_pos ch]
        obtain ⟨T2, e1, e2⟩ := m_rope84 hr e12 e13 e44 eo K12 999997 x2 cm h 0 (Or.inl rfl) (d, 0, -1)
        rw [if_pos rfl, if_neg hh, if_neg cc] at e2
        refine Eq.trans e1 ?_
        rw [e2]
      · simp only [if_neg ch]
        obtain ⟨T2, e1, e2⟩ := m_rope84 hr e12 e13 e44 eo K12 999997 x2 cm h 1 (Or.inr rfl) (d, 0, -1)
        rw [if_neg (by rw [eI, t_1, t_0]; omega), if_neg cc, if_neg hh] at e2
        refine Eq.trans e1 ?_
        rw [e2]
theorem own_b (v N r : Nat) : ownI v N r = if decide (r < N) then dgI v r else -1 := by
  unfold ownI
  by_cases c : r < N
  · simp only [c, decide_true, if_true]
  · simp only [c, decide_false, Bool.false_eq_true, if_false]
theorem m_work_go {R v N : Nat} {p q sh : Int32} {F D : Nat → Int32} (hR : R ≤ 12) (hv : v < 10 ^ 9) (hN : N ≤ R) (hsh : rg sh 0 9) : ∀ m n r : Nat, ∀ σ : St, r + m = R → m < n → gI σ 38 1 = iZ (R : Int) → gI σ 38 12 = p → gI σ 38 13 = q → gI σ 38 14 = sh → (∀ j, j < 12 → gI σ 46 j = D j ∧ gI σ 44 j = F j) → (∀ j, j < r → gI σ 51 j = (rpS p q sh F D v N j).2.1) → ∃ σ', f_X10_workAll_12 n (iZ (v : Int)) (iZ ((N : Int) - 1)) (cmS p q sh F D v N r) (iZ (r : Int)) σ = some σ' ∧ (∀ j, j < R → gI σ' 51 j = (rpS p q sh F D v N j).2.1) ∧ gI σ' 38 1 = iZ (R : Int) := by
  have e9 : 10 ^ 9 = 1000000000 := by decide
  have e18 : 10 ^ 18 = 1000000000000000000 := by decide
  have ev : (iZ (v : Int)).toInt64 = jZ (v : Int) := iZ_l (by omega) (by omega)
  intro m
  induction m with
  | zero =>
    intro n r σ e hn hr _ _ _ _ hl
    cases n with
    | zero => omega
    | succ n =>
      have : r = R := by omega
      subst this
      rw [f_X10_workAll_12, if_pos (by rw [hr, leI]; exact Int.le_refl _)]
      exact ⟨σ, rfl, hl, hr⟩
  | succ m ih =>
    intro n r σ e hn hr h12 h13 h14 hDF hl
    cases n with
    | zero => omega
    | succ n =>
      obtain ⟨d1, d2⟩ := hDF r (by omega)
      have b19 := iZb (show r < 19 by omega) (show 19 < 2147483648 by omega)
      have eo : f_X10_digitOf (iZ (v : Int)).toInt64 (iZ (r : Int)) σ = some (dgI v r, σ) := by rw [ev]; exact s_digitOf10 σ v r (by omega) (by omega)
      have hh : ¬ sh * iZ (r : Int) = -1 := by
        unfold rg at hsh
        have hm1 : 0 ≤ sh.toInt * (r : Int) := Int.mul_nonneg (by omega) (by omega)
        have hm2 : sh.toInt * (r : Int) ≤ 9 * (r : Int) := Int.mul_le_mul_of_nonneg_right (by omega) (by omega)
        rw [eI, t_m1, tmul (by rw [iZt (by omega)]; omega) (by rw [iZt (by omega)]; omega), iZt (by omega)]
        omega
      rw [f_X10_workAll_12, if_neg (by rw [hr, leI, iZt (by omega), iZt (by omega)]; omega), h14]
      have step : ∀ b : Bool, b = decide (r < N) → f_X10_workAll_38 (f_X10_workAll_12 n) (iZ (v : Int)) (iZ ((N : Int) - 1)) (cmS p q sh F D v N r) (iZ (r : Int)) (if b then sh * iZ (r : Int) else -1) σ = f_X10_workAll_12 n (iZ (v : Int)) (iZ ((N : Int) - 1)) (cmS p q sh F D v N (r + 1)) (iZ ((r + 1 : Nat) : Int)) (sI σ 51 r (rpS p q sh F D v N r).2.1) := by
        intro b hb
        unfold f_X10_workAll_38
        rw [Int32.zero_add, gd_t b19, iZc (show r < 2147483648 by omega), d1, m_rope51 (by omega) h12 h13 d2 eo (dg_rg v r) hh, iZs]
        have eo2 : ownI v N r = if b then dgI v r else -1 := by rw [hb]; exact own_b v N r
        rw [← eo2]
        rfl
      have goal : ∃ σ', f_X10_workAll_12 n (iZ (v : Int)) (iZ ((N : Int) - 1)) (cmS p q sh F D v N (r + 1)) (iZ ((r + 1 : Nat) : Int)) (sI σ 51 r (rpS p q sh F D v N r).2.1) = some σ' ∧ (∀ j, j < R → gI σ' 51 j = (rpS p q sh F D v N j).2.1) ∧ gI σ' 38 1 = iZ (R : Int) := by
        refine ih n (r + 1) _ (by omega) (by omega) ?_ ?_ ?_ ?_ ?_ ?_
        · rw [g_sI_c (by omega)]; exact hr
        · rw [g_sI_c (by omega)]; exact h12
        · rw [g_sI_c (by omega)]; exact h13
        · rw [g_sI_c (by omega)]; exact h14
        · intro j hj
          rw [g_sI_c (by omega), g_sI_c (by omega)]; exact hDF j hj
        · intro j hj
          by_cases c : j = r
          · subst c; rw [g_sI_eq]
          · rw [g_sI_ne (by omega)]; exact hl j (by omega)
      by_cases c : r < N
      · have s1 := step true (by rw [decide_eq_true c])
        rw [if_pos rfl] at s1
        rw [if_neg (by rw [lI, iZ_toInt (by omega) (by omega), iZt (by omega)]; omega), s1]
        exact goal
      · have s1 := step false (by rw [decide_eq_false c])
        rw [if_neg Bool.false_ne_true] at s1
        rw [if_pos (by rw [lI, iZ_toInt (by omega) (by omega), iZt (by omega)]; omega), s1]
        exact goal
def mxF (f : Nat → Int32) : Nat → Nat → Int32 → Int32
  | 0, _, x => x
  | m + 1, k, x => mxF f m (k + 1) (mxI x (f k))
theorem c_last_go {R : Nat} (hR : R ≤ 12) (σ : St) : ∀ m n k : Nat, ∀ x : Int32, k + m = R → m < n → f_X6_lastRest_4 n (iZ (R : Int)) x (iZ (k : Int)) σ = some (mxF (gI σ 26) m k x, σ) := by
  intro m
  induction m with
  | zero =>
    intro n k x e hn
    cases n with
    | zero => omega
    | succ n =>
      rw [f_X6_lastRest_4, if_pos (by rw [leI, iZt (by omega), iZt (by omega)]; omega)]
      rfl
  | succ m ih =>
    intro n k x e hn
    cases n with
    | zero => omega
    | succ n =>
      rw [f_X6_lastRest_4, if_neg (by rw [leI, iZt (by omega), iZt (by omega)]; omega), if_neg (by rw [leI, t_12, iZt (by omega)]; omega), gd_t (iZb (show k < 12 by omega) (by omega)), iZc (by omega)]
      unfold f_X6_lastRest_26
      rw [iZs, ih n (k + 1) _ (by omega) (by omega)]
      rfl
theorem m_last_go {R : Nat} (hR : R ≤ 12) {σ : St} (hr : gI σ 38 1 = iZ (R : Int)) (y : Int32) (hy : y = -1 ∨ (0 ≤ y.toInt ∧ y.toInt < 12)) : ∀ m n k : Nat, ∀ x : Int32, k + m = R → m < n → f_X10_done_37 n y x (iZ (k : Int)) σ = some (if y = -1 then mxF (gI σ 51) m k x else gI σ 51 y.toInt.toNat, σ) := by
  intro m
  induction m with
  | zero =>
    intro n k x e hn
    cases n with
    | zero => omega
    | succ n =>
      rw [f_X10_done_37, if_pos (by rw [hr, leI, iZt (by omega), iZt (by omega)]; omega)]
      unfold f_X10_done_79
      by_cases c : y = -1
      · rw [if_pos c, if_pos c]; rfl
      · rcases hy with hy | hy
        · exact absurd hy c
        · rw [if_neg c, if_neg c, gd_t (inb_i hy.1 (by omega))]; rfl
  | succ m ih =>
    intro n k x e hn
    cases n with
    | zero => omega
    | succ n =>
      rw [f_X10_done_37, if_neg (by rw [hr, leI, iZt (by omega), iZt (by omega)]; omega), gd_t (iZb (show k < 12 by omega) (by omega)), iZc (by omega)]
      unfold f_X10_done_58
      rw [iZs, ih n (k + 1) _ (by omega) (by omega)]
      rfl
theorem mxF_cg {f g : Nat → Int32} : ∀ m k : Nat, ∀ x : Int32, (∀ j, k ≤ j → j < k + m → f j = g j) → mxF f m k x = mxF g m k x
  | 0, _, _, _ => rfl
  | m + 1, k, x, h => by
    rw [mxF, mxF, h k (by omega) (by omega), mxF_cg m (k + 1) _ (fun j h1 h2 => h j (by omega) (by omega))]

/-! TO ADD OR TAKE, heard as told -/
theorem p12 {k : Nat} (h : k ≤ 12) : 10 ^ k ≤ 1000000000000 := by
  have : 10 ^ k ≤ 10 ^ 12 := Nat.pow_le_pow_right (by omega) h
  have e : 10 ^ 12 = 1000000000000 := by decide
  omega
abbrev dgN (v k : Nat) : Nat := v / 10 ^ k % 10
abbrev dgI (v k : Nat) : Int32 := iZ (dgN v k : Int)
theorem dg_rg (v k : Nat) : rg (dgI v k) 0 9 := by
  have : v / 10 ^ k % 10 < 10 := Nat.mod_lt _ (by omega)
  unfold rg dgI dgN
  rw [iZt (by omega)]; omega
abbrev topN (v R : Nat) : Nat := nd (v % 10 ^ R)
theorem top_le (v R : Nat) (hR : R ≤ 12) : topN v R ≤ R := by
  have h1 := p12 hR
  have h2 : v % 10 ^ R < 10 ^ R := Nat.mod_lt _ (Nat.pow_pos (by omega))
  have e18 : 10 ^ 18 = 1000000000000000000 := by decide
  exact (nd_le (by omega)).mpr h2
theorem c_topRope {o R : Nat} {σ : St} (h : gI σ o 0 = iZ (R : Int)) (hR : R ≤ 12) (v : Nat) (hv : v < 10 ^ 9) : f_X7_topRope o (iZ (v : Int)) σ = some (iZ ((topN v R : Int) - 1), σ) := by
  have e9 : 10 ^ 9 = 1000000000 := by decide
  have e13 : 10 ^ 13 = 10000000000000 := by decide
  have hp := p12 hR
  have hp0 : 0 < 10 ^ R := Nat.pow_pos (by omega)
  have hm : v % 10 ^ R < 10 ^ R := Nat.mod_lt _ hp0
  have ev : (iZ (v : Int)).toInt64 = jZ (v : Int) := iZ_l (by omega) (by omega)
  unfold f_X7_topRope
  rw [h, gd_t (iZb (show R < 13 by omega) (by omega)), iZc (show R < 2147483648 by omega), tens_jZ (by omega), jpow, ev]
  have ht := s_top σ (v % 10 ^ R) (by omega)
  have em : (v : Int) % ((10 ^ R : Nat) : Int) = ((v % 10 ^ R : Nat) : Int) := (Int.natCast_emod _ _).symm
  rw [gd_t (jZ_nz (by omega) (by omega) (by omega)), jZ_rm (by omega) (by omega) (by omega) (by omega), em, ht]
  rfl
theorem turn_lt {x : Int32} {N m : Nat} (h : m < N) : turnR x N (N - (m + 1)) < N := by
  unfold turnR
  split <;> omega
theorem turn_iZ {x : Int32} {N m : Nat} (h : m < N) : (if x = 0 then iZ ((N - (m + 1) : Nat) : Int) else iZ ((N : Int) - 1) - iZ ((N - (m + 1) : Nat) : Int)) = iZ (turnR x N (N - (m + 1)) : Int) := by
  unfold turnR
  by_cases c : x = 0
  · rw [if_pos c, if_pos c]
  · rw [if_neg c, if_neg c, iZ_sub]; congr 1; omega
def sgZ (x y : Int32) : Int32 := if x = 0 then y else -y
theorem c_bringn_go {o R : Nat} {F : Nat → Int32} (hR : R ≤ 12) (v N : Nat) (hv : v < 10 ^ 9) (hN : N ≤ R) (x2 x3 : Int32) : ∀ m n : Nat, ∀ σ : St, ∀ V : Vl, m ≤ N → m < n → relC o R F σ V → ∃ σ', f_X7_bring_n_34 o n (iZ (v : Int)) x2 x3 (iZ ((N : Int) - 1)) (iZ ((N - m : Nat) : Int)) σ = some σ' ∧ relC o R F σ' (bringV F R (fun _ r => sgZ x2 (dgI v r)) x3 N m V) := by
  have e9 : 10 ^ 9 = 1000000000 := by decide
  have e18 : 10 ^ 18 = 1000000000000000000 := by decide
  have ev : (iZ (v : Int)).toInt64 = jZ (v : Int) := iZ_l (by omega) (by omega)
  intro m
  induction m with
  | zero =>
    intro n σ V e hn h
    cases n with
    | zero => omega
    | succ n =>
      rw [f_X7_bring_n_34, if_pos (by rw [lI, iZ_toInt (by omega) (by omega), iZt (by omega)]; omega)]
      exact ⟨_, rfl, h⟩
  | succ m ih =>
    intro n σ V e hn h
    cases n with
    | zero => omega
    | succ n =>
      rw [f_X7_bring_n_34, if_neg (by rw [lI, iZ_toInt (by omega) (by omega), iZt (by omega)]; omega)]
      have ht := turn_iZ (x := x3) (show m < N by omega)
      have hl := turn_lt (x := x3) (show m < N by omega)
      have ek : ∀ y : Int32, f_X7_bring_n_55 o (f_X7_bring_n_34 o n) (iZ (v : Int)) x2 x3 (iZ ((N : Int) - 1)) (iZ ((N - (m + 1) : Nat) : Int)) y σ = f_X7_bring_n_55 o (f_X7_bring_n_34 o n) (iZ (v : Int)) x2 x3 (iZ ((N : Int) - 1)) (iZ ((N - (m + 1) : Nat) : Int)) y σ := fun _ => rfl
      have eq : (if x3 = 0 then f_X7_bring_n_55 o (f_X7_bring_n_34 o n) (iZ (v : Int)) x2 x3 (iZ ((N : Int) - 1)) (iZ ((N - (m + 1) : Nat) : Int)) (iZ ((N - (m + 1) : Nat) : Int)) σ else f_X7_bring_n_55 o (f_X7_bring_n_34 o n) (iZ (v : Int)) x2 x3 (iZ ((N : Int) - 1)) (iZ ((N - (m + 1) : Nat) : Int)) (iZ ((N : Int) - 1) - iZ ((N - (m + 1) : Nat) : Int)) σ) = f_X7_bring_n_55 o (f_X7_bring_n_34 o n) (iZ (v : Int)) x2 x3 (iZ ((N : Int) - 1)) (iZ ((N - (m + 1) : Nat) : Int)) (iZ (turnR x3 N (N - (m + 1)) : Int)) σ := by
        rw [← ht]; split <;> rfl
      rw [eq]
      show ∃ σ', _ ∧ relC o R F σ' (bringV F R (fun _ r => sgZ x2 (dgI v r)) x3 N m (driveV F (R - turnR x3 N (N - (m + 1))) (turnR x3 N (N - (m + 1))) (sgZ x2 (dgI v (turnR x3 N (N - (m + 1))))) V))
      generalize turnR x3 N (N - (m + 1)) = r at hl ⊢
      unfold f_X7_bring_n_55 f_X7_bring_n_87 f_X7_bring_n_104
      rw [ev, s_digitOf9 σ v r (by omega) (by omega)]
      simp only [Option.bind_some]
      obtain ⟨σ', e1, h1⟩ := c_drive hR h r (by omega) (sgZ x2 (dgI v r))
      have e2 : iZ ((N - (m + 1) : Nat) : Int) + 1 = iZ ((N - m : Nat) : Int) := by
        rw [iZs]; congr 2; omega
      unfold sgZ at e1
      by_cases c : x2 = 0
      · rw [if_pos c] at e1 ⊢
        simp only [e1, Option.bind_some, e2]
        exact ih n _ _ (by omega) (by omega) h1
      · rw [if_neg c] at e1 ⊢
        simp only [e1, Option.bind_some, e2]
        exact ih n _ _ (by omega) (by omega) h1
def ovIf (v R : Nat) (V : Vl) : Vl := if v < 10 ^ R then V else ovV V
theorem c_bring_n {o R : Nat} {F : Nat → Int32} {σ : St} {V : Vl} (hR : R ≤ 12) (h : relC o R F σ V) (v : Nat) (hv : v < 10 ^ 9) (x2 x3 : Int32) : ∃ σ', f_X7_bring_n o (iZ (v : Int)) x2 x3 σ = some σ' ∧ relC o R F σ' (bringV F R (fun _ r => sgZ x2 (dgI v r)) x3 (topN v R) (topN v R) (ovIf v R V)) := by
  have e9 : 10 ^ 9 = 1000000000 := by decide
  have hp := p12 hR
  have ev : (iZ (v : Int)).toInt64 = jZ (v : Int) := iZ_l (by omega) (by omega)
  have ht := top_le v R hR
  unfold f_X7_bring_n f_X7_bring_n_24
  rw [h.1, gd_t (iZb (show R < 13 by omega) (by omega)), iZc (show R < 2147483648 by omega), tens_jZ (by omega), ev, jpow]
  have hc : (lg_cmp (jZ (v : Int)) (jZ ((10 ^ R : Nat) : Int)) < 0) = (v < 10 ^ R) := by
    generalize 10 ^ R = P at hp ⊢
    rw [cmL, jZ_lt (by omega) (by omega) (by omega) (by omega)]
    exact propext (by omega)
  simp only [hc]
  have go : ∀ σ V, relC o R F σ V → ∃ σ', ((f_X7_topRope o (iZ (v : Int)) σ).bind fun p1 => f_X7_bring_n_34 o FU (iZ (v : Int)) x2 x3 p1.1 0 p1.2) = some σ' ∧ relC o R F σ' (bringV F R (fun _ r => sgZ x2 (dgI v r)) x3 (topN v R) (topN v R) V) := by
    intro σ V h
    rw [c_topRope h.1 hR v hv]
    simp only [Option.bind_some]
    have := c_bringn_go (o := o) (F := F) hR v (topN v R) hv ht x2 x3 (topN v R) FU σ V (by omega) (by unfold FU; omega) h
    rw [Nat.sub_self] at this
    exact this
  unfold ovIf
  by_cases c : v < 10 ^ R
  · rw [if_pos c, if_pos c]; exact go σ V h
  · rw [if_neg c, if_neg c]; exact go _ _ h.ov
/-- the model's -/
theorem mod_succ (v r : Nat) : v % 10 ^ (r + 1) = v % 10 ^ r + 10 ^ r * dgN v r := by
  rw [Nat.pow_succ, Nat.mod_mul]
theorem m_highest_go (v : Nat) (hv : v < 10 ^ 18) (σ : St) (R : Nat) (hR : R ≤ 12) (h : gI σ 38 1 = iZ (R : Int)) : ∀ m n r : Nat, r + m = R → m < n → f_X10_highest_5 n (jZ (v : Int)) (iZ ((topN v r : Int) - 1)) (iZ (r : Int)) σ = some (iZ ((topN v R : Int) - 1), σ) := by
  intro m
  induction m with
  | zero =>
    intro n r e hn
    cases n with
    | zero => omega
    | succ n =>
      have hr : r = R := by omega
      subst hr
      rw [f_X10_highest_5, if_pos (by rw [h, leI]; exact Int.le_refl _)]
  | succ m ih =>
    intro n r e hn
    cases n with
    | zero => omega
    | succ n =>
      rw [f_X10_highest_5, if_neg (by rw [h, leI, iZt (by omega), iZt (by omega)]; omega), s_digitOf10 σ v r hv (by omega)]
      unfold f_X10_highest_29
      have hd : dgN v r < 10 := Nat.mod_lt _ (by omega)
      simp only [Option.bind_some, iZs, leI, t_0]
      rw [iZt (show v / 10 ^ r % 10 < 2147483648 by omega)]
      have hs := ih n (r + 1) (by omega) (by omega)
      have hm := mod_succ v r
      have hp := p12 (show r + 1 ≤ 12 by omega)
      have hp0 : 0 < 10 ^ r := Nat.pow_pos (by omega)
      have hlt : v % 10 ^ (r + 1) < 10 ^ (r + 1) := Nat.mod_lt _ (Nat.pow_pos (by omega))
      have e18 : 10 ^ 18 = 1000000000000000000 := by decide
      by_cases c : dgN v r = 0
      · rw [if_pos (by show ((dgN v r : Nat) : Int) ≤ 0; omega)]
        have hm2 : v % 10 ^ (r + 1) = v % 10 ^ r := by rw [hm, c, Nat.mul_zero]; rfl
        have et : topN v (r + 1) = topN v r := by unfold topN; rw [hm2]
        rw [et] at hs; exact hs
      · rw [if_neg (by show ¬ ((dgN v r : Nat) : Int) ≤ 0; omega)]
        have h1 : topN v (r + 1) ≤ r + 1 := (nd_le (by omega)).mpr hlt
        have h2 : ¬ topN v (r + 1) ≤ r := by
          intro q
          have := (nd_le (v := v % 10 ^ (r + 1)) (by omega)).mp q
          have h3 : 10 ^ r * 1 ≤ 10 ^ r * dgN v r := Nat.mul_le_mul_left _ (by omega)
          omega
        have et : topN v (r + 1) = r + 1 := by omega
        rw [et] at hs
        have e2 : ((r + 1 : Nat) : Int) - 1 = (r : Int) := by omega
        rw [e2] at hs; exact hs
theorem m_highest (v : Nat) (hv : v < 10 ^ 18) (σ : St) (R : Nat) (hR : R ≤ 12) (h : gI σ 38 1 = iZ (R : Int)) : f_X10_highest (jZ (v : Int)) σ = some (iZ ((topN v R : Int) - 1), σ) := by
  have := m_highest_go v hv σ R hR h R FU 0 (by omega) (by unfold FU; omega)
  have e : topN v 0 = 0 := by
    unfold topN
    rw [Nat.pow_zero, Nat.mod_one]
    decide
  rw [e] at this
  exact this
theorem m_lost_go (v : Nat) (hv : v < 10 ^ 9) (σ : St) (R : Nat) (x2 x3 : Int32) : ∀ m n r : Nat, R ≤ r → r + m = 10 → m < n → f_X10_addOf_27 n (iZ (v : Int)) x2 x3 (bZ (¬ v % 10 ^ r < 10 ^ R)) (iZ (r : Int)) σ = f_X10_addOf_80 (iZ (v : Int)) x2 x3 (bZ (¬ v < 10 ^ R)) (gI σ 46 15) 15 σ := by
  have e9 : 10 ^ 9 = 1000000000 := by decide
  have e18 : 10 ^ 18 = 1000000000000000000 := by decide
  have ev : (iZ (v : Int)).toInt64 = jZ (v : Int) := iZ_l (by omega) (by omega)
  intro m
  induction m with
  | zero =>
    intro n r hr e hn
    cases n with
    | zero => omega
    | succ n =>
      have er : r = 10 := by omega
      subst er
      have e10 : 10 ^ 10 = 10000000000 := by decide
      have em : v % 10 ^ 10 = v := Nat.mod_eq_of_lt (by omega)
      rw [f_X10_addOf_27, if_pos (by rw [leI, iZt (by omega), t_10]; omega), em]
      simp only [bZ_0, n_15]
      by_cases c : v < 10 ^ R
      · rw [if_pos (not_not_intro c), bZ_f (not_not_intro c)]
      · rw [if_neg (not_not_intro c), bZ_t c]
  | succ m ih =>
    intro n r hr e hn
    cases n with
    | zero => omega
    | succ n =>
      rw [f_X10_addOf_27, if_neg (by rw [leI, iZt (by omega), t_10]; omega), ev, s_digitOf10 σ v r (by omega) (by omega)]
      unfold f_X10_addOf_49 f_X10_addOf_54
      have hd : dgN v r < 10 := Nat.mod_lt _ (by omega)
      simp only [Option.bind_some, iZs, leI, t_0, bZ_0]
      rw [iZt (show v / 10 ^ r % 10 < 2147483648 by omega)]
      have hs := ih n (r + 1) (by omega) (by omega) (by omega)
      have hm := mod_succ v r
      have hpr : 10 ^ R ≤ 10 ^ r := Nat.pow_le_pow_right (by omega) hr
      by_cases c0 : v % 10 ^ r < 10 ^ R
      · rw [if_pos (not_not_intro c0)]
        by_cases c : dgN v r = 0
        · rw [if_pos (by show ((dgN v r : Nat) : Int) ≤ 0; omega)]
          have hm2 : v % 10 ^ (r + 1) = v % 10 ^ r := by rw [hm, c, Nat.mul_zero]; rfl
          rw [hm2, bZ_f (not_not_intro c0)] at hs
          exact hs
        · rw [if_neg (by show ¬ ((dgN v r : Nat) : Int) ≤ 0; omega)]
          have h3 : 10 ^ r * 1 ≤ 10 ^ r * dgN v r := Nat.mul_le_mul_left _ (by omega)
          rw [bZ_t (show ¬ v % 10 ^ (r + 1) < 10 ^ R by omega)] at hs
          exact hs
      · rw [if_neg (not_not_intro c0)]
        have h3 : 0 ≤ 10 ^ r * dgN v r := Nat.zero_le _
        rw [bZ_t (show ¬ v % 10 ^ (r + 1) < 10 ^ R by omega)] at hs
        exact hs
theorem m_lost (v : Nat) (hv : v < 10 ^ 9) (σ : St) (R : Nat) (hR : R ≤ 12) (x2 x3 : Int32) : f_X10_addOf_27 FU (iZ (v : Int)) x2 x3 0 (iZ (R : Int)) σ = f_X10_addOf_80 (iZ (v : Int)) x2 x3 (bZ (¬ v < 10 ^ R)) (gI σ 46 15) 15 σ := by
  have e9 : 10 ^ 9 = 1000000000 := by decide
  by_cases c : R ≤ 10
  · have := m_lost_go v hv σ R x2 x3 (10 - R) FU R (by omega) (by omega) (by unfold FU; omega)
    rw [bZ_f (not_not_intro (Nat.mod_lt v (Nat.pow_pos (by omega))))] at this
    exact this
  · have h1 : 10 ^ 9 ≤ 10 ^ R := Nat.pow_le_pow_right (by omega) (by omega)
    have ef : FU = 999999 + 1 := rfl
    rw [ef, f_X10_addOf_27, if_pos (by rw [leI, iZt (by omega), t_10]; omega), if_pos rfl, bZ_f (not_not_intro (by omega)), n_15]
theorem relM.nz {R : Nat} {F : Nat → Int32} {p q a t : Int32} {σ : St} {V : Vl} (h : relM R F p q a t σ V) (x : Int32) (hx : x = gI σ 46 15) : relM R F p q a t (sI σ 46 15 x) V := by
  obtain ⟨h0, hp, hq, h1, hf, h2, h3, h4, h5, h6, h7, h8⟩ := h
  refine ⟨?_, ?_, ?_, ?_, ?_, ?_, ?_, ?_, ?_, ?_, ?_, ?_⟩
  · simp [gI_sI, gI_sJ, gI_sR, gJ_sI, gJ_sJ, gJ_sR, gR_sI, gR_sJ, gR_sR, h0]
  · simp [gI_sI, gI_sJ, gI_sR, gJ_sI, gJ_sJ, gJ_sR, gR_sI, gR_sJ, gR_sR, hp]
  · simp [gI_sI, gI_sJ, gI_sR, gJ_sI, gJ_sJ, gJ_sR, gR_sI, gR_sJ, gR_sR, hq]
  · intro j hj
    obtain ⟨b1, b2⟩ := h1 j hj
    have j15 : ¬ j = 15 := by omega
    simp [gI_sI, gI_sJ, gI_sR, gJ_sI, gJ_sJ, gJ_sR, gR_sI, gR_sJ, gR_sR, b1, b2, j15]
  · simpa [gI_sI, gI_sJ, gI_sR, gJ_sI, gJ_sJ, gJ_sR, gR_sI, gR_sJ, gR_sR] using hf
  · simp [gI_sI, gI_sJ, gI_sR, gJ_sI, gJ_sJ, gJ_sR, gR_sI, gR_sJ, gR_sR, h2]
  · simp [gI_sI, gI_sJ, gI_sR, gJ_sI, gJ_sJ, gJ_sR, gR_sI, gR_sJ, gR_sR, h3]
  · simp [gI_sI, gI_sJ, gI_sR, gJ_sI, gJ_sJ, gJ_sR, gR_sI, gR_sJ, gR_sR, h4]
  · simp [gI_sI, gI_sJ, gI_sR, gJ_sI, gJ_sJ, gJ_sR, gR_sI, gR_sJ, gR_sR, hx, h5]
  · simp [gI_sI, gI_sJ, gI_sR, gJ_sI, gJ_sJ, gJ_sR, gR_sI, gR_sJ, gR_sR, h6]
  · simp [gI_sI, gI_sJ, gI_sR, gJ_sI, gJ_sJ, gJ_sR, gR_sI, gR_sJ, gR_sR, h7]
  · simp [gI_sI, gI_sJ, gI_sR, gJ_sI, gJ_sJ, gJ_sR, gR_sI, gR_sJ, gR_sR, h8]
theorem relM.ac {R : Nat} {F : Nat → Int32} {p q a t : Int32} {σ : St} {V : Vl} (h : relM R F p q a t σ V) : relM R F p q (a + 1) t (sI σ 46 18 (gI σ 46 18 + 1)) V := by
  obtain ⟨h0, hp, hq, h1, hf, h2, h3, h4, h5, h6, h7, h8⟩ := h
  refine ⟨?_, ?_, ?_, ?_, ?_, ?_, ?_, ?_, ?_, ?_, ?_, ?_⟩
  · simp [gI_sI, gI_sJ, gI_sR, gJ_sI, gJ_sJ, gJ_sR, gR_sI, gR_sJ, gR_sR, h0]
  · simp [gI_sI, gI_sJ, gI_sR, gJ_sI, gJ_sJ, gJ_sR, gR_sI, gR_sJ, gR_sR, hp]
  · simp [gI_sI, gI_sJ, gI_sR, gJ_sI, gJ_sJ, gJ_sR, gR_sI, gR_sJ, gR_sR, hq]
  · intro j hj
    obtain ⟨b1, b2⟩ := h1 j hj
    have j15 : ¬ j = 18 := by omega
    simp [gI_sI, gI_sJ, gI_sR, gJ_sI, gJ_sJ, gJ_sR, gR_sI, gR_sJ, gR_sR, b1, b2, j15]
  · simpa [gI_sI, gI_sJ, gI_sR, gJ_sI, gJ_sJ, gJ_sR, gR_sI, gR_sJ, gR_sR] using hf
  · simp [gI_sI, gI_sJ, gI_sR, gJ_sI, gJ_sJ, gJ_sR, gR_sI, gR_sJ, gR_sR, h2]
  · simp [gI_sI, gI_sJ, gI_sR, gJ_sI, gJ_sJ, gJ_sR, gR_sI, gR_sJ, gR_sR, h3]
  · simp [gI_sI, gI_sJ, gI_sR, gJ_sI, gJ_sJ, gJ_sR, gR_sI, gR_sJ, gR_sR, h4]
  · simp [gI_sI, gI_sJ, gI_sR, gJ_sI, gJ_sJ, gJ_sR, gR_sI, gR_sJ, gR_sR, h5]
  · simp [gI_sI, gI_sJ, gI_sR, gJ_sI, gJ_sJ, gJ_sR, gR_sI, gR_sJ, gR_sR, h6]
  · simp [gI_sI, gI_sJ, gI_sR, gJ_sI, gJ_sJ, gJ_sR, gR_sI, gR_sJ, gR_sR, h7]
  · simp [gI_sI, gI_sJ, gI_sR, gJ_sI, gJ_sJ, gJ_sR, gR_sI, gR_sJ, gR_sR, h8]
theorem m_addn_go {R : Nat} {F : Nat → Int32} {p q a t : Int32} (hR : R ≤ 12) (hF : okF F) (v N : Nat) (hv : v < 10 ^ 9) (hN : N ≤ R) (x2 x3 : Int32) (hs : x2 = 1 ∨ x2 = -1) : ∀ m n : Nat, ∀ σ : St, ∀ V : Vl, m ≤ N → m < n → okD V → gI σ 38 11 = x3 → ¬ gI σ 38 21 = 0 → relM R F p q a t σ V → ∃ σ', f_X10_addOf_85 n (iZ (v : Int)) x2 (iZ ((N : Int) - 1)) (iZ ((N - m : Nat) : Int)) σ = some σ' ∧ relM R F p q (a + 1) t σ' (bringV F R (fun _ r => x2 * dgI v r) x3 N m V) ∧ okD (bringV F R (fun _ r => x2 * dgI v r) x3 N m V) ∧ gJ σ' 38 18 = gJ σ 38 18 := by
  have e9 : 10 ^ 9 = 1000000000 := by decide
  have e18 : 10 ^ 18 = 1000000000000000000 := by decide
  have ev : (iZ (v : Int)).toInt64 = jZ (v : Int) := iZ_l (by omega) (by omega)
  intro m
  induction m with
  | zero =>
    intro n σ V e hn ok ho hp h
    cases n with
    | zero => omega
    | succ n =>
      rw [f_X10_addOf_85, if_pos (by rw [lI, iZ_toInt (by omega) (by omega), iZt (by omega)]; omega), n_18]
      exact ⟨_, rfl, h.ac, ok, rfl⟩
  | succ m ih =>
    intro n σ V e hn ok ho hp h
    cases n with
    | zero => omega
    | succ n =>
      rw [f_X10_addOf_85, if_neg (by rw [lI, iZ_toInt (by omega) (by omega), iZt (by omega)]; omega), ho]
      have ht := turn_iZ (x := x3) (show m < N by omega)
      have hl := turn_lt (x := x3) (show m < N by omega)
      have eq : (if x3 = 0 then f_X10_addOf_107 (f_X10_addOf_85 n) (iZ (v : Int)) x2 (iZ ((N : Int) - 1)) (iZ ((N - (m + 1) : Nat) : Int)) (iZ ((N - (m + 1) : Nat) : Int)) σ else f_X10_addOf_107 (f_X10_addOf_85 n) (iZ (v : Int)) x2 (iZ ((N : Int) - 1)) (iZ ((N - (m + 1) : Nat) : Int)) (iZ ((N : Int) - 1) - iZ ((N - (m + 1) : Nat) : Int)) σ) = f_X10_addOf_107 (f_X10_addOf_85 n) (iZ (v : Int)) x2 (iZ ((N : Int) - 1)) (iZ ((N - (m + 1) : Nat) : Int)) (iZ (turnR x3 N (N - (m + 1)) : Int)) σ := by
        rw [← ht]; split <;> rfl
      rw [eq]
      show ∃ σ', _ ∧ relM R F p q (a + 1) t σ' (bringV F R (fun _ r => x2 * dgI v r) x3 N m (driveV F (R - turnR x3 N (N - (m + 1))) (turnR x3 N (N - (m + 1))) (x2 * dgI v (turnR x3 N (N - (m + 1)))) V)) ∧ okD (bringV F R (fun _ r => x2 * dgI v r) x3 N m (driveV F (R - turnR x3 N (N - (m + 1))) (turnR x3 N (N - (m + 1))) (x2 * dgI v (turnR x3 N (N - (m + 1)))) V)) ∧ _
      generalize turnR x3 N (N - (m + 1)) = r at hl ⊢
      unfold f_X10_addOf_107 f_X10_heard
      rw [ev, s_digitOf10 σ v r (by omega) (by omega)]
      simp only [Option.bind_some, if_neg hp]
      obtain ⟨σ', e1, h1, ok1⟩ := m_drive hR hF ok h r (by omega) (dgI v r) (dg_rg v r) x2 hs
      have e2 : iZ ((N - (m + 1) : Nat) : Int) + 1 = iZ ((N - m : Nat) : Int) := by
        rw [iZs]; congr 2; omega
      simp only [e1, Option.bind_some, e2]
      have sm := (fr_X10_drive e1).same (C := []) (G := [(38, 11), (38, 21), (38, 18)]) rfl
      rw [← sm.J 38 18]
      exact ih n _ _ (by omega) (by omega) ok1 (by rw [sm.I 38 11]; exact ho) (by rw [sm.I 38 21]; exact hp) h1
theorem m_addn {R : Nat} {F : Nat → Int32} {p q a t : Int32} {σ : St} {V : Vl} (hR : R ≤ 12) (hF : okF F) (ok : okD V) (h : relM R F p q a t σ V) (v : Nat) (hv : v < 10 ^ 9) (x2 x3 : Int32) (hs : x2 = 1 ∨ x2 = -1) (ho : gI σ 38 11 = x3) (hp : ¬ gI σ 38 21 = 0) : ∃ σ', f_X10_addOf (iZ (v : Int)) x2 σ = some σ' ∧ relM R F p q (a + 1) t σ' (bringV F R (fun _ r => x2 * dgI v r) x3 (topN v R) (topN v R) (ovIf v R V)) ∧ okD (bringV F R (fun _ r => x2 * dgI v r) x3 (topN v R) (topN v R) (ovIf v R V)) ∧ gJ σ' 38 18 = gJ σ 38 18 := by
  have e9 : 10 ^ 9 = 1000000000 := by decide
  have e18 : 10 ^ 18 = 1000000000000000000 := by decide
  have ev : (iZ (v : Int)).toInt64 = jZ (v : Int) := iZ_l (by omega) (by omega)
  have ht := top_le v R hR
  unfold f_X10_addOf f_X10_addOf_11
  rw [if_neg hp, ev, m_highest v (by omega) σ R hR h.1]
  simp only [Option.bind_some]
  rw [h.1, m_lost v hv σ R hR]
  unfold f_X10_addOf_80
  have b15 : inb (15 : Int32) 19 = true := rfl
  rw [gd_t b15, n_15]
  have go : ∀ σ' V', okD V' → gI σ' 38 11 = x3 → ¬ gI σ' 38 21 = 0 → relM R F p q a t σ' V' → ∃ σ'', f_X10_addOf_85 FU (iZ (v : Int)) x2 (iZ ((topN v R : Int) - 1)) 0 σ' = some σ'' ∧ relM R F p q (a + 1) t σ'' (bringV F R (fun _ r => x2 * dgI v r) x3 (topN v R) (topN v R) V') ∧ okD (bringV F R (fun _ r => x2 * dgI v r) x3 (topN v R) (topN v R) V') ∧ gJ σ'' 38 18 = gJ σ' 38 18 := by
    intro σ' V' ok' ho' hp' h'
    have := m_addn_go (a := a) (t := t) (p := p) (q := q) hR hF v (topN v R) hv ht x2 x3 hs (topN v R) FU σ' V' (by omega) (by unfold FU; omega) ok' ho' hp' h'
    rw [Nat.sub_self] at this
    exact this
  unfold ovIf
  by_cases c : v < 10 ^ R
  · rw [bZ_f (not_not_intro c), if_pos c]
    exact go _ _ ok (by rw [g_sI_c (by omega)]; exact ho) (by rw [g_sI_c (by omega)]; exact hp) (h.nz _ (Int32.add_zero _))
  · rw [bZ_t c, if_neg c]
    exact go _ _ ok (by rw [g_sI_c (by omega)]; exact ho) (by rw [g_sI_c (by omega)]; exact hp) h.ov
theorem sg_eq {x2 : Int32} {y : Int32} : ((1 : Int32) * y = sgZ 0 y) ∧ ((-1 : Int32) * y = sgZ 1 y) := by
  refine ⟨?_, ?_⟩
  · rw [sg1]; rfl
  · rw [sgm]; rfl

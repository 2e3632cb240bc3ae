/-! KIDS -/
abbrev bI (x : Int32) (k : Nat) : Int32 := if bitI x k then 1 else 0
def addK (c : Nat) (x : Int32) : Nat → Nat → St → St
  | 0, _, σ => σ
  | m + 1, k, σ => addK c x m (k + 1) (sI σ c k (gI σ c k + bI x k))
def accK (g : Nat → Int32) (x : Int32) : Nat → Nat → Int32 → Int32
  | 0, _, a => a
  | m + 1, k, a => accK g x m (k + 1) (a + (g k + bI x k))
def anyF (g : Nat → Int32) (x : Int32) : Nat → Nat → Bool
  | 0, _ => false
  | m + 1, k => if bitI x k ∧ g k = 12 then true else anyF g x m (k + 1)
theorem anyF_f {g : Nat → Int32} {x : Int32} : ∀ m k : Nat, anyF g x m k = false → ∀ j, k ≤ j → j < k + m → ¬ (bitI x j ∧ g j = 12)
  | 0, k, _, j, h1, h2 => by omega
  | m + 1, k, h, j, h1, h2 => by
    have h' : (if bitI x k ∧ g k = 12 then true else anyF g x m (k + 1)) = false := h
    by_cases q : bitI x k ∧ g k = 12
    · rw [if_pos q] at h'; cases h'
    · rw [if_neg q] at h'
      by_cases e : j = k
      · rw [e]; exact q
      · exact anyF_f m (k + 1) h' j (by omega) (by omega)
theorem addK_I {c : Nat} {x : Int32} : ∀ m k : Nat, ∀ σ : St, ∀ a b : Nat, gI (addK c x m k σ) a b = if a = c ∧ k ≤ b ∧ b < k + m then gI σ c b + bI x b else gI σ a b
  | 0, k, σ, a, b => by
    show gI σ a b = _
    rw [if_neg (by omega)]
  | m + 1, k, σ, a, b => by
    show gI (addK c x m (k + 1) (sI σ c k (gI σ c k + bI x k))) a b = _
    rw [addK_I m (k + 1)]
    by_cases q : a = c ∧ k + 1 ≤ b ∧ b < k + 1 + m
    · rw [if_pos q, if_pos (by omega), g_sI_ne (by omega)]
    · rw [if_neg q]
      by_cases e : a = c ∧ b = k
      · rw [if_pos (by omega), e.1, e.2, g_sI_eq]
      · rw [g_sI_ne (by omega), if_neg (by omega)]
theorem addK_J {c : Nat} {x : Int32} : ∀ m k : Nat, ∀ σ : St, gJ (addK c x m k σ) = gJ σ
  | 0, k, σ => rfl
  | m + 1, k, σ => addK_J m (k + 1) (sI σ c k (gI σ c k + bI x k))
theorem c_kids_go (x : Int32) (g : Nat → Int32) (R : Nat) (hR : R ≤ 12) : ∀ m n k : Nat, ∀ a : Int32, ∀ τ : St, k + m = R → m < n → (gI τ 1 0).toInt = R → (∀ j, k ≤ j → gI τ 3 j = g j) → f_X9_kids_66 n x a (iZ (k : Int)) τ = some (accK g x m k a, addK 3 x m k τ) := by
  intro m
  induction m with
  | zero =>
    intro n k a τ e hn hr hg
    cases n with
    | zero => omega
    | succ n =>
      rw [f_X9_kids_66, if_pos (by rw [leI, hr, iZt (by omega)]; omega)]
      rfl
  | succ m ih =>
    intro n k a τ e hn hr hg
    cases n with
    | zero => omega
    | succ n =>
      rw [f_X9_kids_66, if_neg (by rw [leI, hr, iZt (by omega)]; omega), gd_t (iZb (by omega) (by omega)), s_hasBit _ k (by omega)]
      unfold f_X9_kids_100 f_X9_kids_114
      simp only [Option.bind_some, bZ_0, iZc (show k < 2147483648 by omega), gd_t (iZb (show k < 12 by omega) (by omega : 12 < 2147483648)), g_sI_eq, iZs]
      have st := fun v => ih n (k + 1) (a + (g k + v)) (sI τ 3 k (g k + v)) (by omega) (by omega) (by rw [g_sI_c (by omega)]; exact hr) (fun j hj => by rw [g_sI_ne (by omega)]; exact hg j (by omega))
      rw [hg k (by omega), st 0, st 1]
      show _ = some (accK g x m (k + 1) (a + (g k + bI x k)), addK 3 x m (k + 1) (sI τ 3 k (gI τ 3 k + bI x k)))
      rw [hg k (by omega)]
      by_cases q : bitI x k
      · rw [if_neg (not_not_intro q)]
        have e1 : bI x k = 1 := if_pos q
        rw [e1]
      · rw [if_pos q]
        have e1 : bI x k = 0 := if_neg q
        rw [e1]
theorem d_kids_go (x : Int32) (g : Nat → Int32) (R : Nat) (hR : R ≤ 12) : ∀ m n k : Nat, ∀ a : Int32, ∀ τ : St, k + m = R → m < n → (gI τ 38 1).toInt = R → (∀ j, k ≤ j → gI τ 44 j = g j) → f_X10_kids_56 n x a (iZ (k : Int)) τ = some (accK g x m k a, addK 44 x m k τ) := by
  intro m
  induction m with
  | zero =>
    intro n k a τ e hn hr hg
    cases n with
    | zero => omega
    | succ n =>
      rw [f_X10_kids_56, if_pos (by rw [leI, hr, iZt (by omega)]; omega)]
      rfl
  | succ m ih =>
    intro n k a τ e hn hr hg
    cases n with
    | zero => omega
    | succ n =>
      rw [f_X10_kids_56, if_neg (by rw [leI, hr, iZt (by omega)]; omega), gd_t (iZb (by omega) (by omega)), s_has _ k (by omega)]
      unfold f_X10_kids_84 f_X10_kids_95
      simp only [Option.bind_some, bZ_0, iZc (show k < 2147483648 by omega), gd_t (iZb (show k < 12 by omega) (by omega : 12 < 2147483648)), g_sI_eq, iZs]
      have st := fun v => ih n (k + 1) (a + (g k + v)) (sI τ 44 k (g k + v)) (by omega) (by omega) (by rw [g_sI_c (by omega)]; exact hr) (fun j hj => by rw [g_sI_ne (by omega)]; exact hg j (by omega))
      rw [hg k (by omega), st 0, st 1]
      show _ = some (accK g x m (k + 1) (a + (g k + bI x k)), addK 44 x m (k + 1) (sI τ 44 k (gI τ 44 k + bI x k)))
      rw [hg k (by omega)]
      by_cases q : bitI x k
      · rw [if_neg (not_not_intro q)]
        have e1 : bI x k = 1 := if_pos q
        rw [e1]
      · rw [if_pos q]
        have e1 : bI x k = 0 := if_neg q
        rw [e1]
theorem c_kids_any (x : Int32) (σ : St) (R : Nat) (hR : R ≤ 12) (hr : (gI σ 1 0).toInt = R) (hg : ∀ j, j < 12 → rg (gI σ 3 j) 0 12) : ∀ m n k : Nat, k + m = R → m < n → f_X9_kids_21 n x (iZ (k : Int)) σ = if anyF (gI σ 3) x m k then some (-1, σ) else f_X9_kids_66 FU x 0 0 σ := by
  intro m
  induction m with
  | zero =>
    intro n k e hn
    cases n with
    | zero => omega
    | succ n =>
      rw [f_X9_kids_21, if_pos (by rw [leI, hr, iZt (by omega)]; omega)]
      rfl
  | succ m ih =>
    intro n k e hn
    cases n with
    | zero => omega
    | succ n =>
      rw [f_X9_kids_21, if_neg (by rw [leI, hr, iZt (by omega)]; omega), s_hasBit _ k (by omega)]
      unfold f_X9_kids_56
      simp only [Option.bind_some, bZ_0, iZc (show k < 2147483648 by omega), gd_t (iZb (show k < 12 by omega) (by omega : 12 < 2147483648)), iZs, ih n (k + 1) (show k + 1 + m = R by omega) (show m < n by omega)]
      show _ = if (if bitI x k ∧ gI σ 3 k = 12 then true else anyF (gI σ 3) x m (k + 1)) then some (-1, σ) else f_X9_kids_66 FU x 0 0 σ
      obtain ⟨b1, b2⟩ := hg k (by omega)
      by_cases q : bitI x k
      · rw [if_neg (not_not_intro q)]
        by_cases q2 : gI σ 3 k = 12
        · rw [if_neg (by rw [q2]; decide), if_pos (show bitI x k ∧ gI σ 3 k = 12 from ⟨q, q2⟩), if_pos rfl]
        · rw [if_pos (by rw [lI, t_12]; rw [eI, t_12] at q2; omega), if_neg (show ¬ (bitI x k ∧ gI σ 3 k = 12) from fun c => q2 c.2)]
      · rw [if_pos q, if_neg (show ¬ (bitI x k ∧ gI σ 3 k = 12) from fun c => q c.1)]
theorem d_kids_any (x : Int32) (σ : St) (R : Nat) (hR : R ≤ 12) (hr : (gI σ 38 1).toInt = R) : ∀ m n k : Nat, k + m = R → m < n → f_X10_kids_19 n x 0 (iZ (k : Int)) σ = if anyF (gI σ 44) x m k then some (-1, σ) else f_X10_kids_56 FU x 0 0 σ := by
  intro m
  induction m with
  | zero =>
    intro n k e hn
    cases n with
    | zero => omega
    | succ n =>
      rw [f_X10_kids_19, if_pos (by rw [leI, hr, iZt (by omega)]; omega)]
      rfl
  | succ m ih =>
    intro n k e hn
    cases n with
    | zero => omega
    | succ n =>
      rw [f_X10_kids_19, if_neg (by rw [leI, hr, iZt (by omega)]; omega), s_has _ k (by omega)]
      unfold f_X10_kids_48
      simp only [Option.bind_some, bZ_0, iZc (show k < 2147483648 by omega), gd_t (iZb (show k < 12 by omega) (by omega : 12 < 2147483648)), iZs, ih n (k + 1) (show k + 1 + m = R by omega) (show m < n by omega)]
      show _ = if (if bitI x k ∧ gI σ 44 k = 12 then true else anyF (gI σ 44) x m (k + 1)) then some (-1, σ) else f_X10_kids_56 FU x 0 0 σ
      by_cases q : bitI x k
      · rw [if_neg (not_not_intro q)]
        by_cases q2 : gI σ 44 k = 12
        · rw [if_pos q2, if_pos (show bitI x k ∧ gI σ 44 k = 12 from ⟨q, q2⟩), if_pos rfl]
        · rw [if_neg q2, if_neg (show ¬ (bitI x k ∧ gI σ 44 k = 12) from fun c => q2 c.2)]
      · rw [if_pos q, if_neg (show ¬ (bitI x k ∧ gI σ 44 k = 12) from fun c => q c.1)]
theorem shr_0 {x y : Int32} {R : Nat} (hR : R ≤ 12) (h : y.toInt = R) (hx : 0 ≤ x.toInt) : (shrI x y = 0) = (x.toInt < 2 ^ R) := by
  have e : y = iZ (R : Int) := by rw [← h, iZ_self]
  have e2 : (shrI x y).toBitVec = x.toBitVec.sshiftRight R := by
    rw [e]
    show BitVec.sshiftRight' x.toBitVec ((iZ (R : Int) &&& 31).toBitVec.smod 32) = _
    rw [k31s ⟨R, by omega⟩]
    show x.toBitVec.sshiftRight (BitVec.ofNat 32 R).toNat = _
    rw [BitVec.toNat_ofNat, Nat.mod_eq_of_lt (by omega)]
  have e3 : (shrI x y).toInt = x.toInt / 2 ^ R := by
    show (shrI x y).toBitVec.toInt = _
    rw [e2, BitVec.toInt_sshiftRight, Int.shiftRight_eq_div_pow]
    rfl
  rw [eI, t_0, e3]
  have hp : (0 : Int) < 2 ^ R := Int.pow_pos (by omega)
  apply propext
  constructor
  · intro h0
    apply Int.lt_of_not_ge
    intro hge
    have := Int.le_ediv_of_mul_le hp (show (1 : Int) * 2 ^ R ≤ x.toInt by rw [Int.one_mul]; exact hge)
    omega
  · intro h0
    exact Int.ediv_eq_zero_of_lt hx h0
theorem sh_tab13 : ∀ r : Fin 13, shlI 1 (iZ (r.1 : Int)) = nI (2 ^ r.1) := by decide +kernel
theorem m_kids {σ : St} (x : Int32) (h : Rrop σ) (g : Rgoat σ) : ∃ a σ1 σ2, f_X9_kids x σ = some (a, σ1) ∧ f_X10_kids x σ1 = some (a, σ2) ∧ Rgoat σ2 := by
  obtain ⟨h1, h2, h3⟩ := h
  have g0 := g
  obtain ⟨g1, g2, g3, g4, g5, g6⟩ := g
  have hR : (gI σ 1 0).toInt = ((gI σ 1 0).toInt.toNat : Int) := by omega
  generalize hRR : (gI σ 1 0).toInt.toNat = R at hR
  have no : ∀ τ : St, gI τ 38 1 = gI σ 1 0 → f_X10_kids x τ = if x.toInt ≤ 0 then some (-1, τ) else if x.toInt < 2 ^ R then f_X10_kids_19 FU x 0 0 τ else some (-1, τ) := by
    intro τ e
    unfold f_X10_kids f_X10_kids_13
    simp only [leI, t_0]
    by_cases q : x.toInt ≤ 0
    · rw [if_pos q, if_pos q]
    · rw [if_neg q, if_neg q]
      have := shr_0 (x := x) (y := gI τ 38 1) (R := R) (by omega) (by rw [e]; exact hR) (by omega)
      simp only [this]
  unfold f_X9_kids f_X9_kids_17
  have ec : (x < shlI 1 (gI σ 1 0)) = (x.toInt < 2 ^ R) := by
    have e : gI σ 1 0 = iZ (R : Int) := by rw [← hR, iZ_self]
    rw [lI, e, sh_tab13 ⟨R, by omega⟩]
    have hp : 2 ^ R ≤ 2 ^ 12 := Nat.pow_le_pow_right (by omega) (by omega : R ≤ 12)
    rw [nI_toInt (show 2 ^ R < 2 ^ 31 by omega)]
    have e1 : ((2 ^ R : Nat) : Int) = (2 : Int) ^ R := by simp
    rw [e1]
  simp only [ec, leI, t_0]
  by_cases q : x.toInt ≤ 0
  · rw [if_pos q]
    exact ⟨_, _, σ, rfl, by rw [no σ h1, if_pos q], g0⟩
  · rw [if_neg q]
    by_cases q2 : x.toInt < 2 ^ R
    · rw [if_pos q2]
      have c := c_kids_any x σ R (by omega) hR g2 R FU 0 (by omega) (by unfold FU; omega)
      by_cases q3 : anyF (gI σ 3) x R 0 = true
      · rw [if_pos q3] at c
        refine ⟨_, _, σ, c, ?_, g0⟩
        have d := d_kids_any x σ R (by omega) (by rw [h1]; exact hR) R FU 0 (by omega) (by unfold FU; omega)
        rw [g1, if_pos q3] at d
        rw [no σ h1, if_neg q, if_pos q2]
        exact d
      · rw [if_neg q3] at c
        have c2 := c_kids_go x (gI σ 3) R (by omega) R FU 0 0 σ (by omega) (by unfold FU; omega) hR (fun j _ => rfl)
        have hI := fun a b => addK_I (c := 3) (x := x) R 0 σ a b
        have e38 : gI (addK 3 x R 0 σ) 38 1 = gI σ 1 0 := by rw [hI, if_neg (by omega), h1]
        have e44 : gI (addK 3 x R 0 σ) 44 = gI σ 3 := by
          funext j; rw [hI, if_neg (by omega), g1]
        have d := d_kids_any x (addK 3 x R 0 σ) R (by omega) (by rw [e38]; exact hR) R FU 0 (by omega) (by unfold FU; omega)
        rw [e44, if_neg q3] at d
        have d2 := d_kids_go x (gI σ 3) R (by omega) R FU 0 0 (addK 3 x R 0 σ) (by omega) (by unfold FU; omega) (by rw [e38]; exact hR) (fun j _ => by rw [e44])
        refine ⟨_, _, addK 44 x R 0 (addK 3 x R 0 σ), Eq.trans c c2, ?_, ?_⟩
        · rw [no _ e38, if_neg q, if_pos q2]
          exact Eq.trans d d2
        · have hI2 := fun a b => addK_I (c := 44) (x := x) R 0 (addK 3 x R 0 σ) a b
          have nf := anyF_f R 0 (by cases hq : anyF (gI σ 3) x R 0 with | true => exact absurd hq q3 | false => rfl)
          have i3 : ∀ j, gI (addK 44 x R 0 (addK 3 x R 0 σ)) 3 j = if j < R then gI σ 3 j + bI x j else gI σ 3 j := by
            intro j
            rw [hI2, if_neg (by omega), hI]
            by_cases e : j < R
            · rw [if_pos e, if_pos (by omega)]
            · rw [if_neg e, if_neg (by omega)]
          have i44 : ∀ j, gI (addK 44 x R 0 (addK 3 x R 0 σ)) 44 j = if j < R then gI σ 3 j + bI x j else gI σ 3 j := by
            intro j
            rw [hI2, e44]
            by_cases e : j < R
            · rw [if_pos e, if_pos (by omega)]
            · rw [if_neg e, if_neg (by omega)]
          have ot : ∀ a b, a ≠ 3 → a ≠ 44 → gI (addK 44 x R 0 (addK 3 x R 0 σ)) a b = gI σ a b := by
            intro a b n1 n2
            rw [hI2, if_neg (by omega), hI, if_neg (by omega)]
          refine ⟨?_, ?_, ?_, ?_, ?_, ?_⟩
          · funext j; rw [i44, i3]
          · intro j hj
            rw [i3]
            obtain ⟨b1, b2⟩ := g2 j hj
            by_cases e : j < R
            · rw [if_pos e]
              by_cases f : bitI x j
              · have e1 : bI x j = 1 := if_pos f
                have nn := nf j (by omega) (by omega)
                have n12 : ¬ gI σ 3 j = 12 := fun c => nn ⟨f, c⟩
                rw [eI, t_12] at n12
                rw [e1]; unfold rg
                rw [tadd (by rw [t_1]; omega) (by rw [t_1]; omega), t_1]; omega
              · have e1 : bI x j = 0 := if_neg f
                rw [e1, Int32.add_zero]; exact ⟨b1, b2⟩
            · rw [if_neg e]; exact ⟨b1, b2⟩
          · rw [ot 38 19 (by omega) (by omega), ot 1 4 (by omega) (by omega)]; exact g3
          · rw [ot 38 20 (by omega) (by omega), ot 1 5 (by omega) (by omega)]; exact g4
          · rw [addK_J, addK_J]; exact g5
          · rw [ot 1 5 (by omega) (by omega), ot 1 0 (by omega) (by omega)]
            exact g6
    · rw [if_neg q2]
      exact ⟨_, _, σ, rfl, by rw [no σ h1, if_neg q, if_neg q2], g0⟩

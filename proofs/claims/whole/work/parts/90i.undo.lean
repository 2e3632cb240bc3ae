/-! ADD, ACT; UNDO -/
abbrev C2C : List Nat := [2, 3, 10, 16]
abbrev G2C : List (Nat × Nat) := [(1, 0), (0, 13), (0, 14), (0, 15), (0, 16), (1, 6), (1, 7), (1, 8), (1, 9), (1, 10), (1, 11), (1, 12), (9, 1), (9, 2)]
abbrev C2M : List Nat := [44, 45, 46, 49, 50]
abbrev G2M : List (Nat × Nat) := [(38, 1), (38, 11), (38, 12), (38, 13), (38, 18), (38, 21), (38, 22), (38, 27), (38, 28)]
theorem six {P : Nat → Prop} (h0 : P 0) (h1 : P 1) (h2 : P 2) (h3 : P 3) (h4 : P 4) (h5 : P 5) : ∀ k, k < 6 → P k := by
  intro k hk
  have hc : k = 0 ∨ k = 1 ∨ k = 2 ∨ k = 3 ∨ k = 4 ∨ k = 5 := by omega
  rcases hc with rfl | rfl | rfl | rfl | rfl | rfl <;> assumption
theorem Act2.toL {σ τ σ' : St} (h : Act2 σ τ) (a : sameOn C2C G2C σ σ') : Act2 σ' τ := by
  obtain ⟨hf, hd, ⟨n1, n2⟩, hD, hp⟩ := h
  have e7 : ∀ k, k < 6 → gI σ' 1 (7 + k) = gI σ 1 (7 + k) := six (a.I 1 7) (a.I 1 8) (a.I 1 9) (a.I 1 10) (a.I 1 11) (a.I 1 12)
  unfold Act2 Rfix2 Rdig2 Rnow2 Rpast2 at *
  rw [a.I 1 0, a.I 0 14, a.I 0 15, a.I 0 16, a.cI 3, a.cI 16, a.cI 2, a.I 0 13, a.J 1 6, a.I 9 1, a.I 9 2, a.cJ 10]
  exact ⟨hf, hd, ⟨fun k hk => by rw [e7 k hk]; exact n1 k hk, n2⟩, hD, hp⟩
theorem Act2.toR {σ τ τ' : St} (h : Act2 σ τ) (b : sameOn C2M G2M τ τ') : Act2 σ τ' := by
  unfold Act2 Rfix2 Rdig2 Rnow2 Rpast2 at *
  rw [b.I 38 1, b.I 38 11, b.I 38 12, b.I 38 13, b.cI 44, b.cI 45, b.I 38 21, b.I 38 22, b.cI 46, b.J 38 18, b.I 38 27, b.I 38 28, b.cI 49, b.cJ 50]
  exact h
theorem mAct_fr {x : Int32} {v : Nat} {τ τ1 : St} (h : mAct x v τ = some τ1) : frm [46, 47, 48, 49, 50] [(38, 18), (38, 27), (38, 28)] τ τ1 := by
  unfold mAct at h
  by_cases c0 : x = 0
  · rw [if_pos c0] at h
    exact (fr_X10_addOf h).mo (by decide) (by decide)
  · rw [if_neg c0] at h
    by_cases c1 : x = 1
    · rw [if_pos c1] at h
      exact (fr_X10_addOf h).mo (by decide) (by decide)
    · rw [if_neg c1] at h
      exact (fr_X10_actOf h).mo (by decide) (by decide)
theorem act_pair {σ : St} (h : Act2 σ σ) (x : Int32) (v : Nat) (hv : v < 10 ^ 9) : ∃ σ1 σ2, f_X9_actOnce x (iZ (v : Int)) σ = some (gI σ1 0 13, σ1) ∧ mAct x v σ1 = some σ2 ∧ gI σ2 46 18 = gI σ1 0 13 ∧ Act2 σ2 σ2 := by
  obtain ⟨σ1, _, e1, _, _⟩ := s_act2 h x v hv
  have s1 := (fr_X9_actOnce e1).same (C := C2M) (G := G2M) rfl
  obtain ⟨σ1', σ2, e2, e3, h3⟩ := s_act2 (h.toR s1) x v hv
  have e4 : σ1' = σ1 := by
    have := e1.symm.trans e2
    injection this with this
    exact (congrArg Prod.snd this).symm
  subst e4
  have s2 := (mAct_fr e3).same (C := C2C) (G := G2C) rfl
  refine ⟨σ1', σ2, e1, e3, ?_, h3.toL s2⟩
  exact h3.2.2.1.2
theorem Act2_of {σ : St} (a : Rset σ) (b : Rrop σ) (c : Rdig σ) (d : Rgoat σ) (e : Rcnt σ) (f : Rpast σ) (g : Rear σ) (m : Rmis σ) : Act2 σ σ := by
  obtain ⟨a1, a2, a3, a4, a5⟩ := a
  obtain ⟨b1, b2⟩ := b
  obtain ⟨d1, d2, d3, d4, d5, d6⟩ := d
  obtain ⟨e1, e2, e3, e4, e5, e6, e7⟩ := e
  refine ⟨⟨b1, b2, a1, a2, a3, d1, d2, fun i hi => ⟨fun k h1 h2 => ((g.1 i hi).2.2.1 k h1 h2).symm, (g.1 i hi).2.1⟩, m.1, m.2⟩, c, ⟨six e1 e2 e3 e4 e5 e6, e7⟩, d5, f⟩
theorem Act2_cnt {σ : St} (h : Act2 σ σ) : Rcnt σ := ⟨h.2.2.1.1 0 (by omega), h.2.2.1.1 1 (by omega), h.2.2.1.1 2 (by omega), h.2.2.1.1 3 (by omega), h.2.2.1.1 4 (by omega), h.2.2.1.1 5 (by omega), h.2.2.1.2⟩
theorem Act2_goat {σ σ' : St} (h : Act2 σ' σ') (d : Rgoat σ) (a : sameOn [] [(1, 0), (1, 4), (1, 5), (38, 19), (38, 20)] σ σ') : Rgoat σ' := by
  obtain ⟨d1, d2, d3, d4, d5, d6⟩ := d
  obtain ⟨hf, hd, hn, hD, hp⟩ := h
  refine ⟨hf.2.2.2.2.2.1, hf.2.2.2.2.2.2.1, ?_, ?_, hD, ?_⟩
  · rw [a.I 38 19, a.I 1 4]; exact d3
  · rw [a.I 38 20, a.I 1 5]; exact d4
  · rw [a.I 1 5, a.I 1 0]; exact d6
theorem frm.two {W1 W2 W : List Nat} {F1 F2 F : List (Nat × Nat)} {σ σ1 σ2 : St} (h1 : frm W1 F1 σ σ1) (h2 : frm W2 F2 σ1 σ2) (w1 : ∀ a ∈ W1, a ∈ W) (f1 : ∀ a ∈ F1, a ∈ F) (w2 : ∀ a ∈ W2, a ∈ W) (f2 : ∀ a ∈ F2, a ∈ F) : frm W F σ σ2 := (h1.mo w1 f1).tr (h2.mo w2 f2)
theorem m_add {σ : St} (n b : Int32) (h : Act2 σ σ) : ∃ r σ1 σ2, f_X9_add n b σ = some (r, σ1) ∧ f_X10_add n b σ1 = some (r, σ2) ∧ Act2 σ2 σ2 := by
  have e9 : 10 ^ 9 = 1000000000 := by decide
  unfold f_X9_add f_X9_add_19 f_X10_add f_X10_add_25
  simp only [s_isNumber, s_in, Option.bind_some, bZ_0, t64, l_0, l_999999999, n_18]
  by_cases q : 0 ≤ n.toInt ∧ n.toInt ≤ 999999999
  · simp only [if_neg (not_not_intro q)]
    have en := iZof q.1
    by_cases hb : b = 0
    · obtain ⟨σ1, σ2, e1, e2, e3, h2⟩ := act_pair h 0 n.toInt.toNat (by omega)
      rw [← en] at e1
      have e2' : f_X10_addOf n 1 σ1 = some σ2 := by
        unfold mAct at e2
        rw [if_pos rfl, ← en] at e2; exact e2
      refine ⟨gI σ1 0 13, σ1, σ2, ?_, ?_, h2⟩
      · rw [if_pos hb, e1]; rfl
      · rw [if_pos hb, e2']
        simp only [Option.bind_some, e3]
    · obtain ⟨σ1, σ2, e1, e2, e3, h2⟩ := act_pair h 1 n.toInt.toNat (by omega)
      rw [← en] at e1
      have e2' : f_X10_addOf n (-1) σ1 = some σ2 := by
        unfold mAct at e2
        rw [if_neg (by decide), if_pos rfl, ← en] at e2; exact e2
      refine ⟨gI σ1 0 13, σ1, σ2, ?_, ?_, h2⟩
      · rw [if_neg hb, e1]; rfl
      · rw [if_neg hb, e2']
        simp only [Option.bind_some, e3]
  · exact ⟨-1, σ, σ, by rw [if_pos q], by rw [if_pos q], h⟩
theorem m_act {σ : St} (x : Int32) (h : Act2 σ σ) : ∃ r σ1 σ2, f_X9_act x σ = some (r, σ1) ∧ f_X10_act x σ1 = some (r, σ2) ∧ Act2 σ2 σ2 := by
  unfold f_X9_act f_X9_act_10 f_X10_act
  have l4 : (4 : Int64).toInt = 4 := rfl
  simp only [s_in, Option.bind_some, bZ_0, t64, l_2, l4, n_18, lI, leI, t_2, t_4]
  by_cases q : 2 ≤ x.toInt ∧ x.toInt ≤ 4
  · obtain ⟨σ1, σ2, e1, e2, e3, h2⟩ := act_pair h x 0 (by decide)
    have e1' : f_X9_actOnce x 0 σ = some (gI σ1 0 13, σ1) := e1
    have e2' : f_X10_actOf x σ1 = some σ2 := by
      unfold mAct at e2
      rw [if_neg (by rw [eI, t_0]; omega), if_neg (by rw [eI, t_1]; omega)] at e2; exact e2
    refine ⟨gI σ1 0 13, σ1, σ2, ?_, ?_, h2⟩
    · rw [if_neg (by omega), if_pos (by omega), e1']; rfl
    · rw [if_neg (not_not_intro q), e2']
      simp only [Option.bind_some, e3]
  · refine ⟨-1, σ, σ, ?_, by rw [if_pos q], h⟩
    by_cases q2 : x.toInt < 2
    · rw [if_pos q2]
    · rw [if_neg q2, if_neg (by omega)]
/-- digits of a sum of digits -/
theorem vsum_dig {f : Nat → Int} : ∀ n : Nat, (∀ j, j < n → 0 ≤ f j ∧ f j ≤ 9) → ∃ w : Nat, vsum f n = (w : Int) ∧ w < 10 ^ n ∧ ∀ j, j < n → ((dgN w j : Nat) : Int) = f j
  | 0, _ => ⟨0, rfl, by decide, fun j hj => by omega⟩
  | n + 1, h => by
    obtain ⟨w, h1, h2, h3⟩ := vsum_dig n (fun j hj => h j (by omega))
    obtain ⟨d1, d2⟩ := h n (by omega)
    have ed : f n = ((f n).toNat : Int) := by omega
    generalize hd : (f n).toNat = d at ed
    have hd9 : d ≤ 9 := by omega
    refine ⟨w + d * 10 ^ n, ?_, ?_, ?_⟩
    · show vsum f n + f n * 10 ^ n = _
      rw [h1, ed, Int.natCast_add, Int.natCast_mul, jpow]
    · rw [Nat.pow_succ]
      have : d * 10 ^ n ≤ 9 * 10 ^ n := Nat.mul_le_mul_right _ hd9
      omega
    · intro j hj
      by_cases c : j = n
      · subst c
        rw [ed]
        congr 1
        show (w + d * 10 ^ j) / 10 ^ j % 10 = d
        rw [Nat.add_mul_div_right _ _ (Nat.pow_pos (by omega)), Nat.div_eq_of_lt h2]
        omega
      · rw [← h3 j (by omega)]
        congr 1
        show (w + d * 10 ^ n) / 10 ^ j % 10 = w / 10 ^ j % 10
        have e1 : d * 10 ^ n = 10 * (d * 10 ^ (n - j - 1)) * 10 ^ j := by
          have e2 : 10 ^ n = 10 ^ (n - j - 1) * 10 * 10 ^ j := by
            rw [← Nat.pow_succ, ← Nat.pow_add]; congr 1; omega
          rw [e2, ← Nat.mul_assoc, ← Nat.mul_assoc, Nat.mul_comm 10, Nat.mul_right_comm]
        rw [e1, Nat.add_mul_div_right _ _ (Nat.pow_pos (by omega)), Nat.add_mul_mod_self_left]
theorem c_standFor_go {o R w : Nat} (hR : R ≤ 12) (hw : w < 10 ^ 18) : ∀ m n r : Nat, ∀ σ : St, r + m = R → m < n → gI σ o 0 = iZ (R : Int) → ∃ σ', f_X7_standFor_2 o n (jZ (w : Int)) (iZ (r : Int)) σ = some σ' ∧ (∀ j, r ≤ j → j < R → gI σ' (o + 1) j = dgI w j) ∧ (∀ j, (j < r ∨ R ≤ j) → gI σ' (o + 1) j = gI σ (o + 1) j) := by
  intro m
  induction m with
  | zero =>
    intro n r σ e hn h
    cases n with
    | zero => omega
    | succ n =>
      rw [f_X7_standFor_2, if_pos (by rw [h, leI, iZt (by omega), iZt (by omega)]; omega)]
      exact ⟨σ, rfl, fun j h1 h2 => by omega, fun j hj => rfl⟩
  | succ m ih =>
    intro n r σ e hn h
    cases n with
    | zero => omega
    | succ n =>
      rw [f_X7_standFor_2, if_neg (by rw [h, leI, iZt (by omega), iZt (by omega)]; omega), s_digitOf9 σ w r hw (by omega)]
      simp only [Option.bind_some]
      rw [gd_t (iZb (show r < 12 by omega) (by omega)), iZc (by omega), iZs]
      obtain ⟨σ', e1, h1, h2⟩ := ih n (r + 1) (sI σ (o + 1) r (dgI w r)) (by omega) (by omega) (by rw [g_sI_c (by omega)]; exact h)
      refine ⟨σ', e1, ?_, ?_⟩
      · intro j j1 j2
        by_cases c : j = r
        · subst c
          rw [h2 j (by omega), g_sI_eq]
        · exact h1 j (by omega) j2
      · intro j hj
        rw [h2 j (by omega), g_sI_ne (by omega)]
theorem c_standFor {o R w : Nat} {σ : St} (hR : R ≤ 12) (hw : w < 10 ^ 18) (h : gI σ o 0 = iZ (R : Int)) : ∃ σ', f_X7_standFor o (jZ (w : Int)) σ = some σ' ∧ (∀ j, j < R → gI σ' (o + 1) j = dgI w j) ∧ (∀ j, R ≤ j → gI σ' (o + 1) j = gI σ (o + 1) j) := by
  obtain ⟨σ', e1, h1, h2⟩ := c_standFor_go (o := o) hR hw R FU 0 σ (by omega) (by unfold FU; omega) h
  exact ⟨σ', e1, fun j hj => h1 j (by omega) hj, fun j hj => h2 j (Or.inr hj)⟩

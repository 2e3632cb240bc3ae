/-! FEWEST WALKS: the model's table; which comes when -/
def Hmd (R H : Nat) (a : Nat → Int32) (τ : St) : Prop := gI τ 54 = a ∧ gI τ 38 33 = iZ (H : Int) ∧ gI τ 38 1 = iZ (R : Int)
theorem Hmd.to {R H : Nat} {a : Nat → Int32} {τ τ' : St} (h : Hmd R H a τ) (q : frm [55] [] τ τ') : Hmd R H a τ' := by
  unfold Hmd at h ⊢
  rw [q.rI (a := 54) (by decide), q.rI (a := 38) (by decide)]
  exact h
theorem m_sum {τ : St} {R : Nat} {a : Nat → Int32} {H : Nat} (hH : H ≤ 8) (ha : okH a) (h : Hmd R H a τ) (s : Nat) : f_X10_sumOf (iZ (s : Int)) τ = some (jZ (su a H s : Int), τ) := by
  have e := s_sum10 (iZ (s : Int)) τ H hH (by rw [h.2.1, iZt (by omega)])
  have e2 : hf τ 54 (iZ (s : Int)) = hg a (iZ (s : Int)) := by
    funext j
    show (if bitI (iZ (s : Int)) j then (gI τ 54 j).toInt else 0) = _
    rw [h.1]
  rw [e2, (su_eq ha hH s).1] at e
  exact e
theorem m_wk {τ : St} {R : Nat} {a : Nat → Int32} {H : Nat} (hR : R ≤ 12) (hH : H ≤ 8) (ha : okH a) (h : Hmd R H a τ) (s k : Nat) : f_X10_walksOf (jZ (su a H s : Int)) ((gI τ 54 k).toInt64) (gI τ 38 1) τ = some (gWk R a H s k, τ) := by
  obtain ⟨n1, n2, n3⟩ := nu_b ha k
  have e9 : 10 ^ 9 = 1000000000 := by decide
  have e18 : 10 ^ 18 = 1000000000000000000 := by decide
  rw [h.1, h.2.2, n3]
  exact m_walks hR (su_eq ha hH s).2 (by omega) τ
theorem m_33 {R H s : Nat} {a : Nat → Int32} (hR : R ≤ 12) (hH : H ≤ 8) (ha : okH a) (hs : s < 2 ^ H) (T : Nat → Int32) (x1 : Int32) (K : Int32 → Int32 → St → Option (St)) : ∀ m n k : Nat, ∀ τ : St, k + m = H → m < n → Hmd R H a τ → (∀ j, j ≠ s → gI τ 55 j = T j) → gI τ 55 s = fmM (wT R a H T s) (iZ (s : Int)) k → ∃ τ', f_X10_lookOnward_33 K n x1 (iZ (s : Int)) (iZ (k : Int)) τ = K x1 (iZ (s : Int) + (-1)) τ' ∧ (∀ j, j ≠ s → gI τ' 55 j = T j) ∧ gI τ' 55 s = fmM (wT R a H T s) (iZ (s : Int)) H ∧ frm [55] [] τ τ' := by
  have hp := pow8 hH
  intro m
  induction m with
  | zero =>
    intro n k τ e hn h h1 h2
    cases n with
    | zero => omega
    | succ n =>
      have : k = H := by omega
      subst this
      refine ⟨τ, ?_, h1, h2, frm.rf τ⟩
      rw [f_X10_lookOnward_33, if_pos (by rw [h.2.1, leI]; exact Int.le_refl _)]
  | succ m ih =>
    intro n k τ e hn h h1 h2
    cases n with
    | zero => omega
    | succ n =>
      rw [f_X10_lookOnward_33, if_neg (by rw [h.2.1, leI, iZt (by omega), iZt (by omega)]; omega), bnd (s_has _ k (by omega) τ)]
      unfold f_X10_lookOnward_81 f_X10_lookOnward_112 f_X10_lookOnward_113
      have ef : fmM (wT R a H T s) (iZ (s : Int)) (k + 1) = if bitI (iZ (s : Int)) k then fmM (wT R a H T s) (iZ (s : Int)) k else (if fmM (wT R a H T s) (iZ (s : Int)) k = -1 then wT R a H T s k else mnI (fmM (wT R a H T s) (iZ (s : Int)) k) (wT R a H T s k)) := rfl
      by_cases c : bitI (iZ (s : Int)) k
      · rw [if_neg (by rw [bZ_0]; exact not_not_intro c), iZs]
        rw [if_pos c] at ef
        exact ih n (k + 1) τ (by omega) (by omega) h h1 (by rw [ef]; exact h2)
      · rw [if_pos (by rw [bZ_0]; exact c)]
        have c' := c
        rw [bitZ8 (by omega) (by omega)] at c'
        obtain ⟨g1, g2⟩ := or_gt hs (show k < H by omega) c'
        have hor := or_iZ (s := s) (k := k) (by omega) (by omega)
        rw [bnd (m_sum hH ha h s), gd_t (iZb (by omega) (by omega)), iZc (by omega), bnd (m_wk hR hH ha h s k), hor, gd_t (iZb (by omega) (by omega)), iZc (show (s ||| 2 ^ k) < 2147483648 by omega), gd_t (iZb (show s < 256 by omega) (by omega)), iZc (show s < 2147483648 by omega)]
        dsimp only
        rw [h2, h1 (s ||| 2 ^ k) (by omega), iZs]
        rw [if_neg c] at ef
        by_cases q : fmM (wT R a H T s) (iZ (s : Int)) k = -1
        · rw [if_pos q] at ef
          rw [if_pos q, gd_t (iZb (show s < 256 by omega) (by omega))]
          have fr : frm [55] [] τ (sI τ 55 s (gWk R a H s k + T (s ||| 2 ^ k))) := frm_sI (frm.rf τ) (by simp)
          obtain ⟨τ', i1, i2, i3, i4⟩ := ih n (k + 1) _ (by omega) (by omega) (h.to fr) (fun j hj => by rw [g_sI_ne (by omega)]; exact h1 j hj) (by rw [g_sI_eq, ef])
          exact ⟨τ', i1, i2, i3, fr.tr i4⟩
        · rw [if_neg q] at ef
          rw [if_neg q, gd_t (iZb (show s < 256 by omega) (by omega)), gd_t (iZb (show s < 256 by omega) (by omega))]
          have fr : frm [55] [] τ (sI τ 55 s (mnI (fmM (wT R a H T s) (iZ (s : Int)) k) (gWk R a H s k + T (s ||| 2 ^ k)))) := frm_sI (frm.rf τ) (by simp)
          obtain ⟨τ', i1, i2, i3, i4⟩ := ih n (k + 1) _ (by omega) (by omega) (h.to fr) (fun j hj => by rw [g_sI_ne (by omega)]; exact h1 j hj) (by rw [g_sI_eq, ef])
          exact ⟨τ', i1, i2, i3, fr.tr i4⟩
theorem m_33f {R H : Nat} {a : Nat → Int32} (hH : H ≤ 8) (x1 : Int32) (K : Int32 → Int32 → St → Option (St)) : ∀ m n k : Nat, ∀ τ : St, k + m = H → m < n → Hmd R H a τ → f_X10_lookOnward_33 K n x1 (iZ ((2 ^ H - 1 : Nat) : Int)) (iZ (k : Int)) τ = K x1 (iZ ((2 ^ H - 1 : Nat) : Int) + (-1)) τ := by
  have hp := pow8 hH
  intro m
  induction m with
  | zero =>
    intro n k τ e hn h
    cases n with
    | zero => omega
    | succ n =>
      rw [f_X10_lookOnward_33, if_pos (by rw [h.2.1, leI, iZt (by omega), iZt (by omega)]; omega)]
  | succ m ih =>
    intro n k τ e hn h
    cases n with
    | zero => omega
    | succ n =>
      have hb : bitI (iZ ((2 ^ H - 1 : Nat) : Int)) k := by
        rw [bitZ8 (by omega) (by omega), Nat.testBit_two_pow_sub_one, decide_eq_true (by omega)]
      rw [f_X10_lookOnward_33, if_neg (by rw [h.2.1, leI, iZt (by omega), iZt (by omega)]; omega), bnd (s_has _ k (by omega) τ)]
      unfold f_X10_lookOnward_113
      rw [if_neg (by rw [bZ_0]; exact not_not_intro hb), iZs]
      exact ih n (k + 1) τ (by omega) (by omega) h
theorem m_11 {R H : Nat} {a : Nat → Int32} (hR : R ≤ 12) (hH : H ≤ 8) (ha : okH a) : ∀ m n : Nat, ∀ τ : St, m + 1 ≤ 2 ^ H → m < n → Hmd R H a τ → gdA R a H (gI τ 55) m → ∃ τ', f_X10_lookOnward_11 n (iZ ((2 ^ H - 1 : Nat) : Int)) (iZ ((m : Int) - 1)) τ = some τ' ∧ gdA R a H (gI τ' 55) 0 ∧ frm [55] [] τ τ' := by
  have hp := pow8 hH
  intro m
  induction m with
  | zero =>
    intro n τ e hn h g
    cases n with
    | zero => omega
    | succ n =>
      refine ⟨τ, ?_, g, frm.rf τ⟩
      rw [f_X10_lookOnward_11, if_pos (by rw [lI, t_0, iZ_toInt (by omega) (by omega)]; omega)]
  | succ m ih =>
    intro n τ e hn h g
    cases n with
    | zero => omega
    | succ n =>
      have em : ((m + 1 : Nat) : Int) - 1 = (m : Int) := by omega
      rw [em, f_X10_lookOnward_11, if_neg (by rw [lI, t_0, iZt (by omega)]; omega), if_neg (by rw [eI, iZt (by omega), iZt (by omega)]; omega)]
      unfold f_X10_lookOnward_30
      rw [gd_t (iZb (by omega) (by omega)), iZc (by omega)]
      have f1 : frm [55] [] τ (sI τ 55 m (-1)) := frm_sI (frm.rf τ) (by simp)
      obtain ⟨τ1, e1, q1, q2, f2⟩ := m_33 hR hH ha (show m < 2 ^ H by omega) (gI τ 55) (iZ ((2 ^ H - 1 : Nat) : Int)) (f_X10_lookOnward_11 n) H FU 0 (sI τ 55 m (-1)) (by omega) (by unfold FU; omega) (h.to f1) (fun j hj => by rw [g_sI_ne (by omega)]) (by rw [g_sI_eq]; rfl)
      obtain ⟨τ', i1, i2, i3⟩ := ih n τ1 (by omega) (by omega) ((h.to f1).to f2) (gdA_step hH g (by omega) q1 q2)
      refine ⟨τ', ?_, i2, (f1.tr f2).tr i3⟩
      rw [← i1, ← m1_iZ]
      exact e1
theorem m_look {R H : Nat} {a : Nat → Int32} (hR : R ≤ 12) (hH : H ≤ 8) (ha : okH a) {τ : St} (h : Hmd R H a τ) : ∃ τ', f_X10_lookOnward τ = some τ' ∧ gdA R a H (gI τ' 55) 0 ∧ frm [55] [] τ τ' := by
  have hp := pow8 hH
  have hp1 : 0 < 2 ^ H := Nat.pow_pos (by omega)
  unfold f_X10_lookOnward f_X10_lookOnward_9
  have e1 : shlI 1 (gI τ 38 33) - 1 = iZ ((2 ^ H - 1 : Nat) : Int) := by
    have : (1 : Int32) = iZ 1 := rfl
    rw [sh_nI (H := H) (by omega) (by rw [h.2.1, iZt (by omega)]), this, iZ_sub]; congr 1; omega
  have eF : FU = (FU - 1) + 1 := by unfold FU; omega
  rw [e1, eF, f_X10_lookOnward_11, if_neg (by rw [lI, t_0, iZt (by omega)]; omega), if_pos rfl]
  unfold f_X10_lookOnward_30
  rw [gd_t (iZb (by omega) (by omega)), iZc (by omega)]
  have f1 : frm [55] [] τ (sI τ 55 (2 ^ H - 1) 0) := frm_sI (frm.rf τ) (by simp)
  have e3 := m_33f hH (iZ ((2 ^ H - 1 : Nat) : Int)) (f_X10_lookOnward_11 (FU - 1)) H FU 0 (sI τ 55 (2 ^ H - 1) 0) (by omega) (by unfold FU; omega) (h.to f1)
  obtain ⟨τ', i1, i2, i3⟩ := m_11 hR hH ha (2 ^ H - 1) (FU - 1) (sI τ 55 (2 ^ H - 1) 0) (by omega) (by unfold FU; omega) (h.to f1) ⟨by rw [g_sI_eq], fun t h1 h2 => by omega⟩
  refine ⟨τ', ?_, i2, f1.tr i3⟩
  rw [← i1, ← m1_iZ]
  exact e3

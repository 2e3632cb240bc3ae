/-! WHAT A BELL MISSES: the model's alike -/
abbrev W52 : List Nat := [52, 53]
theorem Rear.m52 {τ τ' : St} (h : Rear τ) (f : frm W52 [] τ τ') : Rear τ' := h.to (f.same rfl)
theorem m_93 {m w a k : Nat} {P Q : Nat → Int} {e16 : Nat → Int32} (hm : m ≤ 99) (hm2 : 2 ≤ m) (hw : w < m) (ha : a < 10) (hk : k < m) (x1 x3 : Int32) (K1 : Int32 → Int32 → Int32 → St → Option (Int64 × St)) (K : Int32 → Int32 → Int32 → Int32 → Int32 → Int32 → St → Option (Int64 × St)) : ∀ M n d : Nat, ∀ τ : St, d + M = 10 → M < n → Rear τ → gI τ 16 = e16 → (∀ t, t < m → gJ τ 52 t = jZ (P t)) → (∀ t, t < m → gJ τ 53 t = jZ (Q t + esum (fun d => trm m w P (Fo e16 a) t k d) d)) → ∃ τ', f_X10_alike_93 K1 K n x1 (iZ (m : Int)) x3 (iZ (a : Int)) (iZ (w : Int)) (iZ (k : Int)) (iZ (d : Int)) τ = K x1 (iZ (m : Int)) x3 (iZ (a : Int)) (iZ (w : Int)) (iZ ((k + 1 : Nat) : Int)) τ' ∧ (∀ t, t < m → gJ τ' 53 t = jZ (Q t + esum (fun d => trm m w P (Fo e16 a) t k d) 10)) ∧ frm [53] [] τ τ' := by
  intro M
  induction M with
  | zero =>
    intro n d τ e hn hR h16 hP hQ
    cases n with
    | zero => omega
    | succ n =>
      have : d = 10 := by omega
      subst this
      refine ⟨τ, ?_, hQ, frm.rf τ⟩
      rw [f_X10_alike_93, if_pos (by rw [leI, t_10, iZt (by omega)]; omega), iZs]
  | succ M ih =>
    intro n d τ e hn hR h16 hP hQ
    cases n with
    | zero => omega
    | succ n =>
      have hdw : d * w < 1000 := by
        have : d * w ≤ 9 * 99 := Nat.mul_le_mul (by omega) (by omega)
        omega
      have ei : rmI (iZ (k : Int) + iZ (d : Int) * iZ (w : Int)) (iZ (m : Int)) = iZ (((k + d * w) % m : Nat) : Int) := by
        rw [iZm, iZa, iZ_rm (by omega) (by omega) (by omega) (by omega), ← Int.natCast_emod]
      have hpl : (k + d * w) % m < m := Nat.mod_lt _ (by omega)
      have go : ∀ y : Int32, y.toInt = Fo e16 a d → ∃ τ', f_X10_alike_152 K1 K (f_X10_alike_93 K1 K n) x1 (iZ (m : Int)) x3 (iZ (a : Int)) (iZ (w : Int)) (iZ (k : Int)) (iZ (d : Int)) y (gJ τ 52 k) (gJ τ 53 ((k + d * w) % m)) (iZ (((k + d * w) % m : Nat) : Int)) τ = K x1 (iZ (m : Int)) x3 (iZ (a : Int)) (iZ (w : Int)) (iZ ((k + 1 : Nat) : Int)) τ' ∧ (∀ t, t < m → gJ τ' 53 t = jZ (Q t + esum (fun d => trm m w P (Fo e16 a) t k d) 10)) ∧ frm [53] [] τ τ' := by
        intro y hy
        unfold f_X10_alike_152
        rw [gd_t (iZb (by omega) (by omega)), iZs, iZc (by omega), hP k hk, hQ _ hpl, x64, hy, jZ_mul, jZ_add]
        have fr : frm [53] [] τ (sJ τ 53 ((k + d * w) % m) (jZ (Q ((k + d * w) % m) + esum (fun d' => trm m w P (Fo e16 a) ((k + d * w) % m) k d') d + P k * Fo e16 a d))) := frm_sJ (frm.rf τ) (by simp)
        obtain ⟨τ', i1, i2, i3⟩ := ih n (d + 1) _ (by omega) (by omega) (hR.m52 (fr.mo2 (by decide) (by simp))) (by rw [fr.rI (by decide)]; exact h16) (fun t ht => by rw [g_sJ_ne (by omega)]; exact hP t ht) (fun t ht => by
          have es : esum (fun d => trm m w P (Fo e16 a) t k d) (d + 1) = esum (fun d => trm m w P (Fo e16 a) t k d) d + (if (k + d * w) % m = t then P k * Fo e16 a d else 0) := rfl
          rw [es]
          by_cases q : (k + d * w) % m = t
          · rw [← q, g_sJ_eq, if_pos rfl]
            congr 1
            omega
          · rw [g_sJ_ne (by omega), hQ t ht, if_neg q, Int.add_zero])
        exact ⟨τ', i1, i2, fr.tr i3⟩
      rw [f_X10_alike_93, if_neg (by rw [leI, t_10, iZt (by omega)]; omega), gd_t (iZ_nz (by omega) (by omega) (by omega)), ei, gd_t (iZb (by omega) (by omega)), gd_t (iZb (show k < 99 by omega) (by omega)), iZc (show k < 2147483648 by omega), iZc (show (k + d * w) % m < 2147483648 by omega)]
      obtain ⟨r1, r2, r3, r4, r5⟩ := hR.1 a ha
      by_cases c : d = a
      · rw [if_pos (by rw [c]), bnd (s_itself τ d (by omega) hR)]
        refine go (gI τ 16 (11 * d)) ?_
        show _ = (e16 (10 * a + d)).toInt
        rw [h16, c]
        congr 2
        omega
      · rw [if_neg (by rw [eI, iZt (by omega), iZt (by omega)]; omega), ten_a, iZa, gd_t (iZb (show 10 * a + d < 100 by omega) (by omega)), iZc (show 10 * a + d < 2147483648 by omega)]
        refine go _ ?_
        show _ = (e16 (10 * a + d)).toInt
        rw [← h16, r3 d (by omega) c]
theorem m_171 {m : Nat} {P : Nat → Int} (hm : m ≤ 99) (x1 x3 : Int32) (K1 : Int32 → Int32 → Int32 → St → Option (Int64 × St)) : ∀ M n k : Nat, ∀ τ : St, k + M = m → M < n → (∀ t, t < m → gJ τ 53 t = jZ (P t)) → (∀ t, t < k → gJ τ 52 t = jZ (P t)) → ∃ τ', f_X10_alike_171 K1 n x1 (iZ (m : Int)) x3 (iZ (k : Int)) τ = K1 x1 (iZ (m : Int)) (x3 + 1) τ' ∧ (∀ t, t < m → gJ τ' 52 t = jZ (P t)) ∧ frm [52] [] τ τ' := by
  intro M
  induction M with
  | zero =>
    intro n k τ e hn h53 h52
    cases n with
    | zero => omega
    | succ n =>
      have : k = m := by omega
      subst this
      refine ⟨τ, ?_, h52, frm.rf τ⟩
      rw [f_X10_alike_171, if_pos (by rw [leI]; exact Int.le_refl _)]
  | succ M ih =>
    intro n k τ e hn h53 h52
    cases n with
    | zero => omega
    | succ n =>
      rw [f_X10_alike_171, if_neg (by rw [leI, iZt (by omega), iZt (by omega)]; omega), gd_t (iZb (show k < 99 by omega) (by omega)), gd_t (iZb (show k < 99 by omega) (by omega)), iZc (show k < 2147483648 by omega), h53 k (by omega), iZs]
      have fr : frm [52] [] τ (sJ τ 52 k (jZ (P k))) := frm_sJ (frm.rf τ) (by simp)
      obtain ⟨τ', i1, i2, i3⟩ := ih n (k + 1) (sJ τ 52 k (jZ (P k))) (by omega) (by omega) (fun t ht => by rw [g_sJ_ne (by omega)]; exact h53 t ht) (fun t ht => by
        by_cases c : t = k
        · rw [c, g_sJ_eq]
        · rw [g_sJ_ne (by omega)]; exact h52 t (by omega))
      exact ⟨τ', i1, i2, fr.tr i3⟩
theorem m_84 {m w a : Nat} {P : Nat → Int} {e16 : Nat → Int32} (hm : m ≤ 99) (hm2 : 2 ≤ m) (hw : w < m) (ha : a < 10) (x1 x3 : Int32) (K1 : Int32 → Int32 → Int32 → St → Option (Int64 × St)) : ∀ M n k : Nat, ∀ τ : St, k + M = m → M < n → Rear τ → gI τ 16 = e16 → (∀ t, t < m → gJ τ 52 t = jZ (P t)) → (∀ t, t < m → gJ τ 53 t = jZ (esum (fun k => esum (fun d => trm m w P (Fo e16 a) t k d) 10) k)) → ∃ τ', f_X10_alike_84 K1 n x1 (iZ (m : Int)) x3 (iZ (a : Int)) (iZ (w : Int)) (iZ (k : Int)) τ = K1 x1 (iZ (m : Int)) (x3 + 1) τ' ∧ (∀ t, t < m → gJ τ' 52 t = jZ (S2 m w P (Fo e16 a) t)) ∧ frm W52 [] τ τ' := by
  intro M
  induction M with
  | zero =>
    intro n k τ e hn hR h16 h52 h53
    cases n with
    | zero => omega
    | succ n =>
      have : k = m := by omega
      subst this
      obtain ⟨τ', i1, i2, i3⟩ := m_171 (P := S2 k w P (Fo e16 a)) hm x1 x3 K1 k FU 0 τ (by omega) (by unfold FU; omega) h53 (fun t ht => by omega)
      refine ⟨τ', ?_, i2, i3.mo2 (by decide) (by simp)⟩
      rw [f_X10_alike_84, if_pos (by rw [leI]; exact Int.le_refl _)]
      exact i1
  | succ M ih =>
    intro n k τ e hn hR h16 h52 h53
    cases n with
    | zero => omega
    | succ n =>
      obtain ⟨τ1, e1, q1, f1⟩ := m_93 (Q := fun t => esum (fun k => esum (fun d => trm m w P (Fo e16 a) t k d) 10) k) hm hm2 hw ha (show k < m by omega) x1 x3 K1 (f_X10_alike_84 K1 n) 10 FU 0 τ (by omega) (by unfold FU; omega) hR h16 h52 (fun t ht => by
        rw [h53 t ht]
        congr 1
        exact (Int.add_zero _).symm)
      have f1' : frm W52 [] τ τ1 := f1.mo2 (by decide) (by simp)
      obtain ⟨τ', i1, i2, i3⟩ := ih n (k + 1) τ1 (by omega) (by omega) (hR.m52 f1') (by rw [f1.rI (by decide)]; exact h16) (fun t ht => by
        rw [(f1 52 t (by decide) (by simp)).2.1]; exact h52 t ht) (fun t ht => q1 t ht)
      refine ⟨τ', ?_, i2, f1'.tr i3⟩
      rw [f_X10_alike_84, if_neg (by rw [leI, iZt (by omega), iZt (by omega)]; omega)]
      exact e1.trans i1
theorem m_61 {m w a : Nat} {P : Nat → Int} {e16 : Nat → Int32} (hm : m ≤ 99) (hm2 : 2 ≤ m) (hw : w < m) (ha : a < 10) (x1 x3 : Int32) (K1 : Int32 → Int32 → Int32 → St → Option (Int64 × St)) : ∀ M n k : Nat, ∀ τ : St, k + M = m → M < n → Rear τ → gI τ 16 = e16 → (∀ t, t < m → gJ τ 52 t = jZ (P t)) → (∀ t, t < k → gJ τ 53 t = 0) → ∃ τ', f_X10_alike_61 K1 n x1 (iZ (m : Int)) x3 (iZ (a : Int)) (iZ (w : Int)) (iZ (k : Int)) τ = K1 x1 (iZ (m : Int)) (x3 + 1) τ' ∧ (∀ t, t < m → gJ τ' 52 t = jZ (S2 m w P (Fo e16 a) t)) ∧ frm W52 [] τ τ' := by
  intro M
  induction M with
  | zero =>
    intro n k τ e hn hR h16 h52 h53
    cases n with
    | zero => omega
    | succ n =>
      obtain ⟨τ', i1, i2, i3⟩ := m_84 hm hm2 hw ha x1 x3 K1 m FU 0 τ (by omega) (by unfold FU; omega) hR h16 h52 (fun t ht => by
        rw [h53 t (by omega)]; rfl)
      refine ⟨τ', ?_, i2, i3⟩
      rw [f_X10_alike_61, if_pos (by rw [leI, iZt (by omega), iZt (by omega)]; omega)]
      exact i1
  | succ M ih =>
    intro n k τ e hn hR h16 h52 h53
    cases n with
    | zero => omega
    | succ n =>
      have fr : frm W52 [] τ (sJ τ 53 k 0) := frm_sJ (frm.rf τ) (by simp)
      obtain ⟨τ', i1, i2, i3⟩ := ih n (k + 1) (sJ τ 53 k 0) (by omega) (by omega) (hR.m52 fr) (by rw [fr.rI (by decide)]; exact h16) (fun t ht => by rw [g_sJ_ne (by omega)]; exact h52 t ht) (fun t ht => by
        by_cases c : t = k
        · rw [c, g_sJ_eq]
        · rw [g_sJ_ne (by omega)]; exact h53 t (by omega))
      refine ⟨τ', ?_, i2, fr.tr i3⟩
      rw [f_X10_alike_61, if_neg (by rw [leI, iZt (by omega), iZt (by omega)]; omega), gd_t (iZb (show k < 99 by omega) (by omega)), iZc (show k < 2147483648 by omega), iZs]
      exact i1
theorem m_30 {m v : Nat} (hm : m ≤ 99) (hm2 : 2 ≤ m) (hv : v < 10 ^ 9) (e16 : Nat → Int32) : ∀ M n r : Nat, ∀ τ : St, r + M = nd v → M < n → Rear τ → gI τ 16 = e16 → (∀ t, t < m → gJ τ 52 t = jZ (vA m v (Fo e16) r t)) → ∃ τ', f_X10_alike_30 n (iZ (v : Int)) (iZ (m : Int)) (iZ (r : Int)) τ = some (jZ (vA m v (Fo e16) (nd v) (v % m)), τ') ∧ frm W52 [] τ τ' := by
  have e9 : 10 ^ 9 = 1000000000 := by decide
  have e18 : 10 ^ 18 = 1000000000000000000 := by decide
  have hn9 : nd v ≤ 9 := (nd_le (by omega)).mpr hv
  have ev : (iZ (v : Int)).toInt64 = jZ (v : Int) := iZ_l (by omega) (by omega)
  have em : (iZ (m : Int)).toInt64 = jZ (m : Int) := iZ_l (by omega) (by omega)
  have hvm : v % m < m := Nat.mod_lt _ (by omega)
  intro M
  induction M with
  | zero =>
    intro n r τ e hn hR h16 h52
    cases n with
    | zero => omega
    | succ n =>
      have er : rmI (iZ (v : Int)) (iZ (m : Int)) = iZ ((v % m : Nat) : Int) := by
        rw [iZ_rm (by omega) (by omega) (by omega) (by omega), ← Int.natCast_emod]
      refine ⟨τ, ?_, frm.rf τ⟩
      rw [f_X10_alike_30, ev, bnd (s_many τ v (by omega)), if_pos (by rw [leI, iZt (by omega), iZt (by omega)]; omega), gd_t (iZ_nz (by omega) (by omega) (by omega)), er, gd_t (iZb (by omega) (by omega)), iZc (by omega), h52 _ hvm, show r = nd v by omega]
  | succ M ih =>
    intro n r τ e hn hR h16 h52
    cases n with
    | zero => omega
    | succ n =>
      have hp12 := p12 (k := r) (by omega)
      have ew : (rmJ (jZ (10 ^ r)) (jZ (m : Int))).toInt32 = iZ ((10 ^ r % m : Nat) : Int) := by
        rw [jpow]
        generalize 10 ^ r = W at hp12 ⊢
        rw [jZ_rm (by omega) (by omega) (by omega) (by omega), ← Int.natCast_emod, jZ_i]
      have hd : dgN v r < 10 := Nat.mod_lt _ (by omega)
      obtain ⟨τ1, e1, q1, f1⟩ := m_61 (P := vA m v (Fo e16) r) (w := 10 ^ r % m) (a := dgN v r) hm hm2 (Nat.mod_lt _ (by omega)) hd (iZ (v : Int)) (iZ (r : Int)) (f_X10_alike_30 n) m FU 0 τ (by omega) (by unfold FU; omega) hR h16 h52 (fun t ht => by omega)
      obtain ⟨τ', i1, i2⟩ := ih n (r + 1) τ1 (by omega) (by omega) (hR.m52 f1) (by rw [f1.rI (by decide)]; exact h16) (fun t ht => q1 t ht)
      refine ⟨τ', ?_, f1.tr i2⟩
      rw [f_X10_alike_30, ev, bnd (s_many τ v (by omega)), if_neg (by rw [leI, iZt (by omega), iZt (by omega)]; omega), bnd (s_digitOf10 τ v r (by omega) (by omega)), bnd (s_ten τ r (by omega)), em, gd_t (jZ_nz (by omega) (by omega) (by omega)), ew]
      unfold f_X10_alike_58
      refine Eq.trans e1 ?_
      rw [iZs]
      exact i1
theorem m_2a {m v : Nat} (hm : m ≤ 99) (hm2 : 2 ≤ m) (hv : v < 10 ^ 9) (e16 : Nat → Int32) : ∀ M n k : Nat, ∀ τ : St, k + M = m → M < n → Rear τ → gI τ 16 = e16 → (∀ t, t < k → gJ τ 52 t = jZ (vA m v (Fo e16) 0 t)) → ∃ τ', f_X10_alike_2 n (iZ (v : Int)) (iZ (m : Int)) (iZ (k : Int)) τ = some (jZ (vA m v (Fo e16) (nd v) (v % m)), τ') ∧ frm W52 [] τ τ' := by
  have e9 : 10 ^ 9 = 1000000000 := by decide
  have e18 : 10 ^ 18 = 1000000000000000000 := by decide
  have hn9 : nd v ≤ 9 := (nd_le (by omega)).mpr hv
  intro M
  induction M with
  | zero =>
    intro n k τ e hn hR h16 h52
    cases n with
    | zero => omega
    | succ n =>
      obtain ⟨τ', i1, i2⟩ := m_30 hm hm2 hv e16 (nd v) FU 0 τ (by omega) (by unfold FU; omega) hR h16 (fun t ht => h52 t (by omega))
      refine ⟨τ', ?_, i2⟩
      rw [f_X10_alike_2, if_pos (by rw [leI, iZt (by omega), iZt (by omega)]; omega)]
      exact i1
  | succ M ih =>
    intro n k τ e hn hR h16 h52
    cases n with
    | zero => omega
    | succ n =>
      have go : ∀ y : Int64, y = jZ (if k = 0 then 1 else 0) → ∃ τ', f_X10_alike_21 (f_X10_alike_2 n) (iZ (v : Int)) (iZ (m : Int)) (iZ (k : Int)) y (iZ (k : Int)) τ = some (jZ (vA m v (Fo e16) (nd v) (v % m)), τ') ∧ frm W52 [] τ τ' := by
        intro y hy
        unfold f_X10_alike_21
        rw [gd_t (iZb (show k < 99 by omega) (by omega)), iZc (show k < 2147483648 by omega), iZs]
        have fr : frm W52 [] τ (sJ τ 52 k y) := frm_sJ (frm.rf τ) (by simp)
        obtain ⟨τ', i1, i2⟩ := ih n (k + 1) (sJ τ 52 k y) (by omega) (by omega) (hR.m52 fr) (by rw [fr.rI (by decide)]; exact h16) (fun t ht => by
          by_cases c : t = k
          · rw [c, g_sJ_eq, hy]; rfl
          · rw [g_sJ_ne (by omega)]; exact h52 t (by omega))
        exact ⟨τ', i1, fr.tr i2⟩
      rw [f_X10_alike_2, if_neg (by rw [leI, iZt (by omega), iZt (by omega)]; omega)]
      by_cases c : k = 0
      · rw [if_pos (by rw [c]; rfl)]
        exact go 1 (by rw [if_pos c]; rfl)
      · rw [if_neg (by rw [eI, iZt (by omega), t_0]; omega)]
        exact go 0 (by rw [if_neg c]; rfl)
theorem m_alike {m v : Nat} (hm : m ≤ 99) (hm2 : 2 ≤ m) (hv : v < 10 ^ 9) {τ : St} (h : Rear τ) : ∃ τ', f_X10_alike (iZ (v : Int)) (iZ (m : Int)) τ = some (jZ (vA m v (Fs τ) (nd v) (v % m)), τ') ∧ frm W52 [] τ τ' :=
  m_2a hm hm2 hv (gI τ 16) m FU 0 τ (by omega) (by unfold FU; omega) h rfl (fun t ht => by omega)
theorem m_rightly_go {v : Nat} (hv : v < 10 ^ 9) {τ : St} (h : Rear τ) : ∀ M n k : Nat, k + M = nd v → M < n → f_X10_rightly_5 n (iZ (v : Int)) (jZ (prodF (fac τ v v) k)) (iZ (k : Int)) τ = some (jZ (prodF (fac τ v v) (nd v)), τ) := by
  have e9 : 10 ^ 9 = 1000000000 := by decide
  have e18 : 10 ^ 18 = 1000000000000000000 := by decide
  have hn9 : nd v ≤ 9 := (nd_le (by omega)).mpr hv
  have ev : (iZ (v : Int)).toInt64 = jZ (v : Int) := iZ_l (by omega) (by omega)
  intro M
  induction M with
  | zero =>
    intro n k e hn
    cases n with
    | zero => omega
    | succ n =>
      rw [f_X10_rightly_5, ev, bnd (s_many τ v (by omega)), if_pos (by rw [leI, iZt (by omega), iZt (by omega)]; omega), show k = nd v by omega]
  | succ M ih =>
    intro n k e hn
    cases n with
    | zero => omega
    | succ n =>
      have la : v / 10 ^ k % 10 < 10 := Nat.mod_lt _ (by omega)
      rw [f_X10_rightly_5, ev, bnd (s_many τ v (by omega)), if_neg (by rw [leI, iZt (by omega), iZt (by omega)]; omega), bnd (s_digitOf10 τ v k (by omega) (by omega)), bnd (s_itself τ _ la h)]
      unfold f_X10_rightly_31
      rw [iZs, x64]
      have hp : prodF (fac τ v v) (k + 1) = prodF (fac τ v v) k * (gI τ 16 (11 * (v / 10 ^ k % 10))).toInt := by
        show prodF (fac τ v v) k * (gI τ 16 (10 * (v / 10 ^ k % 10) + v / 10 ^ k % 10)).toInt = _
        rw [show 10 * (v / 10 ^ k % 10) + v / 10 ^ k % 10 = 11 * (v / 10 ^ k % 10) by omega]
      rw [jZ_mul, ← hp]
      exact ih n (k + 1) (by omega) (by omega)
theorem m_rightly {v : Nat} (hv : v < 10 ^ 9) {τ : St} (h : Rear τ) : f_X10_rightly (iZ (v : Int)) τ = some (jZ (prodF (fac τ v v) (nd v)), τ) :=
  m_rightly_go hv h (nd v) FU 0 (by omega) (by
    have e9 : 10 ^ 9 = 1000000000 := by decide
    have e18 : 10 ^ 18 = 1000000000000000000 := by decide
    have hn9 : nd v ≤ 9 := (nd_le (by omega)).mpr hv
    unfold FU; omega)
